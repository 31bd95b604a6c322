variable {l : Launch} {D : va_G} {cy : ClassId} {q : Nat → Nat} {nK sc pi re bk ss sm pf mf th lo : Int} {st le be te ab bl ka bg ln ns me pa lz go co bs gr : Int → Int}
theorem hd_X4_addPair : yX4_addPair.cls = RX4 ∧ yX4_addPair.cls ≠ "java/lang/invoke/MethodHandle" ∧ yX4_addPair.cls ≠ "java/lang/invoke/VarHandle" ∧ (parseMethodDescriptor yX4_addPair.desc).map (fun d => d.parameters.length) = some 2 := by decide +kernel
set_option maxHeartbeats 4000000 in
set_option maxRecDepth 100000 in
theorem c_X4_addPair (a : Int) (b : Int) (h : (0 ≤ a ∧ a ≤ 23) ∧ (0 ≤ b ∧ b ≤ 23)) : MV l D cy yX4_addPair wsX4_addPair ({ frames := 1, cells := 0, slots := 0, locals := 15 } : Room) [.ref (q 14), .int (iI a), .int (iI b)] (wT q cy nK st le be te ab bl ka bg ln ns me sc pi re bk pa lz go ss sm pf mf) (wT q cy nK st le be te ab bl ka bg ln ns me sc pi re bk (apP pa a b) lz go ss sm pf mf) := by
  refine MV.ofW (cc := cX4_addPair) (maxL := 3) (ret := none) (by decide) rfl (Nat.le_of_ble_eq_true rfl) ?_
  intro p e s m below meth c A ls X hK hP hD hA hS hl
  obtain ⟨hx, hb, hml, hr, hts, hown, hlocks⟩ := id X
  have hl : lv_has ls 3 [(0, .ref (q 14)), (1, .int (iI a)), (2, .int (iI b))] := hl
  have f_9 := hts (Cond.fieldLink RX4 9 "TwoKeys$Sharing" "pairs" "[I") (by decide +kernel)
  have k_RX4_52_Lib_Math_min_name := hts (Cond.methodLink RX4 52 Lib.Math.min.name) (by decide +kernel)
  have k_static_Lib_Math_min_name := hts (Cond.static Lib.Math.min.name) (by decide +kernel)
  have k_ialized__java_lang_Math_ := hts (Cond.initialized "java/lang/Math") (by decide +kernel)
  have k_h_min_code_2__some__int_ := hts (Cond.code Lib.Math.min.name Lib.Math.min.code 2 (some .int)) (by decide +kernel)
  have k_RX4_58_Lib_Math_max_name := hts (Cond.methodLink RX4 58 Lib.Math.max.name) (by decide +kernel)
  have k_static_Lib_Math_max_name := hts (Cond.static Lib.Math.max.name) (by decide +kernel)
  have k_h_max_code_2__some__int_ := hts (Cond.code Lib.Math.max.name Lib.Math.max.code 2 (some .int)) (by decide +kernel)
  have n_X4 : ∀ w ∈ u_ws RX4 TX4 5, w ∈ wsX4_addPair := by decide +kernel
  refine lv_iload_n hx hb dX4_addPair_0 rfl (lv_at hl 1 rfl) ?_
  refine lv_iload_n hx hb dX4_addPair_1 rfl (lv_at hl 2 rfl) ?_
  refine z_icmp_eq (tgt := 28) hx hb dX4_addPair_2 (by decide) (by omega) (fun c_1 => ?_) (fun c_1 => ?_)
  · have hw9 : wT q cy nK st le be te ab bl ka bg ln ns me sc pi re bk pa lz go ss sm pf mf = wT q cy nK st le be te ab bl ka bg ln ns me sc pi re bk (apP pa a b) lz go ss sm pf mf := by unfold apP; first | (rw [if_pos (by assumption)]; done) | (rw [if_neg (by assumption)]; done)
    rw [hw9] at hP hD
    exact z_vret X hK hP hD hS dX4_addPair_28
  · refine lv_aload_n hx hb dX4_addPair_5 rfl (lv_at hl 0 rfl) ?_
    refine va_get (D := D) (ci := 4) (v := .ref (q 15)) (C := RX4) (T := TX4) (N := 5) hx hb hts n_X4 hown hK hP 14 rfl rfl 0 (by decide) f_9 (fun _ h9 => h9) rfl dX4_addPair_6 ?_
    refine lv_iload_n hx hb dX4_addPair_9 rfl (lv_at hl 1 rfl) ?_
    refine lv_iload_n hx hb dX4_addPair_10 rfl (lv_at hl 2 rfl) ?_
    refine z_min hx hb (by rw [hml]; exact hl.1.symm) hown k_RX4_52_Lib_Math_min_name k_static_Lib_Math_min_name k_ialized__java_lang_Math_ k_h_min_code_2__some__int_ (Nat.le_of_ble_eq_true rfl) (Nat.le_of_ble_eq_true rfl) (Nat.zero_le _) (Nat.zero_le _) (by omega) dX4_addPair_11 ?_
    refine lv_bipush (v := iI (24)) hx hb dX4_addPair_14 (by decide) ?_
    refine z_imul hx hb dX4_addPair_16 ?_
    refine lv_iload_n hx hb dX4_addPair_17 rfl (lv_at hl 1 rfl) ?_
    refine lv_iload_n hx hb dX4_addPair_18 rfl (lv_at hl 2 rfl) ?_
    refine z_max hx hb (by rw [hml]; exact hl.1.symm) hown k_RX4_58_Lib_Math_max_name k_static_Lib_Math_max_name k_ialized__java_lang_Math_ k_h_max_code_2__some__int_ (Nat.le_of_ble_eq_true rfl) (Nat.le_of_ble_eq_true rfl) (Nat.zero_le _) (Nat.zero_le _) (by omega) dX4_addPair_19 ?_
    refine z_iadd hx hb dX4_addPair_22 ?_
    refine lv_dup2_11 hx hb dX4_addPair_23 rfl rfl ?_
    refine z_iald hx hb hK hP 15 0 rfl rfl (by omega) dX4_addPair_24 ?_
    refine lv_iconst (v := iI (1)) hx hb dX4_addPair_25 rfl ?_
    refine z_iadd hx hb dX4_addPair_26 ?_
    refine z_iast (v := (pa (((min a b) * 24) + (max a b))) + 1) hx hb hK hP hD hS 15 0 rfl rfl (by omega) dX4_addPair_27 (fun H locs hP hD hS => ?_)
    have hP : va_P D vwCl (wT q cy nK st le be te ab bl ka bg ln ns me sc pi re bk (uZ pa (((min a b) * 24) + (max a b)) ((pa (((min a b) * 24) + (max a b))) + 1)) lz go ss sm pf mf) H := hP
    have hD : va_D A (wT q cy nK st le be te ab bl ka bg ln ns me sc pi re bk (uZ pa (((min a b) * 24) + (max a b)) ((pa (((min a b) * 24) + (max a b))) + 1)) lz go ss sm pf mf) := hD
    have hw9 : wT q cy nK st le be te ab bl ka bg ln ns me sc pi re bk (uZ pa (((min a b) * 24) + (max a b)) ((pa (((min a b) * 24) + (max a b))) + 1)) lz go ss sm pf mf = wT q cy nK st le be te ab bl ka bg ln ns me sc pi re bk (apP pa a b) lz go ss sm pf mf := by unfold apP; first | (rw [if_pos (by assumption)]; done) | (rw [if_neg (by assumption)]; done)
    rw [hw9] at hP hD
    exact z_vret X hK hP hD hS dX4_addPair_28

theorem hd_X4_gatherPiece : yX4_gatherPiece.cls = RX4 ∧ yX4_gatherPiece.cls ≠ "java/lang/invoke/MethodHandle" ∧ yX4_gatherPiece.cls ≠ "java/lang/invoke/VarHandle" ∧ (parseMethodDescriptor yX4_gatherPiece.desc).map (fun d => d.parameters.length) = some 2 := by decide +kernel
set_option maxHeartbeats 4000000 in
set_option maxRecDepth 100000 in
theorem c_X4_gatherPiece (I : okS nK st le be te ab bl ka bg ln ns me sc pi re bk) (p9 : Int) (h : 0 ≤ p9 ∧ p9 ≤ 3) : MV l D cy yX4_gatherPiece wsX4_gatherPiece ({ frames := 2, cells := 0, slots := 0, locals := 43 } : Room) [.ref (q 14), .ref (q 9), .int (iI p9)] (wT q cy nK st le be te ab bl ka bg ln ns me sc pi re bk pa lz go ss sm pf mf) (wT q cy nK st le be te ab bl ka bg ln ns me sc pi re bk (fun j => pa j + sZ (fun b => sZ (fun a => bP (prP ka bg ln j a b)) (p9 * 40) b) (p9 * 40) (p9 * 40 + ns p9)) lz go ss sm pf mf) := by
  refine MV.ofW (cc := cX4_gatherPiece) (maxL := 5) (ret := none) (by decide) rfl (Nat.le_of_ble_eq_true rfl) ?_
  intro p e s m below meth c A ls X hK hP hD hA hS hl
  obtain ⟨hx, hb, hml, hr, hts, hown, hlocks⟩ := id X
  have hl : lv_has ls 5 [(0, .ref (q 14)), (1, .ref (q 9)), (2, .int (iI p9))] := hl
  have f_45 := hts (Cond.fieldLink RX4 45 "TwoKeys$Music" "keyAt" "[I") (by decide +kernel)
  have n_X1 : ∀ w ∈ u_ws RX1 TX1 5, w ∈ wsX4_gatherPiece := by decide +kernel
  have iK := I.nK
  have i7 := I.ns p9
  refine lv_aload_n hx hb dX4_gatherPiece_0 rfl (lv_at hl 1 rfl) ?_
  refine lv_iload_n hx hb dX4_gatherPiece_1 rfl (lv_at hl 2 rfl) ?_
  refine z_callVi (ci := 1) (q0 := 9) (As := [.int (iI p9)]) (rest := []) X hK hP hD hA hS hl.1 gX4_gatherPiece_X1_startOf rfl ⟨rfl, rfl⟩ hd_X1_startOf ⟨Nat.le_of_ble_eq_true rfl, Nat.le_of_ble_eq_true rfl⟩ rfl rfl rfl (Nat.le_of_ble_eq_true rfl) ⟨Nat.zero_le _, Nat.zero_le _⟩ rfl dX4_gatherPiece_2 (c_X1_startOf p9) (fun H locs hP hD hS => ?_)
  refine lv_istore_n (lv' := [(3, .int (iI (p9 * 40))), (0, .ref (q 14)), (1, .ref (q 9)), (2, .int (iI p9))]) hx hb dX4_gatherPiece_5 rfl hl (by decide) rfl (fun ls hl => ?_)
  have L_6 : ∀ (n : Nat) (b : Int) (pa1 : Int → Int), (h0 : (p9 * 40) ≤ b ∧ b ≤ (p9 * 40 + ns p9)) → (hf : (p9 * 40 + ns p9) - b < n) → (hr : ∀ j, pa1 j = pa j + sZ (fun b => sZ (fun a => bP (prP ka bg ln j a b)) (p9 * 40) b) (p9 * 40) b) → ∀ (H : Heap) (locs : List Loc) (ls : Array Slot), va_P D vwCl (wT q cy nK st le be te ab bl ka bg ln ns me sc pi re bk pa1 lz go ss sm pf mf) H → va_D A (wT q cy nK st le be te ab bl ka bg ln ns me sc pi re bk pa1 lz go ss sm pf mf) → va_S A s.heap H locs → lv_has ls 5 [(3, .int (iI b)), (0, .ref (q 14)), (1, .ref (q 9)), (2, .int (iI p9))] → W p l e ({ frames := 2, cells := 0, slots := 0, locals := 43 } : Room) s m [.ref (q 14), .ref (q 9), .int (iI p9)].toArray below meth c H locs 0 0 (MQ below (zQv D cy (wT q cy nK st le be te ab bl ka bg ln ns me sc pi re bk (fun j => pa j + sZ (fun b => sZ (fun a => bP (prP ka bg ln j a b)) (p9 * 40) b) (p9 * 40) (p9 * 40 + ns p9)) lz go ss sm pf mf) A) [.ref (q 14), .ref (q 9), .int (iI p9)].toArray s 0 0 A) (F0 m 6 ls []) := by
    intro n
    induction n with
    | zero =>
      intro b pa1 h0 hf hr
      exfalso; omega
    | succ n ih_6 =>
      intro b pa1 h0 hf hr H locs ls hP hD hS hl
      refine lv_iload_n hx hb dX4_gatherPiece_6 rfl (lv_at hl 0 rfl) ?_
      refine lv_aload_n hx hb dX4_gatherPiece_7 rfl (lv_at hl 2 rfl) ?_
      refine lv_iload_n hx hb dX4_gatherPiece_8 rfl (lv_at hl 3 rfl) ?_
      refine z_callVi (ci := 1) (q0 := 9) (As := [.int (iI p9)]) (rest := [.int (iI b)]) X hK hP hD hA hS hl.1 gX4_gatherPiece_X1_endOf rfl ⟨rfl, rfl⟩ hd_X1_endOf ⟨Nat.le_of_ble_eq_true rfl, Nat.le_of_ble_eq_true rfl⟩ rfl rfl rfl (Nat.le_of_ble_eq_true rfl) ⟨Nat.zero_le _, Nat.zero_le _⟩ rfl dX4_gatherPiece_9 (c_X1_endOf I p9 (by omega)) (fun H locs hP hD hS => ?_)
      refine z_icmp_ge (tgt := 67) hx hb dX4_gatherPiece_12 (by decide) (by omega) (fun c_1 => ?_) (fun c_1 => ?_)
      · have hw9 : wT q cy nK st le be te ab bl ka bg ln ns me sc pi re bk pa1 lz go ss sm pf mf = wT q cy nK st le be te ab bl ka bg ln ns me sc pi re bk (fun j => pa j + sZ (fun b => sZ (fun a => bP (prP ka bg ln j a b)) (p9 * 40) b) (p9 * 40) (p9 * 40 + ns p9)) lz go ss sm pf mf := by rw [show pa1 = (fun j => pa j + sZ (fun b => sZ (fun a => bP (prP ka bg ln j a b)) (p9 * 40) b) (p9 * 40) (p9 * 40 + ns p9)) from funext fun j => by rw [hr j, show b = (p9 * 40 + ns p9) by omega]]
        rw [hw9] at hP hD
        exact z_vret X hK hP hD hS dX4_gatherPiece_67
      · refine lv_aload_n hx hb dX4_gatherPiece_15 rfl (lv_at hl 2 rfl) ?_
        refine lv_iload_n hx hb dX4_gatherPiece_16 rfl (lv_at hl 3 rfl) ?_
        refine z_callVi (ci := 1) (q0 := 9) (As := [.int (iI p9)]) (rest := []) X hK hP hD hA hS hl.1 gX4_gatherPiece_X1_startOf rfl ⟨rfl, rfl⟩ hd_X1_startOf ⟨Nat.le_of_ble_eq_true rfl, Nat.le_of_ble_eq_true rfl⟩ rfl rfl rfl (Nat.le_of_ble_eq_true rfl) ⟨Nat.zero_le _, Nat.zero_le _⟩ rfl dX4_gatherPiece_17 (c_X1_startOf p9) (fun H locs hP hD hS => ?_)
        refine lv_istore (lv' := [(4, .int (iI (p9 * 40))), (3, .int (iI b)), (0, .ref (q 14)), (1, .ref (q 9)), (2, .int (iI p9))]) hx hb dX4_gatherPiece_20 hl (by decide) rfl (fun ls hl => ?_)
        have L_22 : ∀ (n : Nat) (a : Int) (pa2 : Int → Int), (h3 : (p9 * 40) ≤ a ∧ a ≤ b) → (hf2 : b - a < n) → (hr2 : ∀ j, pa2 j = pa1 j + sZ (fun a => bP (prP ka bg ln j a b)) (p9 * 40) a) → ∀ (H : Heap) (locs : List Loc) (ls : Array Slot), va_P D vwCl (wT q cy nK st le be te ab bl ka bg ln ns me sc pi re bk pa2 lz go ss sm pf mf) H → va_D A (wT q cy nK st le be te ab bl ka bg ln ns me sc pi re bk pa2 lz go ss sm pf mf) → va_S A s.heap H locs → lv_has ls 5 [(4, .int (iI a)), (3, .int (iI b)), (0, .ref (q 14)), (1, .ref (q 9)), (2, .int (iI p9))] → W p l e ({ frames := 2, cells := 0, slots := 0, locals := 43 } : Room) s m [.ref (q 14), .ref (q 9), .int (iI p9)].toArray below meth c H locs 0 0 (MQ below (zQv D cy (wT q cy nK st le be te ab bl ka bg ln ns me sc pi re bk (fun j => pa j + sZ (fun b => sZ (fun a => bP (prP ka bg ln j a b)) (p9 * 40) b) (p9 * 40) (p9 * 40 + ns p9)) lz go ss sm pf mf) A) [.ref (q 14), .ref (q 9), .int (iI p9)].toArray s 0 0 A) (F0 m 22 ls []) := by
          intro n
          induction n with
          | zero =>
            intro a pa2 h3 hf2 hr2
            exfalso; omega
          | succ n ih_22 =>
            intro a pa2 h3 hf2 hr2 H locs ls hP hD hS hl
            refine lv_iload hx hb dX4_gatherPiece_22 (lv_at hl 0 rfl) ?_
            refine lv_iload_n hx hb dX4_gatherPiece_24 rfl (lv_at hl 1 rfl) ?_
            refine z_icmp_ge (tgt := 61) hx hb dX4_gatherPiece_25 (by decide) (by omega) (fun c_2 => ?_) (fun c_2 => ?_)
            · refine lv_iinc (v := iI (b + 1)) (lv' := [(3, .int (iI (b + 1))), (4, .int (iI a)), (0, .ref (q 14)), (1, .ref (q 9)), (2, .int (iI p9))]) hx hb dX4_gatherPiece_61 hl (k := 1) rfl (iI_add _ _) (by decide) rfl (fun ls hl => ?_)
              refine lv_goto (tgt := 6) hx hb dX4_gatherPiece_64 (by decide) ?_
              exact ih_6 (b + 1) pa2 (by omega) (by omega) (fun j => by rw [hr2 j, hr j, sZ_step (by omega), show a = b by omega, Int.add_assoc]) _ _ _ hP hD hS (lv_sub hl [0, 2, 3, 4] rfl)
            · refine lv_aload_n hx hb dX4_gatherPiece_28 rfl (lv_at hl 3 rfl) ?_
              refine lv_iload hx hb dX4_gatherPiece_29 (lv_at hl 0 rfl) ?_
              refine lv_iload_n hx hb dX4_gatherPiece_31 rfl (lv_at hl 1 rfl) ?_
              refine z_callVi (ci := 1) (q0 := 9) (As := [.int (iI a), .int (iI b)]) (rest := []) X hK hP hD hA hS hl.1 gX4_gatherPiece_X1_soundAtOnce rfl ⟨rfl, rfl⟩ hd_X1_soundAtOnce ⟨Nat.le_of_ble_eq_true rfl, Nat.le_of_ble_eq_true rfl⟩ rfl rfl rfl (Nat.le_of_ble_eq_true rfl) ⟨Nat.zero_le _, Nat.zero_le _⟩ rfl dX4_gatherPiece_32 (c_X1_soundAtOnce I a b (by omega) (by omega)) (fun H locs hP hD hS => ?_)
              refine z_ifp_eq (tgt := 55) hx hb dX4_gatherPiece_35 (by decide) (fun c_3 => ?_) (fun c_3 => ?_)
              · refine lv_iinc (v := iI (a + 1)) (lv' := [(4, .int (iI (a + 1))), (3, .int (iI b)), (0, .ref (q 14)), (1, .ref (q 9)), (2, .int (iI p9))]) hx hb dX4_gatherPiece_55 hl (k := 0) rfl (iI_add _ _) (by decide) rfl (fun ls hl => ?_)
                refine lv_goto (tgt := 22) hx hb dX4_gatherPiece_58 (by decide) ?_
                exact ih_22 (a + 1) pa2 (by omega) (by omega) (fun j => by rw [sZ_step (by omega)]; (try dsimp only); first | (rw [apP_at (by assumption), hr2 j, Int.add_assoc]; done) | (rw [bP_0 (fun z => absurd z.1.2 (by assumption)), Int.add_zero]; exact hr2 j)) _ _ _ hP hD hS (lv_sub hl [0, 1, 2, 3, 4] rfl)
              · refine lv_aload_n hx hb dX4_gatherPiece_38 rfl (lv_at hl 2 rfl) ?_
                refine lv_aload_n hx hb dX4_gatherPiece_39 rfl (lv_at hl 3 rfl) ?_
                refine va_get (D := D) (ci := 1) (v := .ref (q 10)) (C := RX1) (T := TX1) (N := 5) hx hb hts n_X1 hown hK hP 9 rfl rfl 1 (by decide) f_45 (fun _ h9 => h9) rfl dX4_gatherPiece_40 ?_
                refine lv_iload hx hb dX4_gatherPiece_43 (lv_at hl 0 rfl) ?_
                refine z_iald hx hb hK hP 10 0 rfl rfl (by omega) dX4_gatherPiece_45 ?_
                have b_4 := I.ka a
                refine lv_aload_n hx hb dX4_gatherPiece_46 rfl (lv_at hl 3 rfl) ?_
                refine va_get (D := D) (ci := 1) (v := .ref (q 10)) (C := RX1) (T := TX1) (N := 5) hx hb hts n_X1 hown hK hP 9 rfl rfl 1 (by decide) f_45 (fun _ h9 => h9) rfl dX4_gatherPiece_47 ?_
                refine lv_iload_n hx hb dX4_gatherPiece_50 rfl (lv_at hl 1 rfl) ?_
                refine z_iald hx hb hK hP 10 0 rfl rfl (by omega) dX4_gatherPiece_51 ?_
                have b_5 := I.ka b
                refine z_callVv (ci := 4) (q0 := 14) (As := [.int (iI (ka a)), .int (iI (ka b))]) (rest := []) X hK hP hD hA hS hl.1 gX4_gatherPiece_X4_addPair rfl ⟨rfl, rfl⟩ hd_X4_addPair ⟨Nat.le_of_ble_eq_true rfl, Nat.le_of_ble_eq_true rfl⟩ rfl rfl rfl (Nat.le_of_ble_eq_true rfl) ⟨Nat.zero_le _, Nat.zero_le _⟩ rfl dX4_gatherPiece_52 (c_X4_addPair (ka a) (ka b) (by omega)) (fun H locs hP hD hS => ?_)
                refine lv_iinc (v := iI (a + 1)) (lv' := [(4, .int (iI (a + 1))), (3, .int (iI b)), (0, .ref (q 14)), (1, .ref (q 9)), (2, .int (iI p9))]) hx hb dX4_gatherPiece_55 hl (k := 0) rfl (iI_add _ _) (by decide) rfl (fun ls hl => ?_)
                refine lv_goto (tgt := 22) hx hb dX4_gatherPiece_58 (by decide) ?_
                exact ih_22 (a + 1) (apP pa2 (ka a) (ka b)) (by omega) (by omega) (fun j => by rw [sZ_step (by omega)]; (try dsimp only); first | (rw [apP_at (by assumption), hr2 j, Int.add_assoc]; done) | (rw [bP_0 (fun z => absurd z.1.2 (by assumption)), Int.add_zero]; exact hr2 j)) _ _ _ hP hD hS (lv_sub hl [0, 1, 2, 3, 4] rfl)
        exact L_22 41 (p9 * 40) pa1 (by omega) (by omega) (fun j => by rw [sZ_nil (by omega), Int.add_zero]) _ _ _ hP hD hS (lv_sub hl [0, 1, 2, 3, 4] rfl)
  exact L_6 41 (p9 * 40) pa (by omega) (by omega) (fun j => by rw [sZ_nil (by omega), Int.add_zero]) _ _ _ hP hD hS (lv_sub hl [0, 1, 2, 3] rfl)

theorem srZ_b9 {a b : Int} (h : 0 ≤ a) : 0 ≤ srZ a b ∧ srZ a b ≤ a := by
  unfold srZ
  exact ⟨Int.ediv_nonneg h (Int.pow_nonneg (by omega)), Int.ediv_le_self _ h⟩
theorem hd_X4_gather : yX4_gather.cls = RX4 ∧ yX4_gather.cls ≠ "java/lang/invoke/MethodHandle" ∧ yX4_gather.cls ≠ "java/lang/invoke/VarHandle" ∧ (parseMethodDescriptor yX4_gather.desc).map (fun d => d.parameters.length) = some 2 := by decide +kernel
set_option maxHeartbeats 4000000 in
set_option maxRecDepth 100000 in
theorem c_X4_gather (I : okS nK st le be te ab bl ka bg ln ns me sc pi re bk) (b9 : Int) (h : 0 ≤ b9 ∧ b9 ≤ 15) : MW l D cy yX4_gather wsX4_gather ({ frames := 3, cells := 0, slots := 0, locals := 67 } : Room) [.ref (q 14), .ref (q 9), .int (iI b9)] (wT q cy nK st le be te ab bl ka bg ln ns me sc pi re bk pa lz go ss sm pf mf) (fun w8 => ∃ pa3 : Int → Int, w8 = wT q cy nK st le be te ab bl ka bg ln ns me sc pi re bk pa3 lz go ss sm pf mf ∧ (∀ j, 0 ≤ j → j < 576 → pa3 j = prN ka bg ln ns b9 j)) := by
  refine MW.ofW (cc := cX4_gather) (maxL := 4) (ret := none) (by decide) rfl (Nat.le_of_ble_eq_true rfl) ?_
  intro p e s m below meth c A ls X hK hP hD hA hS hl
  obtain ⟨hx, hb, hml, hr, hts, hown, hlocks⟩ := id X
  have hl : lv_has ls 4 [(0, .ref (q 14)), (1, .ref (q 9)), (2, .int (iI b9))] := hl
  have f_9 := hts (Cond.fieldLink RX4 9 "TwoKeys$Sharing" "pairs" "[I") (by decide +kernel)
  have n_X4 : ∀ w ∈ u_ws RX4 TX4 5, w ∈ wsX4_gather := by decide +kernel
  have iK := I.nK
  refine lv_iconst (v := iI (0)) hx hb dX4_gather_0 rfl ?_
  refine lv_istore_n (lv' := [(3, .int (iI 0)), (0, .ref (q 14)), (1, .ref (q 9)), (2, .int (iI b9))]) hx hb dX4_gather_1 rfl hl (by decide) rfl (fun ls hl => ?_)
  have L_2 : ∀ (n : Nat) (i : Int) (pa1 : Int → Int), (h0 : 0 ≤ i ∧ i ≤ 576) → (hf : 576 - i < n) → (hz : ∀ j, 0 ≤ j → j < i → pa1 j = 0) → ∀ (H : Heap) (locs : List Loc) (ls : Array Slot), va_P D vwCl (wT q cy nK st le be te ab bl ka bg ln ns me sc pi re bk pa1 lz go ss sm pf mf) H → va_D A (wT q cy nK st le be te ab bl ka bg ln ns me sc pi re bk pa1 lz go ss sm pf mf) → va_S A s.heap H locs → lv_has ls 4 [(3, .int (iI i)), (0, .ref (q 14)), (1, .ref (q 9)), (2, .int (iI b9))] → W p l e ({ frames := 3, cells := 0, slots := 0, locals := 67 } : Room) s m [.ref (q 14), .ref (q 9), .int (iI b9)].toArray below meth c H locs 0 0 (MQ below (zQw D cy A (fun w8 => ∃ pa3 : Int → Int, w8 = wT q cy nK st le be te ab bl ka bg ln ns me sc pi re bk pa3 lz go ss sm pf mf ∧ (∀ j, 0 ≤ j → j < 576 → pa3 j = prN ka bg ln ns b9 j))) [.ref (q 14), .ref (q 9), .int (iI b9)].toArray s 0 0 A) (F0 m 2 ls []) := by
    intro n
    induction n with
    | zero =>
      intro i pa1 h0 hf hz
      exfalso; omega
    | succ n ih_2 =>
      intro i pa1 h0 hf hz H locs ls hP hD hS hl
      refine lv_iload_n hx hb dX4_gather_2 rfl (lv_at hl 0 rfl) ?_
      refine lv_sipush (v := iI (576)) hx hb dX4_gather_3 (by decide) ?_
      refine z_icmp_ge (tgt := 22) hx hb dX4_gather_6 (by decide) (by omega) (fun c_1 => ?_) (fun c_1 => ?_)
      · refine lv_iconst (v := iI (0)) hx hb dX4_gather_22 rfl ?_
        refine lv_istore_n (lv' := [(3, .int (iI 0)), (0, .ref (q 14)), (1, .ref (q 9)), (2, .int (iI b9))]) hx hb dX4_gather_23 rfl hl (by decide) rfl (fun ls hl => ?_)
        have L_24 : ∀ (n : Nat) (p9 : Int) (pa2 : Int → Int), (h2 : 0 ≤ p9 ∧ p9 ≤ 4) → (hf2 : 4 - p9 < n) → (hr : ∀ j, 0 ≤ j → j < 576 → pa2 j = sZ (fun p => if srZ b9 p % 2 = 1 then sZ (fun b => sZ (fun a => bP (prP ka bg ln j a b)) (40 * p) b) (40 * p) (40 * p + ns p) else 0) 0 p9) → ∀ (H : Heap) (locs : List Loc) (ls : Array Slot), va_P D vwCl (wT q cy nK st le be te ab bl ka bg ln ns me sc pi re bk pa2 lz go ss sm pf mf) H → va_D A (wT q cy nK st le be te ab bl ka bg ln ns me sc pi re bk pa2 lz go ss sm pf mf) → va_S A s.heap H locs → lv_has ls 4 [(3, .int (iI p9)), (0, .ref (q 14)), (1, .ref (q 9)), (2, .int (iI b9))] → W p l e ({ frames := 3, cells := 0, slots := 0, locals := 67 } : Room) s m [.ref (q 14), .ref (q 9), .int (iI b9)].toArray below meth c H locs 0 0 (MQ below (zQw D cy A (fun w8 => ∃ pa3 : Int → Int, w8 = wT q cy nK st le be te ab bl ka bg ln ns me sc pi re bk pa3 lz go ss sm pf mf ∧ (∀ j, 0 ≤ j → j < 576 → pa3 j = prN ka bg ln ns b9 j))) [.ref (q 14), .ref (q 9), .int (iI b9)].toArray s 0 0 A) (F0 m 24 ls []) := by
          intro n
          induction n with
          | zero =>
            intro p9 pa2 h2 hf2 hr
            exfalso; omega
          | succ n ih_24 =>
            intro p9 pa2 h2 hf2 hr H locs ls hP hD hS hl
            refine lv_iload_n hx hb dX4_gather_24 rfl (lv_at hl 0 rfl) ?_
            refine lv_iconst (v := iI (4)) hx hb dX4_gather_25 rfl ?_
            refine z_icmp_ge (tgt := 50) hx hb dX4_gather_26 (by decide) (by omega) (fun c_2 => ?_) (fun c_2 => ?_)
            · exact z_vretR X hK hP hD hS dX4_gather_50 (⟨_, rfl, fun j g1 g2 => by rw [hr j g1 g2, show p9 = 4 by omega]; rfl⟩)
            · refine lv_iload_n hx hb dX4_gather_29 rfl (lv_at hl 3 rfl) ?_
              refine lv_iload_n hx hb dX4_gather_30 rfl (lv_at hl 0 rfl) ?_
              refine z_ishr hx hb dX4_gather_31 (by omega) ?_
              have b8 := srZ_b9 (a := b9) (b := p9) (by omega)
              refine lv_iconst (v := iI (1)) hx hb dX4_gather_32 rfl ?_
              refine z_iand1 hx hb dX4_gather_33 (by omega) ?_
              refine lv_iconst (v := iI (1)) hx hb dX4_gather_34 rfl ?_
              refine z_icmp_ne (tgt := 44) hx hb dX4_gather_35 (by decide) (by omega) (fun c_3 => ?_) (fun c_3 => ?_)
              · refine lv_iinc (v := iI (p9 + 1)) (lv' := [(3, .int (iI (p9 + 1))), (0, .ref (q 14)), (1, .ref (q 9)), (2, .int (iI b9))]) hx hb dX4_gather_44 hl (k := 0) rfl (iI_add _ _) (by decide) rfl (fun ls hl => ?_)
                refine lv_goto (tgt := 24) hx hb dX4_gather_47 (by decide) ?_
                exact ih_24 (p9 + 1) pa2 (by omega) (by omega) (fun j g1 g2 => by rw [sZ_step (by omega)]; (try dsimp only); first | (rw [if_pos (by assumption), ← hr j g1 g2, Int.mul_comm 40 p9]; done) | (rw [if_neg (by assumption), Int.add_zero]; exact hr j g1 g2)) _ _ _ hP hD hS (lv_sub hl [0, 1, 2, 3] rfl)
              · refine lv_aload_n hx hb dX4_gather_38 rfl (lv_at hl 1 rfl) ?_
                refine lv_aload_n hx hb dX4_gather_39 rfl (lv_at hl 2 rfl) ?_
                refine lv_iload_n hx hb dX4_gather_40 rfl (lv_at hl 0 rfl) ?_
                refine z_callVv (ci := 4) (q0 := 14) (As := [.ref (q 9), .int (iI p9)]) (rest := []) X hK hP hD hA hS hl.1 gX4_gather_X4_gatherPiece rfl ⟨rfl, rfl⟩ hd_X4_gatherPiece ⟨Nat.le_of_ble_eq_true rfl, Nat.le_of_ble_eq_true rfl⟩ rfl rfl rfl (Nat.le_of_ble_eq_true rfl) ⟨Nat.zero_le _, Nat.zero_le _⟩ rfl dX4_gather_41 (c_X4_gatherPiece I p9 (by omega)) (fun H locs hP hD hS => ?_)
                refine lv_iinc (v := iI (p9 + 1)) (lv' := [(3, .int (iI (p9 + 1))), (0, .ref (q 14)), (1, .ref (q 9)), (2, .int (iI b9))]) hx hb dX4_gather_44 hl (k := 0) rfl (iI_add _ _) (by decide) rfl (fun ls hl => ?_)
                refine lv_goto (tgt := 24) hx hb dX4_gather_47 (by decide) ?_
                exact ih_24 (p9 + 1) (fun j => pa2 j + sZ (fun b => sZ (fun a => bP (prP ka bg ln j a b)) (p9 * 40) b) (p9 * 40) (p9 * 40 + ns p9)) (by omega) (by omega) (fun j g1 g2 => by rw [sZ_step (by omega)]; (try dsimp only); first | (rw [if_pos (by assumption), ← hr j g1 g2, Int.mul_comm 40 p9]; done) | (rw [if_neg (by assumption), Int.add_zero]; exact hr j g1 g2)) _ _ _ hP hD hS (lv_sub hl [0, 1, 2, 3] rfl)
        exact L_24 5 0 pa1 (by omega) (by omega) (fun j g1 g2 => by rw [sZ_nil (by omega)]; exact hz j g1 (by omega)) _ _ _ hP hD hS (lv_sub hl [0, 1, 2, 3] rfl)
      · refine lv_aload_n hx hb dX4_gather_9 rfl (lv_at hl 1 rfl) ?_
        refine va_get (D := D) (ci := 4) (v := .ref (q 15)) (C := RX4) (T := TX4) (N := 5) hx hb hts n_X4 hown hK hP 14 rfl rfl 0 (by decide) f_9 (fun _ h9 => h9) rfl dX4_gather_10 ?_
        refine lv_iload_n hx hb dX4_gather_13 rfl (lv_at hl 0 rfl) ?_
        refine lv_iconst (v := iI (0)) hx hb dX4_gather_14 rfl ?_
        refine z_iast (v := 0) hx hb hK hP hD hS 15 0 rfl rfl (by omega) dX4_gather_15 (fun H locs hP hD hS => ?_)
        have hP : va_P D vwCl (wT q cy nK st le be te ab bl ka bg ln ns me sc pi re bk (uZ pa1 i 0) lz go ss sm pf mf) H := hP
        have hD : va_D A (wT q cy nK st le be te ab bl ka bg ln ns me sc pi re bk (uZ pa1 i 0) lz go ss sm pf mf) := hD
        refine lv_iinc (v := iI (i + 1)) (lv' := [(3, .int (iI (i + 1))), (0, .ref (q 14)), (1, .ref (q 9)), (2, .int (iI b9))]) hx hb dX4_gather_16 hl (k := 0) rfl (iI_add _ _) (by decide) rfl (fun ls hl => ?_)
        refine lv_goto (tgt := 2) hx hb dX4_gather_19 (by decide) ?_
        exact ih_2 (i + 1) (uZ pa1 i 0) (by omega) (by omega) (fun j g1 g2 => by rcases (show j < i ∨ j = i by omega) with g | g; (rw [uZ_other (by omega)]; exact hz j g1 g); (rw [g, uZ_same])) _ _ _ hP hD hS (lv_sub hl [0, 1, 2, 3] rfl)
  exact L_2 577 0 pa (by omega) (by omega) (fun j _ _ => by omega) _ _ _ hP hD hS (lv_sub hl [0, 1, 2, 3] rfl)

theorem hd_X4_clashesBelow : yX4_clashesBelow.cls = RX4 ∧ yX4_clashesBelow.cls ≠ "java/lang/invoke/MethodHandle" ∧ yX4_clashesBelow.cls ≠ "java/lang/invoke/VarHandle" ∧ (parseMethodDescriptor yX4_clashesBelow.desc).map (fun d => d.parameters.length) = some 2 := by decide +kernel
set_option maxHeartbeats 4000000 in
set_option maxRecDepth 100000 in
theorem c_X4_clashesBelow (a : Int) (u : Int) (h : 0 ≤ a ∧ a ≤ u ∧ u ≤ 23) : MI l D cy yX4_clashesBelow wsX4_clashesBelow ({ frames := 0, cells := 0, slots := 0, locals := 0 } : Room) [.ref (q 14), .int (iI a), .int (iI u)] (wT q cy nK st le be te ab bl ka bg ln ns me sc pi re bk pa lz go ss sm pf mf) (blw pa a u) (wT q cy nK st le be te ab bl ka bg ln ns me sc pi re bk pa lz go ss sm pf mf) := by
  refine MI.ofW (cc := cX4_clashesBelow) (maxL := 5) (ret := (some .int)) (by decide) rfl (Nat.le_of_ble_eq_true rfl) ?_
  intro p e s m below meth c A ls X hK hP hD hA hS hl
  obtain ⟨hx, hb, hml, hr, hts, hown, hlocks⟩ := id X
  have hl : lv_has ls 5 [(0, .ref (q 14)), (1, .int (iI a)), (2, .int (iI u))] := hl
  have f_9 := hts (Cond.fieldLink RX4 9 "TwoKeys$Sharing" "pairs" "[I") (by decide +kernel)
  have n_X4 : ∀ w ∈ u_ws RX4 TX4 5, w ∈ wsX4_clashesBelow := by decide +kernel
  refine lv_iconst (v := iI (0)) hx hb dX4_clashesBelow_0 rfl ?_
  refine lv_istore_n (lv' := [(3, .int (iI 0)), (0, .ref (q 14)), (1, .int (iI a)), (2, .int (iI u))]) hx hb dX4_clashesBelow_1 rfl hl (by decide) rfl (fun ls hl => ?_)
  refine lv_iload_n hx hb dX4_clashesBelow_2 rfl (lv_at hl 2 rfl) ?_
  refine lv_istore (lv' := [(4, .int (iI a)), (3, .int (iI 0)), (0, .ref (q 14)), (1, .int (iI a)), (2, .int (iI u))]) hx hb dX4_clashesBelow_3 hl (by decide) rfl (fun ls hl => ?_)
  have L_5 : ∀ (n : Nat) (acc : Int) (x : Int), (h0 : a ≤ x ∧ x ≤ u) → (hf : u - x < n) → (hr : acc = sZ (fun x => pa (x * 24 + u)) a x) → ∀ (H : Heap) (locs : List Loc) (ls : Array Slot), va_P D vwCl (wT q cy nK st le be te ab bl ka bg ln ns me sc pi re bk pa lz go ss sm pf mf) H → va_D A (wT q cy nK st le be te ab bl ka bg ln ns me sc pi re bk pa lz go ss sm pf mf) → va_S A s.heap H locs → lv_has ls 5 [(4, .int (iI x)), (3, .int (iI acc)), (0, .ref (q 14)), (1, .int (iI a)), (2, .int (iI u))] → W p l e ({ frames := 0, cells := 0, slots := 0, locals := 0 } : Room) s m [.ref (q 14), .int (iI a), .int (iI u)].toArray below meth c H locs 0 0 (MQ below (zQi D cy (wT q cy nK st le be te ab bl ka bg ln ns me sc pi re bk pa lz go ss sm pf mf) A (blw pa a u)) [.ref (q 14), .int (iI a), .int (iI u)].toArray s 0 0 A) (F0 m 5 ls []) := by
    intro n
    induction n with
    | zero =>
      intro acc x h0 hf hr
      exfalso; omega
    | succ n ih_5 =>
      intro acc x h0 hf hr H locs ls hP hD hS hl
      refine lv_iload hx hb dX4_clashesBelow_5 (lv_at hl 0 rfl) ?_
      refine lv_iload_n hx hb dX4_clashesBelow_7 rfl (lv_at hl 4 rfl) ?_
      refine z_icmp_ge (tgt := 32) hx hb dX4_clashesBelow_8 (by decide) (by omega) (fun c_1 => ?_) (fun c_1 => ?_)
      · refine lv_iload_n hx hb dX4_clashesBelow_32 rfl (lv_at hl 1 rfl) ?_
        exact z_iret X hK hP hD hS dX4_clashesBelow_33 (by rw [hr, show x = u by omega]; rfl)
      · refine lv_iload_n hx hb dX4_clashesBelow_11 rfl (lv_at hl 1 rfl) ?_
        refine lv_aload_n hx hb dX4_clashesBelow_12 rfl (lv_at hl 2 rfl) ?_
        refine va_get (D := D) (ci := 4) (v := .ref (q 15)) (C := RX4) (T := TX4) (N := 5) hx hb hts n_X4 hown hK hP 14 rfl rfl 0 (by decide) f_9 (fun _ h9 => h9) rfl dX4_clashesBelow_13 ?_
        refine lv_iload hx hb dX4_clashesBelow_16 (lv_at hl 0 rfl) ?_
        refine lv_bipush (v := iI (24)) hx hb dX4_clashesBelow_18 (by decide) ?_
        refine z_imul hx hb dX4_clashesBelow_20 ?_
        refine lv_iload_n hx hb dX4_clashesBelow_21 rfl (lv_at hl 4 rfl) ?_
        refine z_iadd hx hb dX4_clashesBelow_22 ?_
        refine z_iald hx hb hK hP 15 0 rfl rfl (by omega) dX4_clashesBelow_23 ?_
        refine z_iadd hx hb dX4_clashesBelow_24 ?_
        refine lv_istore_n (lv' := [(3, .int (iI (acc + (pa ((x * 24) + u))))), (4, .int (iI x)), (0, .ref (q 14)), (1, .int (iI a)), (2, .int (iI u))]) hx hb dX4_clashesBelow_25 rfl hl (by decide) rfl (fun ls hl => ?_)
        refine lv_iinc (v := iI (x + 1)) (lv' := [(4, .int (iI (x + 1))), (3, .int (iI (acc + (pa ((x * 24) + u))))), (0, .ref (q 14)), (1, .int (iI a)), (2, .int (iI u))]) hx hb dX4_clashesBelow_26 hl (k := 1) rfl (iI_add _ _) (by decide) rfl (fun ls hl => ?_)
        refine lv_goto (tgt := 5) hx hb dX4_clashesBelow_29 (by decide) ?_
        exact ih_5 (acc + (pa ((x * 24) + u))) (x + 1) (by omega) (by omega) (by rw [sZ_step (by omega), ← hr]) _ _ _ hP hD hS (lv_sub hl [0, 1, 2, 3, 4] rfl)
  exact L_5 25 0 a (by omega) (by omega) ((sZ_nil (by omega)).symm) _ _ _ hP hD hS (lv_sub hl [0, 1, 2, 3, 4] rfl)

theorem hd_X4_clashesOf : yX4_clashesOf.cls = RX4 ∧ yX4_clashesOf.cls ≠ "java/lang/invoke/MethodHandle" ∧ yX4_clashesOf.cls ≠ "java/lang/invoke/VarHandle" ∧ (parseMethodDescriptor yX4_clashesOf.desc).map (fun d => d.parameters.length) = some 2 := by decide +kernel
set_option maxHeartbeats 4000000 in
set_option maxRecDepth 100000 in
theorem c_X4_clashesOf (a : Int) (b : Int) (h : 0 ≤ a ∧ a ≤ b ∧ b ≤ 23) : MI l D cy yX4_clashesOf wsX4_clashesOf ({ frames := 1, cells := 0, slots := 0, locals := 24 } : Room) [.ref (q 14), .int (iI a), .int (iI b)] (wT q cy nK st le be te ab bl ka bg ln ns me sc pi re bk pa lz go ss sm pf mf) (clS pa a b) (wT q cy nK st le be te ab bl ka bg ln ns me sc pi re bk pa lz go ss sm pf mf) := by
  refine MI.ofW (cc := cX4_clashesOf) (maxL := 5) (ret := (some .int)) (by decide) rfl (Nat.le_of_ble_eq_true rfl) ?_
  intro p e s m below meth c A ls X hK hP hD hA hS hl
  obtain ⟨hx, hb, hml, hr, hts, hown, hlocks⟩ := id X
  have hl : lv_has ls 5 [(0, .ref (q 14)), (1, .int (iI a)), (2, .int (iI b))] := hl
  refine lv_iconst (v := iI (0)) hx hb dX4_clashesOf_0 rfl ?_
  refine lv_istore_n (lv' := [(3, .int (iI 0)), (0, .ref (q 14)), (1, .int (iI a)), (2, .int (iI b))]) hx hb dX4_clashesOf_1 rfl hl (by decide) rfl (fun ls hl => ?_)
  refine lv_iload_n hx hb dX4_clashesOf_2 rfl (lv_at hl 2 rfl) ?_
  refine lv_iconst (v := iI (1)) hx hb dX4_clashesOf_3 rfl ?_
  refine z_iadd hx hb dX4_clashesOf_4 ?_
  refine lv_istore (lv' := [(4, .int (iI (a + 1))), (3, .int (iI 0)), (0, .ref (q 14)), (1, .int (iI a)), (2, .int (iI b))]) hx hb dX4_clashesOf_5 hl (by decide) rfl (fun ls hl => ?_)
  have L_7 : ∀ (n : Nat) (acc : Int) (u : Int), (h0 : a + 1 ≤ u ∧ u ≤ b + 1) → (hf : b + 1 - u < n) → (hr : acc = clS pa a (u - 1)) → ∀ (H : Heap) (locs : List Loc) (ls : Array Slot), va_P D vwCl (wT q cy nK st le be te ab bl ka bg ln ns me sc pi re bk pa lz go ss sm pf mf) H → va_D A (wT q cy nK st le be te ab bl ka bg ln ns me sc pi re bk pa lz go ss sm pf mf) → va_S A s.heap H locs → lv_has ls 5 [(4, .int (iI u)), (3, .int (iI acc)), (0, .ref (q 14)), (1, .int (iI a)), (2, .int (iI b))] → W p l e ({ frames := 1, cells := 0, slots := 0, locals := 24 } : Room) s m [.ref (q 14), .int (iI a), .int (iI b)].toArray below meth c H locs 0 0 (MQ below (zQi D cy (wT q cy nK st le be te ab bl ka bg ln ns me sc pi re bk pa lz go ss sm pf mf) A (clS pa a b)) [.ref (q 14), .int (iI a), .int (iI b)].toArray s 0 0 A) (F0 m 7 ls []) := by
    intro n
    induction n with
    | zero =>
      intro acc u h0 hf hr
      exfalso; omega
    | succ n ih_7 =>
      intro acc u h0 hf hr H locs ls hP hD hS hl
      refine lv_iload hx hb dX4_clashesOf_7 (lv_at hl 0 rfl) ?_
      refine lv_iload_n hx hb dX4_clashesOf_9 rfl (lv_at hl 4 rfl) ?_
      refine z_icmp_gt (tgt := 29) hx hb dX4_clashesOf_10 (by decide) (by omega) (fun c_1 => ?_) (fun c_1 => ?_)
      · refine lv_iload_n hx hb dX4_clashesOf_29 rfl (lv_at hl 1 rfl) ?_
        exact z_iret X hK hP hD hS dX4_clashesOf_30 (by rw [hr, show u - 1 = b by omega])
      · refine lv_iload_n hx hb dX4_clashesOf_13 rfl (lv_at hl 1 rfl) ?_
        refine lv_aload_n hx hb dX4_clashesOf_14 rfl (lv_at hl 2 rfl) ?_
        refine lv_iload_n hx hb dX4_clashesOf_15 rfl (lv_at hl 3 rfl) ?_
        refine lv_iload hx hb dX4_clashesOf_16 (lv_at hl 0 rfl) ?_
        refine z_callVi (ci := 4) (q0 := 14) (As := [.int (iI a), .int (iI u)]) (rest := [.int (iI acc)]) X hK hP hD hA hS hl.1 gX4_clashesOf_X4_clashesBelow rfl ⟨rfl, rfl⟩ hd_X4_clashesBelow ⟨Nat.le_of_ble_eq_true rfl, Nat.le_of_ble_eq_true rfl⟩ rfl rfl rfl (Nat.le_of_ble_eq_true rfl) ⟨Nat.zero_le _, Nat.zero_le _⟩ rfl dX4_clashesOf_18 (c_X4_clashesBelow a u (by omega)) (fun H locs hP hD hS => ?_)
        refine z_iadd hx hb dX4_clashesOf_21 ?_
        refine lv_istore_n (lv' := [(3, .int (iI (acc + (blw pa a u)))), (4, .int (iI u)), (0, .ref (q 14)), (1, .int (iI a)), (2, .int (iI b))]) hx hb dX4_clashesOf_22 rfl hl (by decide) rfl (fun ls hl => ?_)
        refine lv_iinc (v := iI (u + 1)) (lv' := [(4, .int (iI (u + 1))), (3, .int (iI (acc + (blw pa a u)))), (0, .ref (q 14)), (1, .int (iI a)), (2, .int (iI b))]) hx hb dX4_clashesOf_23 hl (k := 1) rfl (iI_add _ _) (by decide) rfl (fun ls hl => ?_)
        refine lv_goto (tgt := 7) hx hb dX4_clashesOf_26 (by decide) ?_
        exact ih_7 (acc + (blw pa a u)) (u + 1) (by omega) (by omega) (by rw [show u + 1 - 1 = u by omega, clS_s (b := u) (by omega), ← hr]) _ _ _ hP hD hS (lv_sub hl [0, 1, 2, 3, 4] rfl)
  exact L_7 25 0 (a + 1) (by omega) (by omega) (by rw [show a + 1 - 1 = a by omega, clS_s (Int.le_refl a), clS_0 (show a - 1 < a by omega)]; unfold blw; rw [sZ_nil (Int.le_refl a)]; rfl) _ _ _ hP hD hS (lv_sub hl [0, 1, 2, 3, 4] rfl)

theorem hd_X4_leastFrom : yX4_leastFrom.cls = RX4 ∧ yX4_leastFrom.cls ≠ "java/lang/invoke/MethodHandle" ∧ yX4_leastFrom.cls ≠ "java/lang/invoke/VarHandle" ∧ (parseMethodDescriptor yX4_leastFrom.desc).map (fun d => d.parameters.length) = some 2 := by decide +kernel
set_option maxHeartbeats 4000000 in
set_option maxRecDepth 100000 in
theorem c_X4_leastFrom (s9 : Int) (k : Int) (hs : (1 ≤ ss ∧ ss ≤ 24) ∧ (1 ≤ sm ∧ sm ≤ 6)) (h : (1 ≤ s9 ∧ s9 ≤ ss) ∧ (0 ≤ k ∧ k < ss)) (hc : ∀ x y, 0 ≤ x → x ≤ y + 1 → y ≤ 23 → 0 ≤ clS pa x y ∧ clS pa x y ≤ 6400) (hlz : ∀ x, 0 ≤ x → x ≤ ss → 0 ≤ lz ((s9 - 1) * 25 + x) ∧ lz ((s9 - 1) * 25 + x) ≤ 1000000) : MI l D cy yX4_leastFrom wsX4_leastFrom ({ frames := 1, cells := 0, slots := 0, locals := 24 } : Room) [.ref (q 14), .int (iI s9), .int (iI k)] (wT q cy nK st le be te ab bl ka bg ln ns me sc pi re bk pa lz go ss sm pf mf) (mnZ (fun x => clS pa k (x - 1) + lz ((s9 - 1) * 25 + x)) (k + 1) (min ss (k + sm) + 1)) (wT q cy nK st le be te ab bl ka bg ln ns me sc pi re bk pa lz go ss sm pf mf) := by
  refine MI.ofW (cc := cX4_leastFrom) (maxL := 6) (ret := (some .int)) (by decide) rfl (Nat.le_of_ble_eq_true rfl) ?_
  intro p e s m below meth c A ls X hK hP hD hA hS hl
  obtain ⟨hx, hb, hml, hr, hts, hown, hlocks⟩ := id X
  have hl : lv_has ls 6 [(0, .ref (q 14)), (1, .int (iI s9)), (2, .int (iI k))] := hl
  have k_64 := hts (Cond.constant RX4 64 (1000000)) (by decide +kernel)
  have f_21 := hts (Cond.fieldLink RX4 21 "TwoKeys$Sharing" "size" "I") (by decide +kernel)
  have f_25 := hts (Cond.fieldLink RX4 25 "TwoKeys$Sharing" "most" "I") (by decide +kernel)
  have f_15 := hts (Cond.fieldLink RX4 15 "TwoKeys$Sharing" "leasts" "[I") (by decide +kernel)
  have k_RX4_52_Lib_Math_min_name := hts (Cond.methodLink RX4 52 Lib.Math.min.name) (by decide +kernel)
  have k_static_Lib_Math_min_name := hts (Cond.static Lib.Math.min.name) (by decide +kernel)
  have k_ialized__java_lang_Math_ := hts (Cond.initialized "java/lang/Math") (by decide +kernel)
  have k_h_min_code_2__some__int_ := hts (Cond.code Lib.Math.min.name Lib.Math.min.code 2 (some .int)) (by decide +kernel)
  have n_X4 : ∀ w ∈ u_ws RX4 TX4 5, w ∈ wsX4_leastFrom := by decide +kernel
  refine z_ldc (n := 1000000) hx hb hown k_64 (by decide) dX4_leastFrom_0 ?_
  refine lv_istore_n (lv' := [(3, .int (iI 1000000)), (0, .ref (q 14)), (1, .int (iI s9)), (2, .int (iI k))]) hx hb dX4_leastFrom_2 rfl hl (by decide) rfl (fun ls hl => ?_)
  refine lv_iconst (v := iI (0)) hx hb dX4_leastFrom_3 rfl ?_
  refine lv_istore (lv' := [(4, .int (iI 0)), (3, .int (iI 1000000)), (0, .ref (q 14)), (1, .int (iI s9)), (2, .int (iI k))]) hx hb dX4_leastFrom_4 hl (by decide) rfl (fun ls hl => ?_)
  refine lv_iload_n hx hb dX4_leastFrom_6 rfl (lv_at hl 4 rfl) ?_
  refine lv_iconst (v := iI (1)) hx hb dX4_leastFrom_7 rfl ?_
  refine z_iadd hx hb dX4_leastFrom_8 ?_
  refine lv_istore (lv' := [(5, .int (iI (k + 1))), (4, .int (iI 0)), (3, .int (iI 1000000)), (0, .ref (q 14)), (1, .int (iI s9)), (2, .int (iI k))]) hx hb dX4_leastFrom_9 hl (by decide) rfl (fun ls hl => ?_)
  have L_11 : ∀ (n : Nat) (bt : Int) (cs : Int) (x : Int), (h0 : k + 1 ≤ x ∧ x ≤ min ss (k + sm) + 1) → (hf : 25 - x < n) → (hr : bt = mnZ (fun x => clS pa k (x - 1) + lz ((s9 - 1) * 25 + x)) (k + 1) x) → (hcs : cs = clS pa k (x - 2)) → (hb9 : 0 ≤ bt ∧ bt ≤ 1000000) → ∀ (H : Heap) (locs : List Loc) (ls : Array Slot), va_P D vwCl (wT q cy nK st le be te ab bl ka bg ln ns me sc pi re bk pa lz go ss sm pf mf) H → va_D A (wT q cy nK st le be te ab bl ka bg ln ns me sc pi re bk pa lz go ss sm pf mf) → va_S A s.heap H locs → lv_has ls 6 [(5, .int (iI x)), (4, .int (iI cs)), (3, .int (iI bt)), (0, .ref (q 14)), (1, .int (iI s9)), (2, .int (iI k))] → W p l e ({ frames := 1, cells := 0, slots := 0, locals := 24 } : Room) s m [.ref (q 14), .int (iI s9), .int (iI k)].toArray below meth c H locs 0 0 (MQ below (zQi D cy (wT q cy nK st le be te ab bl ka bg ln ns me sc pi re bk pa lz go ss sm pf mf) A (mnZ (fun x => clS pa k (x - 1) + lz ((s9 - 1) * 25 + x)) (k + 1) (min ss (k + sm) + 1))) [.ref (q 14), .int (iI s9), .int (iI k)].toArray s 0 0 A) (F0 m 11 ls []) := by
    intro n
    induction n with
    | zero =>
      intro bt cs x h0 hf hr hcs hb9
      exfalso; omega
    | succ n ih_11 =>
      intro bt cs x h0 hf hr hcs hb9 H locs ls hP hD hS hl
      refine lv_iload hx hb dX4_leastFrom_11 (lv_at hl 0 rfl) ?_
      refine lv_aload_n hx hb dX4_leastFrom_13 rfl (lv_at hl 3 rfl) ?_
      refine va_get (D := D) (ci := 4) (v := .int (iI ss)) (C := RX4) (T := TX4) (N := 5) hx hb hts n_X4 hown hK hP 14 rfl rfl 3 (by decide) f_21 (fun _ h9 => h9) rfl dX4_leastFrom_14 ?_
      refine z_icmp_gt (tgt := 73) hx hb dX4_leastFrom_17 (by decide) (by omega) (fun c_1 => ?_) (fun c_1 => ?_)
      · refine lv_iload_n hx hb dX4_leastFrom_73 rfl (lv_at hl 2 rfl) ?_
        exact z_iret X hK hP hD hS dX4_leastFrom_74 (by rw [hr, show x = min ss (k + sm) + 1 by omega])
      · refine lv_iload hx hb dX4_leastFrom_20 (lv_at hl 0 rfl) ?_
        refine lv_iload_n hx hb dX4_leastFrom_22 rfl (lv_at hl 5 rfl) ?_
        refine lv_aload_n hx hb dX4_leastFrom_23 rfl (lv_at hl 3 rfl) ?_
        refine va_get (D := D) (ci := 4) (v := .int (iI sm)) (C := RX4) (T := TX4) (N := 5) hx hb hts n_X4 hown hK hP 14 rfl rfl 4 (by decide) f_25 (fun _ h9 => h9) rfl dX4_leastFrom_24 ?_
        refine z_iadd hx hb dX4_leastFrom_27 ?_
        refine z_icmp_gt (tgt := 73) hx hb dX4_leastFrom_28 (by decide) (by omega) (fun c_2 => ?_) (fun c_2 => ?_)
        · refine lv_iload_n hx hb dX4_leastFrom_73 rfl (lv_at hl 2 rfl) ?_
          exact z_iret X hK hP hD hS dX4_leastFrom_74 (by rw [hr, show x = min ss (k + sm) + 1 by omega])
        · refine lv_iload hx hb dX4_leastFrom_31 (lv_at hl 1 rfl) ?_
          refine lv_aload_n hx hb dX4_leastFrom_33 rfl (lv_at hl 3 rfl) ?_
          refine lv_iload_n hx hb dX4_leastFrom_34 rfl (lv_at hl 5 rfl) ?_
          refine lv_iload hx hb dX4_leastFrom_35 (lv_at hl 0 rfl) ?_
          refine lv_iconst (v := iI (1)) hx hb dX4_leastFrom_37 rfl ?_
          refine z_isub hx hb dX4_leastFrom_38 ?_
          refine z_callVi (ci := 4) (q0 := 14) (As := [.int (iI k), .int (iI (x - 1))]) (rest := [.int (iI cs)]) X hK hP hD hA hS hl.1 gX4_leastFrom_X4_clashesBelow rfl ⟨rfl, rfl⟩ hd_X4_clashesBelow ⟨Nat.le_of_ble_eq_true rfl, Nat.le_of_ble_eq_true rfl⟩ rfl rfl rfl (Nat.le_of_ble_eq_true rfl) ⟨Nat.zero_le _, Nat.zero_le _⟩ rfl dX4_leastFrom_39 (c_X4_clashesBelow k (x - 1) (by omega)) (fun H locs hP hD hS => ?_)
          have ec : clS pa k (x - 1) = cs + blw pa k (x - 1) := by rw [clS_s (b := x - 1) (by omega), show x - 1 - 1 = x - 2 by omega, ← hcs]
          have c9 := hc k (x - 1) (by omega) (by omega) (by omega)
          have l9 := hlz x (by omega) (by omega)
          refine z_iadd hx hb dX4_leastFrom_42 ?_
          refine lv_istore (lv' := [(4, .int (iI (cs + (blw pa k (x - 1))))), (5, .int (iI x)), (3, .int (iI bt)), (0, .ref (q 14)), (1, .int (iI s9)), (2, .int (iI k))]) hx hb dX4_leastFrom_43 hl (by decide) rfl (fun ls hl => ?_)
          refine lv_iload_n hx hb dX4_leastFrom_45 rfl (lv_at hl 2 rfl) ?_
          refine lv_iload hx hb dX4_leastFrom_46 (lv_at hl 0 rfl) ?_
          refine lv_aload_n hx hb dX4_leastFrom_48 rfl (lv_at hl 3 rfl) ?_
          refine va_get (D := D) (ci := 4) (v := .ref (q 16)) (C := RX4) (T := TX4) (N := 5) hx hb hts n_X4 hown hK hP 14 rfl rfl 1 (by decide) f_15 (fun _ h9 => h9) rfl dX4_leastFrom_49 ?_
          refine lv_iload_n hx hb dX4_leastFrom_52 rfl (lv_at hl 4 rfl) ?_
          refine lv_iconst (v := iI (1)) hx hb dX4_leastFrom_53 rfl ?_
          refine z_isub hx hb dX4_leastFrom_54 ?_
          refine lv_bipush (v := iI (25)) hx hb dX4_leastFrom_55 (by decide) ?_
          refine z_imul hx hb dX4_leastFrom_57 ?_
          refine lv_iload hx hb dX4_leastFrom_58 (lv_at hl 1 rfl) ?_
          refine z_iadd hx hb dX4_leastFrom_60 ?_
          refine z_iald hx hb hK hP 16 0 rfl rfl (by omega) dX4_leastFrom_61 ?_
          refine z_iadd hx hb dX4_leastFrom_62 ?_
          refine z_min hx hb (by rw [hml]; exact hl.1.symm) hown k_RX4_52_Lib_Math_min_name k_static_Lib_Math_min_name k_ialized__java_lang_Math_ k_h_min_code_2__some__int_ (Nat.le_of_ble_eq_true rfl) (Nat.le_of_ble_eq_true rfl) (Nat.zero_le _) (Nat.zero_le _) (by omega) dX4_leastFrom_63 ?_
          refine lv_istore_n (lv' := [(3, .int (iI (min bt ((cs + (blw pa k (x - 1))) + (lz (((s9 - 1) * 25) + x)))))), (4, .int (iI (cs + (blw pa k (x - 1))))), (5, .int (iI x)), (0, .ref (q 14)), (1, .int (iI s9)), (2, .int (iI k))]) hx hb dX4_leastFrom_66 rfl hl (by decide) rfl (fun ls hl => ?_)
          refine lv_iinc (v := iI (x + 1)) (lv' := [(5, .int (iI (x + 1))), (3, .int (iI (min bt ((cs + (blw pa k (x - 1))) + (lz (((s9 - 1) * 25) + x)))))), (4, .int (iI (cs + (blw pa k (x - 1))))), (0, .ref (q 14)), (1, .int (iI s9)), (2, .int (iI k))]) hx hb dX4_leastFrom_67 hl (k := 2) rfl (iI_add _ _) (by decide) rfl (fun ls hl => ?_)
          refine lv_goto (tgt := 11) hx hb dX4_leastFrom_70 (by decide) ?_
          exact ih_11 (min bt ((cs + (blw pa k (x - 1))) + (lz (((s9 - 1) * 25) + x)))) (cs + (blw pa k (x - 1))) (x + 1) (by omega) (by omega) (by rw [mnZ_s (by omega), ← hr]; (try dsimp only); rw [ec]) (by rw [show x + 1 - 2 = x - 1 by omega]; exact ec.symm) (by omega) _ _ _ hP hD hS (lv_sub hl [0, 2, 1, 3, 4, 5] rfl)
  exact L_11 26 1000000 0 (k + 1) (by omega) (by omega) ((mnZ_0 (by omega)).symm) ((clS_0 (by omega)).symm) (by omega) _ _ _ hP hD hS (lv_sub hl [0, 1, 2, 3, 4, 5] rfl)

theorem hd_X4_leastWith : yX4_leastWith.cls = RX4 ∧ yX4_leastWith.cls ≠ "java/lang/invoke/MethodHandle" ∧ yX4_leastWith.cls ≠ "java/lang/invoke/VarHandle" ∧ (parseMethodDescriptor yX4_leastWith.desc).map (fun d => d.parameters.length) = some 1 := by decide +kernel
set_option maxHeartbeats 4000000 in
set_option maxRecDepth 100000 in
theorem c_X4_leastWith (s9 : Int) (h : 0 ≤ s9 ∧ s9 ≤ 24) : MI l D cy yX4_leastWith wsX4_leastWith ({ frames := 0, cells := 0, slots := 0, locals := 0 } : Room) [.ref (q 14), .int (iI s9)] (wT q cy nK st le be te ab bl ka bg ln ns me sc pi re bk pa lz go ss sm pf mf) (lz (s9 * 25)) (wT q cy nK st le be te ab bl ka bg ln ns me sc pi re bk pa lz go ss sm pf mf) := by
  refine MI.ofW (cc := cX4_leastWith) (maxL := 2) (ret := (some .int)) (by decide) rfl (Nat.le_of_ble_eq_true rfl) ?_
  intro p e s m below meth c A ls X hK hP hD hA hS hl
  obtain ⟨hx, hb, hml, hr, hts, hown, hlocks⟩ := id X
  have hl : lv_has ls 2 [(0, .ref (q 14)), (1, .int (iI s9))] := hl
  have f_15 := hts (Cond.fieldLink RX4 15 "TwoKeys$Sharing" "leasts" "[I") (by decide +kernel)
  have n_X4 : ∀ w ∈ u_ws RX4 TX4 5, w ∈ wsX4_leastWith := by decide +kernel
  refine lv_aload_n hx hb dX4_leastWith_0 rfl (lv_at hl 0 rfl) ?_
  refine va_get (D := D) (ci := 4) (v := .ref (q 16)) (C := RX4) (T := TX4) (N := 5) hx hb hts n_X4 hown hK hP 14 rfl rfl 1 (by decide) f_15 (fun _ h9 => h9) rfl dX4_leastWith_1 ?_
  refine lv_iload_n hx hb dX4_leastWith_4 rfl (lv_at hl 1 rfl) ?_
  refine lv_bipush (v := iI (25)) hx hb dX4_leastWith_5 (by decide) ?_
  refine z_imul hx hb dX4_leastWith_7 ?_
  refine z_iald hx hb hK hP 16 0 rfl rfl (by omega) dX4_leastWith_8 ?_
  exact z_iret X hK hP hD hS dX4_leastWith_9 (by first | rfl | omega | grind)
