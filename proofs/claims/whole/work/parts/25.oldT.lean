variable {l : Launch} {D : va_G} {cy : ClassId} {q : Nat → Nat} {nK sc pi re bk ss sm pf mf th lo : Int} {st le be te ab bl ka bg ln ns me pa lz go co bs gr : Int → Int}
theorem hd_X2_countMeasured : yX2_countMeasured.cls = RX2 ∧ yX2_countMeasured.cls ≠ "java/lang/invoke/MethodHandle" ∧ yX2_countMeasured.cls ≠ "java/lang/invoke/VarHandle" ∧ (parseMethodDescriptor yX2_countMeasured.desc).map (fun d => d.parameters.length) = some 0 := by decide +kernel
set_option maxHeartbeats 4000000 in
set_option maxRecDepth 100000 in
theorem c_X2_countMeasured (I : okS nK st le be te ab bl ka bg ln ns me sc pi re bk)   : MI l D cy yX2_countMeasured wsX2_countMeasured ({ frames := 0, cells := 0, slots := 0, locals := 0 } : Room) [.ref (q 18)] (wT q cy nK st le be te ab bl ka bg ln ns me sc pi re bk pa lz go ss sm pf mf) (cm nK me) (wT q cy nK st le be te ab bl ka bg ln ns me sc pi re bk pa lz go ss sm pf mf) := by
  refine MI.ofW (cc := cX2_countMeasured) (maxL := 3) (ret := (some .int)) (by decide) rfl (Nat.le_of_ble_eq_true rfl) ?_
  intro p e s m below meth c A ls X hK hP hD hA hS hl
  obtain ⟨hx, hb, hml, hr, hts, hown, hlocks⟩ := id X
  have hl : lv_has ls 3 [(0, .ref (q 18))] := hl
  have f_22 := hts (Cond.fieldLink RX2 22 "TwoKeys$OldOne" "board" "LTwoKeys$Board;") (by decide +kernel)
  have f_31 := hts (Cond.fieldLink RX2 31 "TwoKeys$Board" "size" "I") (by decide +kernel)
  have f_9 := hts (Cond.fieldLink RX2 9 "TwoKeys$OldOne" "measured" "[I") (by decide +kernel)
  have k_30 := hts (Cond.constant RX2 30 (-100009)) (by decide +kernel)
  have n_X0 : ∀ w ∈ u_ws RX0 TX0 5, w ∈ wsX2_countMeasured := by decide +kernel
  have n_X2 : ∀ w ∈ u_ws RX2 TX2 5, w ∈ wsX2_countMeasured := by decide +kernel
  have iK := I.nK
  refine lv_iconst (v := iI (0)) hx hb dX2_countMeasured_0 rfl ?_
  refine lv_istore_n (lv' := [(1, .int (iI 0)), (0, .ref (q 18))]) hx hb dX2_countMeasured_1 rfl hl (by decide) rfl (fun ls hl => ?_)
  refine lv_iconst (v := iI (0)) hx hb dX2_countMeasured_2 rfl ?_
  refine lv_istore_n (lv' := [(2, .int (iI 0)), (1, .int (iI 0)), (0, .ref (q 18))]) hx hb dX2_countMeasured_3 rfl hl (by decide) rfl (fun ls hl => ?_)
  have L_4 : ∀ (n : Nat) (acc : Int) (k : Int), (h0 : 0 ≤ k ∧ k ≤ nK) → (hf : nK - k < n) → (hr : acc = sZ (fun k => if me k = -100009 then 0 else 1) 0 k) → ∀ (H : Heap) (locs : List Loc) (ls : Array Slot), va_P D vwCl (wT q cy nK st le be te ab bl ka bg ln ns me sc pi re bk pa lz go ss sm pf mf) H → va_D A (wT q cy nK st le be te ab bl ka bg ln ns me sc pi re bk pa lz go ss sm pf mf) → va_S A s.heap H locs → lv_has ls 3 [(2, .int (iI k)), (1, .int (iI acc)), (0, .ref (q 18))] → W p l e ({ frames := 0, cells := 0, slots := 0, locals := 0 } : Room) s m [.ref (q 18)].toArray below meth c H locs 0 0 (MQ below (zQi D cy (wT q cy nK st le be te ab bl ka bg ln ns me sc pi re bk pa lz go ss sm pf mf) A (cm nK me)) [.ref (q 18)].toArray s 0 0 A) (F0 m 4 ls []) := by
    intro n
    induction n with
    | zero =>
      intro acc k h0 hf hr
      exfalso; omega
    | succ n ih_4 =>
      intro acc k h0 hf hr H locs ls hP hD hS hl
      refine lv_iload_n hx hb dX2_countMeasured_4 rfl (lv_at hl 0 rfl) ?_
      refine lv_aload_n hx hb dX2_countMeasured_5 rfl (lv_at hl 2 rfl) ?_
      refine va_get (D := D) (ci := 2) (v := .ref (q 1)) (C := RX2) (T := TX2) (N := 5) hx hb hts n_X2 hown hK hP 18 rfl rfl 0 (by decide) f_22 (fun _ h9 => h9) rfl dX2_countMeasured_6 ?_
      refine va_get (D := D) (ci := 0) (v := .int (iI nK)) (C := RX0) (T := TX0) (N := 5) hx hb hts n_X0 hown hK hP 1 rfl rfl 0 (by decide) f_31 (fun _ h9 => h9) rfl dX2_countMeasured_9 ?_
      refine z_icmp_ge (tgt := 35) hx hb dX2_countMeasured_12 (by decide) (by omega) (fun c_1 => ?_) (fun c_1 => ?_)
      · refine lv_iload_n hx hb dX2_countMeasured_35 rfl (lv_at hl 1 rfl) ?_
        exact z_iret X hK hP hD hS dX2_countMeasured_36 (by rw [hr, show k = nK by omega]; rfl)
      · refine lv_aload_n hx hb dX2_countMeasured_15 rfl (lv_at hl 2 rfl) ?_
        refine va_get (D := D) (ci := 2) (v := .ref (q 19)) (C := RX2) (T := TX2) (N := 5) hx hb hts n_X2 hown hK hP 18 rfl rfl 2 (by decide) f_9 (fun _ h9 => h9) rfl dX2_countMeasured_16 ?_
        refine lv_iload_n hx hb dX2_countMeasured_19 rfl (lv_at hl 0 rfl) ?_
        refine z_iald hx hb hK hP 19 0 rfl rfl (by omega) dX2_countMeasured_20 ?_
        have b_2 := I.me k
        refine z_ldc (n := -100009) hx hb hown k_30 (by decide) dX2_countMeasured_21 ?_
        refine z_icmp_eq (tgt := 29) hx hb dX2_countMeasured_23 (by decide) (by omega) (fun c_3 => ?_) (fun c_3 => ?_)
        · refine lv_iinc (v := iI (k + 1)) (lv' := [(2, .int (iI (k + 1))), (1, .int (iI acc)), (0, .ref (q 18))]) hx hb dX2_countMeasured_29 hl (k := 0) rfl (iI_add _ _) (by decide) rfl (fun ls hl => ?_)
          refine lv_goto (tgt := 4) hx hb dX2_countMeasured_32 (by decide) ?_
          exact ih_4 acc (k + 1) (by omega) (by omega) (by rw [sZ_step (by omega), ← hr]; (try dsimp only); split <;> omega) _ _ _ hP hD hS (lv_sub hl [0, 1, 2] rfl)
        · refine lv_iinc (v := iI (acc + 1)) (lv' := [(1, .int (iI (acc + 1))), (2, .int (iI k)), (0, .ref (q 18))]) hx hb dX2_countMeasured_26 hl (k := 1) rfl (iI_add _ _) (by decide) rfl (fun ls hl => ?_)
          refine lv_iinc (v := iI (k + 1)) (lv' := [(2, .int (iI (k + 1))), (1, .int (iI (acc + 1))), (0, .ref (q 18))]) hx hb dX2_countMeasured_29 hl (k := 1) rfl (iI_add _ _) (by decide) rfl (fun ls hl => ?_)
          refine lv_goto (tgt := 4) hx hb dX2_countMeasured_32 (by decide) ?_
          exact ih_4 (acc + 1) (k + 1) (by omega) (by omega) (by rw [sZ_step (by omega), ← hr]; (try dsimp only); split <;> omega) _ _ _ hP hD hS (lv_sub hl [0, 1, 2] rfl)
  exact L_4 25 0 0 (by omega) (by omega) ((sZ_nil (by omega)).symm) _ _ _ hP hD hS (lv_sub hl [0, 1, 2] rfl)

theorem hd_X2_misfitAt : yX2_misfitAt.cls = RX2 ∧ yX2_misfitAt.cls ≠ "java/lang/invoke/MethodHandle" ∧ yX2_misfitAt.cls ≠ "java/lang/invoke/VarHandle" ∧ (parseMethodDescriptor yX2_misfitAt.desc).map (fun d => d.parameters.length) = some 3 := by decide +kernel
set_option maxHeartbeats 4000000 in
set_option maxRecDepth 100000 in
theorem c_X2_misfitAt (I : okS nK st le be te ab bl ka bg ln ns me sc pi re bk) (s9 : Int) (p9 : Int) (w9 : Int) (h : 0 ≤ s9 ∧ s9 ≤ 4) (h2 : 0 ≤ p9 ∧ p9 ≤ 200000) (h3 : -2147483648 ≤ w9 ∧ w9 ≤ 2147483647) : MI l D cy yX2_misfitAt wsX2_misfitAt ({ frames := 1, cells := 0, slots := 0, locals := 26 } : Room) [.ref (q 18), .int (iI s9), .int (iI p9), .int (iI w9)] (wT q cy nK st le be te ab bl ka bg ln ns me sc pi re bk pa lz go ss sm pf mf) (mis nK me ab bl s9 p9 w9) (wT q cy nK st le be te ab bl ka bg ln ns me sc pi re bk pa lz go ss sm pf mf) := by
  refine MI.ofW (cc := cX2_misfitAt) (maxL := 6) (ret := (some .int)) (by decide) rfl (Nat.le_of_ble_eq_true rfl) ?_
  intro p e s m below meth c A ls X hK hP hD hA hS hl
  obtain ⟨hx, hb, hml, hr, hts, hown, hlocks⟩ := id X
  have hl : lv_has ls 6 [(0, .ref (q 18)), (1, .int (iI s9)), (2, .int (iI p9)), (3, .int (iI w9))] := hl
  have f_22 := hts (Cond.fieldLink RX2 22 "TwoKeys$OldOne" "board" "LTwoKeys$Board;") (by decide +kernel)
  have f_31 := hts (Cond.fieldLink RX2 31 "TwoKeys$Board" "size" "I") (by decide +kernel)
  have f_9 := hts (Cond.fieldLink RX2 9 "TwoKeys$OldOne" "measured" "[I") (by decide +kernel)
  have k_30 := hts (Cond.constant RX2 30 (-100009)) (by decide +kernel)
  have f_26 := hts (Cond.fieldLink RX2 26 "TwoKeys$OldOne" "scales" "LTwoKeys$Scales;") (by decide +kernel)
  have k_RX2_42_Lib_Math_abs_name := hts (Cond.methodLink RX2 42 Lib.Math.abs.name) (by decide +kernel)
  have k_static_Lib_Math_abs_name := hts (Cond.static Lib.Math.abs.name) (by decide +kernel)
  have k_ialized__java_lang_Math_ := hts (Cond.initialized "java/lang/Math") (by decide +kernel)
  have k_h_abs_code_1__some__int_ := hts (Cond.code Lib.Math.abs.name Lib.Math.abs.code 1 (some .int)) (by decide +kernel)
  have n_X0 : ∀ w ∈ u_ws RX0 TX0 5, w ∈ wsX2_misfitAt := by decide +kernel
  have n_X2 : ∀ w ∈ u_ws RX2 TX2 5, w ∈ wsX2_misfitAt := by decide +kernel
  have iK := I.nK
  refine lv_iconst (v := iI (0)) hx hb dX2_misfitAt_0 rfl ?_
  refine lv_istore (lv' := [(4, .int (iI 0)), (0, .ref (q 18)), (1, .int (iI s9)), (2, .int (iI p9)), (3, .int (iI w9))]) hx hb dX2_misfitAt_1 hl (by decide) rfl (fun ls hl => ?_)
  refine lv_iconst (v := iI (0)) hx hb dX2_misfitAt_3 rfl ?_
  refine lv_istore (lv' := [(5, .int (iI 0)), (4, .int (iI 0)), (0, .ref (q 18)), (1, .int (iI s9)), (2, .int (iI p9)), (3, .int (iI w9))]) hx hb dX2_misfitAt_4 hl (by decide) rfl (fun ls hl => ?_)
  have L_6 : ∀ (n : Nat) (acc : Int) (k : Int), (h0 : 0 ≤ k ∧ k ≤ nK) → (hf : nK - k < n) → (hr : acc = sZ (fun k => if k = w9 ∨ me k = -100009 then 0 else aZ (gl ab bl s9 p9 k - me k)) 0 k) → ∀ (H : Heap) (locs : List Loc) (ls : Array Slot), va_P D vwCl (wT q cy nK st le be te ab bl ka bg ln ns me sc pi re bk pa lz go ss sm pf mf) H → va_D A (wT q cy nK st le be te ab bl ka bg ln ns me sc pi re bk pa lz go ss sm pf mf) → va_S A s.heap H locs → lv_has ls 6 [(5, .int (iI k)), (4, .int (iI acc)), (0, .ref (q 18)), (1, .int (iI s9)), (2, .int (iI p9)), (3, .int (iI w9))] → W p l e ({ frames := 1, cells := 0, slots := 0, locals := 26 } : Room) s m [.ref (q 18), .int (iI s9), .int (iI p9), .int (iI w9)].toArray below meth c H locs 0 0 (MQ below (zQi D cy (wT q cy nK st le be te ab bl ka bg ln ns me sc pi re bk pa lz go ss sm pf mf) A (mis nK me ab bl s9 p9 w9)) [.ref (q 18), .int (iI s9), .int (iI p9), .int (iI w9)].toArray s 0 0 A) (F0 m 6 ls []) := by
    intro n
    induction n with
    | zero =>
      intro acc k h0 hf hr
      exfalso; omega
    | succ n ih_6 =>
      intro acc k h0 hf hr H locs ls hP hD hS hl
      refine lv_iload hx hb dX2_misfitAt_6 (lv_at hl 0 rfl) ?_
      refine lv_aload_n hx hb dX2_misfitAt_8 rfl (lv_at hl 2 rfl) ?_
      refine va_get (D := D) (ci := 2) (v := .ref (q 1)) (C := RX2) (T := TX2) (N := 5) hx hb hts n_X2 hown hK hP 18 rfl rfl 0 (by decide) f_22 (fun _ h9 => h9) rfl dX2_misfitAt_9 ?_
      refine va_get (D := D) (ci := 0) (v := .int (iI nK)) (C := RX0) (T := TX0) (N := 5) hx hb hts n_X0 hown hK hP 1 rfl rfl 0 (by decide) f_31 (fun _ h9 => h9) rfl dX2_misfitAt_12 ?_
      refine z_icmp_ge (tgt := 72) hx hb dX2_misfitAt_15 (by decide) (by omega) (fun c_1 => ?_) (fun c_1 => ?_)
      · refine lv_iload hx hb dX2_misfitAt_72 (lv_at hl 1 rfl) ?_
        exact z_iret X hK hP hD hS dX2_misfitAt_74 (by rw [hr, show k = nK by omega]; rfl)
      · refine lv_iload hx hb dX2_misfitAt_18 (lv_at hl 0 rfl) ?_
        refine lv_iload_n hx hb dX2_misfitAt_20 rfl (lv_at hl 5 rfl) ?_
        refine z_icmp_eq (tgt := 66) hx hb dX2_misfitAt_21 (by decide) (by omega) (fun c_2 => ?_) (fun c_2 => ?_)
        · refine lv_iinc (v := iI (k + 1)) (lv' := [(5, .int (iI (k + 1))), (4, .int (iI acc)), (0, .ref (q 18)), (1, .int (iI s9)), (2, .int (iI p9)), (3, .int (iI w9))]) hx hb dX2_misfitAt_66 hl (k := 0) rfl (iI_add _ _) (by decide) rfl (fun ls hl => ?_)
          refine lv_goto (tgt := 6) hx hb dX2_misfitAt_69 (by decide) ?_
          exact ih_6 acc (k + 1) (by omega) (by omega) (by rw [sZ_step (by omega), ← hr]; (try dsimp only); first | (rw [if_pos (by omega)]; omega) | (rw [if_neg (by omega)])) _ _ _ hP hD hS (lv_sub hl [0, 1, 2, 3, 4, 5] rfl)
        · refine lv_aload_n hx hb dX2_misfitAt_24 rfl (lv_at hl 2 rfl) ?_
          refine va_get (D := D) (ci := 2) (v := .ref (q 19)) (C := RX2) (T := TX2) (N := 5) hx hb hts n_X2 hown hK hP 18 rfl rfl 2 (by decide) f_9 (fun _ h9 => h9) rfl dX2_misfitAt_25 ?_
          refine lv_iload hx hb dX2_misfitAt_28 (lv_at hl 0 rfl) ?_
          refine z_iald hx hb hK hP 19 0 rfl rfl (by omega) dX2_misfitAt_30 ?_
          have b_3 := I.me k
          refine z_ldc (n := -100009) hx hb hown k_30 (by decide) dX2_misfitAt_31 ?_
          refine z_icmp_ne (tgt := 39) hx hb dX2_misfitAt_33 (by decide) (by omega) (fun c_4 => ?_) (fun c_4 => ?_)
          · refine lv_iload hx hb dX2_misfitAt_39 (lv_at hl 1 rfl) ?_
            refine lv_aload_n hx hb dX2_misfitAt_41 rfl (lv_at hl 2 rfl) ?_
            refine va_get (D := D) (ci := 2) (v := .ref (q 6)) (C := RX2) (T := TX2) (N := 5) hx hb hts n_X2 hown hK hP 18 rfl rfl 1 (by decide) f_26 (fun _ h9 => h9) rfl dX2_misfitAt_42 ?_
            refine lv_iload_n hx hb dX2_misfitAt_45 rfl (lv_at hl 3 rfl) ?_
            refine lv_iload_n hx hb dX2_misfitAt_46 rfl (lv_at hl 4 rfl) ?_
            refine lv_iload hx hb dX2_misfitAt_47 (lv_at hl 0 rfl) ?_
            refine z_callVi (ci := 3) (q0 := 6) (As := [.int (iI s9), .int (iI p9), .int (iI k)]) (rest := [.int (iI acc)]) X hK hP hD hA hS hl.1 gX2_misfitAt_X3_goalAt rfl ⟨rfl, rfl⟩ hd_X3_goalAt ⟨Nat.le_of_ble_eq_true rfl, Nat.le_of_ble_eq_true rfl⟩ rfl rfl rfl (Nat.le_of_ble_eq_true rfl) ⟨Nat.zero_le _, Nat.zero_le _⟩ rfl dX2_misfitAt_49 (c_X3_goalAt I s9 p9 k (by omega) (by omega) (by omega)) (fun H locs hP hD hS => ?_)
            have b7 := gl_b (s := s9) (p := p9) (k := k) I.ab I.bl (by omega) (by omega)
            refine lv_aload_n hx hb dX2_misfitAt_52 rfl (lv_at hl 2 rfl) ?_
            refine va_get (D := D) (ci := 2) (v := .ref (q 19)) (C := RX2) (T := TX2) (N := 5) hx hb hts n_X2 hown hK hP 18 rfl rfl 2 (by decide) f_9 (fun _ h9 => h9) rfl dX2_misfitAt_53 ?_
            refine lv_iload hx hb dX2_misfitAt_56 (lv_at hl 0 rfl) ?_
            refine z_iald hx hb hK hP 19 0 rfl rfl (by omega) dX2_misfitAt_58 ?_
            have b_5 := I.me k
            refine z_isub hx hb dX2_misfitAt_59 ?_
            refine z_abs hx hb (by rw [hml]; exact hl.1.symm) hown k_RX2_42_Lib_Math_abs_name k_static_Lib_Math_abs_name k_ialized__java_lang_Math_ k_h_abs_code_1__some__int_ (Nat.le_of_ble_eq_true rfl) (Nat.le_of_ble_eq_true rfl) (Nat.zero_le _) (Nat.zero_le _) (by omega) dX2_misfitAt_60 ?_
            refine z_iadd hx hb dX2_misfitAt_63 ?_
            refine lv_istore (lv' := [(4, .int (iI (acc + (aZ ((gl ab bl s9 p9 k) - (me k)))))), (5, .int (iI k)), (0, .ref (q 18)), (1, .int (iI s9)), (2, .int (iI p9)), (3, .int (iI w9))]) hx hb dX2_misfitAt_64 hl (by decide) rfl (fun ls hl => ?_)
            refine lv_iinc (v := iI (k + 1)) (lv' := [(5, .int (iI (k + 1))), (4, .int (iI (acc + (aZ ((gl ab bl s9 p9 k) - (me k)))))), (0, .ref (q 18)), (1, .int (iI s9)), (2, .int (iI p9)), (3, .int (iI w9))]) hx hb dX2_misfitAt_66 hl (k := 1) rfl (iI_add _ _) (by decide) rfl (fun ls hl => ?_)
            refine lv_goto (tgt := 6) hx hb dX2_misfitAt_69 (by decide) ?_
            exact ih_6 (acc + (aZ ((gl ab bl s9 p9 k) - (me k)))) (k + 1) (by omega) (by omega) (by rw [sZ_step (by omega), ← hr]; (try dsimp only); first | (rw [if_pos (by omega)]; omega) | (rw [if_neg (by omega)])) _ _ _ hP hD hS (lv_sub hl [0, 1, 2, 3, 4, 5] rfl)
          · refine lv_goto (tgt := 66) hx hb dX2_misfitAt_36 (by decide) ?_
            refine lv_iinc (v := iI (k + 1)) (lv' := [(5, .int (iI (k + 1))), (4, .int (iI acc)), (0, .ref (q 18)), (1, .int (iI s9)), (2, .int (iI p9)), (3, .int (iI w9))]) hx hb dX2_misfitAt_66 hl (k := 0) rfl (iI_add _ _) (by decide) rfl (fun ls hl => ?_)
            refine lv_goto (tgt := 6) hx hb dX2_misfitAt_69 (by decide) ?_
            exact ih_6 acc (k + 1) (by omega) (by omega) (by rw [sZ_step (by omega), ← hr]; (try dsimp only); first | (rw [if_pos (by omega)]; omega) | (rw [if_neg (by omega)])) _ _ _ hP hD hS (lv_sub hl [0, 1, 2, 3, 4, 5] rfl)
  exact L_6 25 0 0 (by omega) (by omega) ((sZ_nil (by omega)).symm) _ _ _ hP hD hS (lv_sub hl [0, 1, 2, 3, 4, 5] rfl)

theorem hd_X2_likelyPitch : yX2_likelyPitch.cls = RX2 ∧ yX2_likelyPitch.cls ≠ "java/lang/invoke/MethodHandle" ∧ yX2_likelyPitch.cls ≠ "java/lang/invoke/VarHandle" ∧ (parseMethodDescriptor yX2_likelyPitch.desc).map (fun d => d.parameters.length) = some 2 := by decide +kernel
set_option maxHeartbeats 4000000 in
set_option maxRecDepth 100000 in
theorem c_X2_likelyPitch (I : okS nK st le be te ab bl ka bg ln ns me sc pi re bk) (s9 : Int) (w9 : Int) (h : 0 ≤ s9 ∧ s9 ≤ 4) (h3 : -2147483648 ≤ w9 ∧ w9 ≤ 2147483647) : MI l D cy yX2_likelyPitch wsX2_likelyPitch ({ frames := 2, cells := 0, slots := 0, locals := 51 } : Room) [.ref (q 18), .int (iI s9), .int (iI w9)] (wT q cy nK st le be te ab bl ka bg ln ns me sc pi re bk pa lz go ss sm pf mf) (1000 + lkN (fun i => mis nK me ab bl s9 (1000 + i * 20) w9) 14 0 9950 * 20) (wT q cy nK st le be te ab bl ka bg ln ns me sc pi re bk pa lz go ss sm pf mf) := by
  refine MI.ofW (cc := cX2_likelyPitch) (maxL := 9) (ret := (some .int)) (by decide) rfl (Nat.le_of_ble_eq_true rfl) ?_
  intro p e s m below meth c A ls X hK hP hD hA hS hl
  obtain ⟨hx, hb, hml, hr, hts, hown, hlocks⟩ := id X
  have hl : lv_has ls 9 [(0, .ref (q 18)), (1, .int (iI s9)), (2, .int (iI w9))] := hl
  have iK := I.nK
  refine lv_iconst (v := iI (0)) hx hb dX2_likelyPitch_0 rfl ?_
  refine lv_istore_n (lv' := [(3, .int (iI 0)), (0, .ref (q 18)), (1, .int (iI s9)), (2, .int (iI w9))]) hx hb dX2_likelyPitch_1 rfl hl (by decide) rfl (fun ls hl => ?_)
  refine lv_sipush (v := iI (9950)) hx hb dX2_likelyPitch_2 (by decide) ?_
  refine lv_istore (lv' := [(4, .int (iI 9950)), (3, .int (iI 0)), (0, .ref (q 18)), (1, .int (iI s9)), (2, .int (iI w9))]) hx hb dX2_likelyPitch_5 hl (by decide) rfl (fun ls hl => ?_)
  refine lv_iconst (v := iI (0)) hx hb dX2_likelyPitch_7 rfl ?_
  refine lv_istore (lv' := [(5, .int (iI 0)), (4, .int (iI 9950)), (3, .int (iI 0)), (0, .ref (q 18)), (1, .int (iI s9)), (2, .int (iI w9))]) hx hb dX2_likelyPitch_8 hl (by decide) rfl (fun ls hl => ?_)
  have L_10 : ∀ (n : Nat) (lo9 : Int) (hi9 : Int) (rd : Int), (h0 : 0 ≤ lo9 ∧ lo9 ≤ hi9 ∧ hi9 ≤ 9950) → (h1 : 0 ≤ rd ∧ rd ≤ 14) → (hf : 14 - rd < n) → (hr : lkN (fun i => mis nK me ab bl s9 (1000 + i * 20) w9) (14 - rd).toNat lo9 hi9 = lkN (fun i => mis nK me ab bl s9 (1000 + i * 20) w9) 14 0 9950) → ∀ (H : Heap) (locs : List Loc) (ls : Array Slot), va_P D vwCl (wT q cy nK st le be te ab bl ka bg ln ns me sc pi re bk pa lz go ss sm pf mf) H → va_D A (wT q cy nK st le be te ab bl ka bg ln ns me sc pi re bk pa lz go ss sm pf mf) → va_S A s.heap H locs → lv_has ls 9 [(5, .int (iI rd)), (4, .int (iI hi9)), (3, .int (iI lo9)), (0, .ref (q 18)), (1, .int (iI s9)), (2, .int (iI w9))] → W p l e ({ frames := 2, cells := 0, slots := 0, locals := 51 } : Room) s m [.ref (q 18), .int (iI s9), .int (iI w9)].toArray below meth c H locs 0 0 (MQ below (zQi D cy (wT q cy nK st le be te ab bl ka bg ln ns me sc pi re bk pa lz go ss sm pf mf) A (1000 + lkN (fun i => mis nK me ab bl s9 (1000 + i * 20) w9) 14 0 9950 * 20)) [.ref (q 18), .int (iI s9), .int (iI w9)].toArray s 0 0 A) (F0 m 10 ls []) := by
    intro n
    induction n with
    | zero =>
      intro lo9 hi9 rd h0 h1 hf hr
      exfalso; omega
    | succ n ih_10 =>
      intro lo9 hi9 rd h0 h1 hf hr H locs ls hP hD hS hl
      refine lv_iload hx hb dX2_likelyPitch_10 (lv_at hl 0 rfl) ?_
      refine lv_bipush (v := iI (14)) hx hb dX2_likelyPitch_12 (by decide) ?_
      refine z_icmp_ge (tgt := 86) hx hb dX2_likelyPitch_14 (by decide) (by omega) (fun c_1 => ?_) (fun c_1 => ?_)
      · refine lv_sipush (v := iI (1000)) hx hb dX2_likelyPitch_86 (by decide) ?_
        refine lv_iload_n hx hb dX2_likelyPitch_89 rfl (lv_at hl 2 rfl) ?_
        refine lv_bipush (v := iI (20)) hx hb dX2_likelyPitch_90 (by decide) ?_
        refine z_imul hx hb dX2_likelyPitch_92 ?_
        refine z_iadd hx hb dX2_likelyPitch_93 ?_
        exact z_iret X hK hP hD hS dX2_likelyPitch_94 (by rw [← hr]; first | rw [lkN_e (by omega)] | (rw [show (14 - rd).toNat = 0 by omega]; rfl))
      · refine lv_iload_n hx hb dX2_likelyPitch_17 rfl (lv_at hl 2 rfl) ?_
        refine lv_iload hx hb dX2_likelyPitch_18 (lv_at hl 1 rfl) ?_
        refine z_icmp_ge (tgt := 86) hx hb dX2_likelyPitch_20 (by decide) (by omega) (fun c_2 => ?_) (fun c_2 => ?_)
        · refine lv_sipush (v := iI (1000)) hx hb dX2_likelyPitch_86 (by decide) ?_
          refine lv_iload_n hx hb dX2_likelyPitch_89 rfl (lv_at hl 2 rfl) ?_
          refine lv_bipush (v := iI (20)) hx hb dX2_likelyPitch_90 (by decide) ?_
          refine z_imul hx hb dX2_likelyPitch_92 ?_
          refine z_iadd hx hb dX2_likelyPitch_93 ?_
          exact z_iret X hK hP hD hS dX2_likelyPitch_94 (by rw [← hr]; first | rw [lkN_e (by omega)] | (rw [show (14 - rd).toNat = 0 by omega]; rfl))
        · refine lv_iload_n hx hb dX2_likelyPitch_23 rfl (lv_at hl 2 rfl) ?_
          refine lv_iload hx hb dX2_likelyPitch_24 (lv_at hl 1 rfl) ?_
          refine z_iadd hx hb dX2_likelyPitch_26 ?_
          refine lv_iconst (v := iI (2)) hx hb dX2_likelyPitch_27 rfl ?_
          refine z_idiv hx hb dX2_likelyPitch_28 (by omega) ?_
          refine lv_istore (lv' := [(6, .int (iI ((lo9 + hi9) / 2))), (5, .int (iI rd)), (4, .int (iI hi9)), (3, .int (iI lo9)), (0, .ref (q 18)), (1, .int (iI s9)), (2, .int (iI w9))]) hx hb dX2_likelyPitch_29 hl (by decide) rfl (fun ls hl => ?_)
          refine lv_sipush (v := iI (1000)) hx hb dX2_likelyPitch_31 (by decide) ?_
          refine lv_iload hx hb dX2_likelyPitch_34 (lv_at hl 0 rfl) ?_
          refine lv_bipush (v := iI (20)) hx hb dX2_likelyPitch_36 (by decide) ?_
          refine z_imul hx hb dX2_likelyPitch_38 ?_
          refine z_iadd hx hb dX2_likelyPitch_39 ?_
          refine lv_istore (lv' := [(7, .int (iI (1000 + (((lo9 + hi9) / 2) * 20)))), (6, .int (iI ((lo9 + hi9) / 2))), (5, .int (iI rd)), (4, .int (iI hi9)), (3, .int (iI lo9)), (0, .ref (q 18)), (1, .int (iI s9)), (2, .int (iI w9))]) hx hb dX2_likelyPitch_40 hl (by decide) rfl (fun ls hl => ?_)
          refine lv_aload_n hx hb dX2_likelyPitch_42 rfl (lv_at hl 5 rfl) ?_
          refine lv_iload_n hx hb dX2_likelyPitch_43 rfl (lv_at hl 6 rfl) ?_
          refine lv_iload hx hb dX2_likelyPitch_44 (lv_at hl 0 rfl) ?_
          refine lv_iload_n hx hb dX2_likelyPitch_46 rfl (lv_at hl 7 rfl) ?_
          refine z_callVi (ci := 2) (q0 := 18) (As := [.int (iI s9), .int (iI (1000 + (((lo9 + hi9) / 2) * 20))), .int (iI w9)]) (rest := []) X hK hP hD hA hS hl.1 gX2_likelyPitch_X2_misfitAt rfl ⟨rfl, rfl⟩ hd_X2_misfitAt ⟨Nat.le_of_ble_eq_true rfl, Nat.le_of_ble_eq_true rfl⟩ rfl rfl rfl (Nat.le_of_ble_eq_true rfl) ⟨Nat.zero_le _, Nat.zero_le _⟩ rfl dX2_likelyPitch_47 (c_X2_misfitAt I s9 (1000 + (((lo9 + hi9) / 2) * 20)) w9 (by omega) (by omega) (by omega)) (fun H locs hP hD hS => ?_)
          have m1 := mis_b (s := s9) (p := ((1000 + (((lo9 + hi9) / 2) * 20)))) (w := w9) (nK := nK) (by omega) I.me I.ab I.bl (by omega) (by omega)
          refine lv_istore (lv' := [(8, .int (iI (mis nK me ab bl s9 (1000 + (((lo9 + hi9) / 2) * 20)) w9))), (7, .int (iI (1000 + (((lo9 + hi9) / 2) * 20)))), (6, .int (iI ((lo9 + hi9) / 2))), (5, .int (iI rd)), (4, .int (iI hi9)), (3, .int (iI lo9)), (0, .ref (q 18)), (1, .int (iI s9)), (2, .int (iI w9))]) hx hb dX2_likelyPitch_50 hl (by decide) rfl (fun ls hl => ?_)
          refine lv_iload hx hb dX2_likelyPitch_52 (lv_at hl 0 rfl) ?_
          refine lv_aload_n hx hb dX2_likelyPitch_54 rfl (lv_at hl 6 rfl) ?_
          refine lv_iload_n hx hb dX2_likelyPitch_55 rfl (lv_at hl 7 rfl) ?_
          refine lv_iload hx hb dX2_likelyPitch_56 (lv_at hl 1 rfl) ?_
          refine lv_bipush (v := iI (20)) hx hb dX2_likelyPitch_58 (by decide) ?_
          refine z_iadd hx hb dX2_likelyPitch_60 ?_
          refine lv_iload_n hx hb dX2_likelyPitch_61 rfl (lv_at hl 8 rfl) ?_
          refine z_callVi (ci := 2) (q0 := 18) (As := [.int (iI s9), .int (iI ((1000 + (((lo9 + hi9) / 2) * 20)) + 20)), .int (iI w9)]) (rest := [.int (iI (mis nK me ab bl s9 (1000 + (((lo9 + hi9) / 2) * 20)) w9))]) X hK hP hD hA hS hl.1 gX2_likelyPitch_X2_misfitAt rfl ⟨rfl, rfl⟩ hd_X2_misfitAt ⟨Nat.le_of_ble_eq_true rfl, Nat.le_of_ble_eq_true rfl⟩ rfl rfl rfl (Nat.le_of_ble_eq_true rfl) ⟨Nat.zero_le _, Nat.zero_le _⟩ rfl dX2_likelyPitch_62 (c_X2_misfitAt I s9 ((1000 + (((lo9 + hi9) / 2) * 20)) + 20) w9 (by omega) (by omega) (by omega)) (fun H locs hP hD hS => ?_)
          have m2 := mis_b (s := s9) (p := ((1000 + (((lo9 + hi9) / 2) * 20)) + 20)) (w := w9) (nK := nK) (by omega) I.me I.ab I.bl (by omega) (by omega)
          refine z_icmp_gt (tgt := 75) hx hb dX2_likelyPitch_65 (by decide) (by omega) (fun c_3 => ?_) (fun c_3 => ?_)
          · refine lv_iload hx hb dX2_likelyPitch_75 (lv_at hl 2 rfl) ?_
            refine lv_iconst (v := iI (1)) hx hb dX2_likelyPitch_77 rfl ?_
            refine z_iadd hx hb dX2_likelyPitch_78 ?_
            refine lv_istore_n (lv' := [(3, .int (iI (((lo9 + hi9) / 2) + 1))), (8, .int (iI (mis nK me ab bl s9 (1000 + (((lo9 + hi9) / 2) * 20)) w9))), (7, .int (iI (1000 + (((lo9 + hi9) / 2) * 20)))), (6, .int (iI ((lo9 + hi9) / 2))), (5, .int (iI rd)), (4, .int (iI hi9)), (0, .ref (q 18)), (1, .int (iI s9)), (2, .int (iI w9))]) hx hb dX2_likelyPitch_79 rfl hl (by decide) rfl (fun ls hl => ?_)
            refine lv_iinc (v := iI (rd + 1)) (lv' := [(5, .int (iI (rd + 1))), (3, .int (iI (((lo9 + hi9) / 2) + 1))), (8, .int (iI (mis nK me ab bl s9 (1000 + (((lo9 + hi9) / 2) * 20)) w9))), (7, .int (iI (1000 + (((lo9 + hi9) / 2) * 20)))), (6, .int (iI ((lo9 + hi9) / 2))), (4, .int (iI hi9)), (0, .ref (q 18)), (1, .int (iI s9)), (2, .int (iI w9))]) hx hb dX2_likelyPitch_80 hl (k := 4) rfl (iI_add _ _) (by decide) rfl (fun ls hl => ?_)
            refine lv_goto (tgt := 10) hx hb dX2_likelyPitch_83 (by decide) ?_
            exact ih_10 (((lo9 + hi9) / 2) + 1) hi9 (rd + 1) (by omega) (by omega) (by omega) (by first | (rw [← hr, show (14 - rd).toNat = (14 - (rd + 1)).toNat + 1 by omega, lkN_l (by omega) (by show mis nK me ab bl s9 (1000 + (lo9 + hi9) / 2 * 20) w9 ≤ mis nK me ab bl s9 (1000 + ((lo9 + hi9) / 2 + 1) * 20) w9; rw [show 1000 + ((lo9 + hi9) / 2 + 1) * 20 = 1000 + (lo9 + hi9) / 2 * 20 + 20 by omega]; omega)]; done) | (rw [← hr, show (14 - rd).toNat = (14 - (rd + 1)).toNat + 1 by omega, lkN_r (by omega) (by show mis nK me ab bl s9 (1000 + ((lo9 + hi9) / 2 + 1) * 20) w9 < mis nK me ab bl s9 (1000 + (lo9 + hi9) / 2 * 20) w9; rw [show 1000 + ((lo9 + hi9) / 2 + 1) * 20 = 1000 + (lo9 + hi9) / 2 * 20 + 20 by omega]; omega)]; done)) _ _ _ hP hD hS (lv_sub hl [0, 5, 1, 6, 7, 8] rfl)
          · refine lv_iload hx hb dX2_likelyPitch_68 (lv_at hl 2 rfl) ?_
            refine lv_istore (lv' := [(4, .int (iI ((lo9 + hi9) / 2))), (8, .int (iI (mis nK me ab bl s9 (1000 + (((lo9 + hi9) / 2) * 20)) w9))), (7, .int (iI (1000 + (((lo9 + hi9) / 2) * 20)))), (6, .int (iI ((lo9 + hi9) / 2))), (5, .int (iI rd)), (3, .int (iI lo9)), (0, .ref (q 18)), (1, .int (iI s9)), (2, .int (iI w9))]) hx hb dX2_likelyPitch_70 hl (by decide) rfl (fun ls hl => ?_)
            refine lv_goto (tgt := 80) hx hb dX2_likelyPitch_72 (by decide) ?_
            refine lv_iinc (v := iI (rd + 1)) (lv' := [(5, .int (iI (rd + 1))), (4, .int (iI ((lo9 + hi9) / 2))), (8, .int (iI (mis nK me ab bl s9 (1000 + (((lo9 + hi9) / 2) * 20)) w9))), (7, .int (iI (1000 + (((lo9 + hi9) / 2) * 20)))), (6, .int (iI ((lo9 + hi9) / 2))), (3, .int (iI lo9)), (0, .ref (q 18)), (1, .int (iI s9)), (2, .int (iI w9))]) hx hb dX2_likelyPitch_80 hl (k := 4) rfl (iI_add _ _) (by decide) rfl (fun ls hl => ?_)
            refine lv_goto (tgt := 10) hx hb dX2_likelyPitch_83 (by decide) ?_
            exact ih_10 lo9 ((lo9 + hi9) / 2) (rd + 1) (by omega) (by omega) (by omega) (by first | (rw [← hr, show (14 - rd).toNat = (14 - (rd + 1)).toNat + 1 by omega, lkN_l (by omega) (by show mis nK me ab bl s9 (1000 + (lo9 + hi9) / 2 * 20) w9 ≤ mis nK me ab bl s9 (1000 + ((lo9 + hi9) / 2 + 1) * 20) w9; rw [show 1000 + ((lo9 + hi9) / 2 + 1) * 20 = 1000 + (lo9 + hi9) / 2 * 20 + 20 by omega]; omega)]; done) | (rw [← hr, show (14 - rd).toNat = (14 - (rd + 1)).toNat + 1 by omega, lkN_r (by omega) (by show mis nK me ab bl s9 (1000 + ((lo9 + hi9) / 2 + 1) * 20) w9 < mis nK me ab bl s9 (1000 + (lo9 + hi9) / 2 * 20) w9; rw [show 1000 + ((lo9 + hi9) / 2 + 1) * 20 = 1000 + (lo9 + hi9) / 2 * 20 + 20 by omega]; omega)]; done)) _ _ _ hP hD hS (lv_sub hl [0, 1, 5, 6, 7, 8] rfl)
  exact L_10 15 0 9950 0 (by omega) (by omega) (by omega) rfl _ _ _ hP hD hS (lv_sub hl [0, 1, 2, 3, 4, 5] rfl)

theorem hd_X2_seek : yX2_seek.cls = RX2 ∧ yX2_seek.cls ≠ "java/lang/invoke/MethodHandle" ∧ yX2_seek.cls ≠ "java/lang/invoke/VarHandle" ∧ (parseMethodDescriptor yX2_seek.desc).map (fun d => d.parameters.length) = some 2 := by decide +kernel
set_option maxHeartbeats 4000000 in
set_option maxRecDepth 100000 in
theorem c_X2_seek (I : okS nK st le be te ab bl ka bg ln ns me sc pi re bk) (s9 : Int) (w9 : Int) (h : 0 ≤ s9 ∧ s9 ≤ 4) (h3 : -2147483648 ≤ w9 ∧ w9 ≤ 2147483647) : MV l D cy yX2_seek wsX2_seek ({ frames := 3, cells := 0, slots := 0, locals := 79 } : Room) [.ref (q 18), .int (iI s9), .int (iI w9)] (wT q cy nK st le be te ab bl ka bg ln ns me sc pi re bk pa lz go ss sm pf mf) (wT q cy nK st le be te ab bl ka bg ln ns me sc pi re bk pa lz go ss sm (pitF nK me ab bl s9 w9) (misF nK me ab bl s9 w9)) := by
  refine MV.ofW (cc := cX2_seek) (maxL := 8) (ret := none) (by decide) rfl (Nat.le_of_ble_eq_true rfl) ?_
  intro p e s m below meth c A ls X hK hP hD hA hS hl
  obtain ⟨hx, hb, hml, hr, hts, hown, hlocks⟩ := id X
  have hl : lv_has ls 8 [(0, .ref (q 18)), (1, .int (iI s9)), (2, .int (iI w9))] := hl
  have f_15 := hts (Cond.fieldLink RX2 15 "TwoKeys$OldOne" "pitchFound" "I") (by decide +kernel)
  have f_19 := hts (Cond.fieldLink RX2 19 "TwoKeys$OldOne" "misfitFound" "I") (by decide +kernel)
  have k_55 := hts (Cond.constant RX2 55 (200000)) (by decide +kernel)
  have n_X2 : ∀ w ∈ u_ws RX2 TX2 5, w ∈ wsX2_seek := by decide +kernel
  have iK := I.nK
  have lb := lkN_b (fun i => mis nK me ab bl s9 (1000 + i * 20) w9) 14 0 9950 (by omega) (by omega) (by omega)
  obtain ⟨z9, ez9⟩ : ∃ z, z = lkN (fun i => mis nK me ab bl s9 (1000 + i * 20) w9) 14 0 9950 := ⟨_, rfl⟩
  rw [← ez9] at lb
  have uu : ∀ p0 p1 p2, p0 < p1 → p1 ≤ p2 → (fun p => mis nK me ab bl s9 p w9) p0 + 48 < (fun p => mis nK me ab bl s9 p w9) p1 → (fun p => mis nK me ab bl s9 p w9) p0 < (fun p => mis nK me ab bl s9 p w9) p2 := fun p0 p1 p2 g1 g2 g3 => mis_up (by omega) I.bl g1 g2 g3
  have dd : ∀ p0 p1 p2, p1 < p0 → p2 ≤ p1 → (fun p => mis nK me ab bl s9 p w9) p0 + 48 < (fun p => mis nK me ab bl s9 p w9) p1 → (fun p => mis nK me ab bl s9 p w9) p0 < (fun p => mis nK me ab bl s9 p w9) p2 := fun p0 p1 p2 g1 g2 g3 => mis_dn (by omega) I.bl g1 g2 g3
  refine lv_aload_n hx hb dX2_seek_0 rfl (lv_at hl 0 rfl) ?_
  refine lv_iload_n hx hb dX2_seek_1 rfl (lv_at hl 1 rfl) ?_
  refine lv_iload_n hx hb dX2_seek_2 rfl (lv_at hl 2 rfl) ?_
  refine z_callVi (ci := 2) (q0 := 18) (As := [.int (iI s9), .int (iI w9)]) (rest := []) X hK hP hD hA hS hl.1 gX2_seek_X2_likelyPitch rfl ⟨rfl, rfl⟩ hd_X2_likelyPitch ⟨Nat.le_of_ble_eq_true rfl, Nat.le_of_ble_eq_true rfl⟩ rfl rfl rfl (Nat.le_of_ble_eq_true rfl) ⟨Nat.zero_le _, Nat.zero_le _⟩ rfl dX2_seek_3 (c_X2_likelyPitch I s9 w9 (by omega) (by omega)) (fun H locs hP hD hS => ?_)
  rw [← ez9]
  refine lv_istore_n (lv' := [(3, .int (iI (1000 + z9 * 20))), (0, .ref (q 18)), (1, .int (iI s9)), (2, .int (iI w9))]) hx hb dX2_seek_6 rfl hl (by decide) rfl (fun ls hl => ?_)
  refine lv_iload_n hx hb dX2_seek_7 rfl (lv_at hl 0 rfl) ?_
  refine lv_istore (lv' := [(4, .int (iI (1000 + z9 * 20))), (3, .int (iI (1000 + z9 * 20))), (0, .ref (q 18)), (1, .int (iI s9)), (2, .int (iI w9))]) hx hb dX2_seek_8 hl (by decide) rfl (fun ls hl => ?_)
  refine lv_aload_n hx hb dX2_seek_10 rfl (lv_at hl 2 rfl) ?_
  refine lv_iload_n hx hb dX2_seek_11 rfl (lv_at hl 3 rfl) ?_
  refine lv_iload_n hx hb dX2_seek_12 rfl (lv_at hl 1 rfl) ?_
  refine lv_iload_n hx hb dX2_seek_13 rfl (lv_at hl 4 rfl) ?_
  refine z_callVi (ci := 2) (q0 := 18) (As := [.int (iI s9), .int (iI (1000 + z9 * 20)), .int (iI w9)]) (rest := []) X hK hP hD hA hS hl.1 gX2_seek_X2_misfitAt rfl ⟨rfl, rfl⟩ hd_X2_misfitAt ⟨Nat.le_of_ble_eq_true rfl, Nat.le_of_ble_eq_true rfl⟩ rfl rfl rfl (Nat.le_of_ble_eq_true rfl) ⟨Nat.zero_le _, Nat.zero_le _⟩ rfl dX2_seek_14 (c_X2_misfitAt I s9 (1000 + z9 * 20) w9 (by omega) (by omega) (by omega)) (fun H locs hP hD hS => ?_)
  have m1 := mis_b (s := s9) (p := ((1000 + z9 * 20))) (w := w9) (nK := nK) (by omega) I.me I.ab I.bl (by omega) (by omega)
  refine lv_istore (lv' := [(5, .int (iI (mis nK me ab bl s9 (1000 + z9 * 20) w9))), (4, .int (iI (1000 + z9 * 20))), (3, .int (iI (1000 + z9 * 20))), (0, .ref (q 18)), (1, .int (iI s9)), (2, .int (iI w9))]) hx hb dX2_seek_17 hl (by decide) rfl (fun ls hl => ?_)
  refine lv_iload_n hx hb dX2_seek_19 rfl (lv_at hl 2 rfl) ?_
  refine lv_bipush (v := iI (20)) hx hb dX2_seek_20 (by decide) ?_
  refine z_iadd hx hb dX2_seek_22 ?_
  refine lv_istore (lv' := [(6, .int (iI ((1000 + z9 * 20) + 20))), (5, .int (iI (mis nK me ab bl s9 (1000 + z9 * 20) w9))), (4, .int (iI (1000 + z9 * 20))), (3, .int (iI (1000 + z9 * 20))), (0, .ref (q 18)), (1, .int (iI s9)), (2, .int (iI w9))]) hx hb dX2_seek_23 hl (by decide) rfl (fun ls hl => ?_)
  have J_76 : ∀ (bp : Int) (bs : Int), (hs : 0 ≤ bs ∧ bs ≤ 38400000) → (hj : jnI (fun p => mis nK me ab bl s9 p w9) z9 bp bs) → ∀ (H : Heap) (locs : List Loc) (ls : Array Slot), va_P D vwCl (wT q cy nK st le be te ab bl ka bg ln ns me sc pi re bk pa lz go ss sm pf mf) H → va_D A (wT q cy nK st le be te ab bl ka bg ln ns me sc pi re bk pa lz go ss sm pf mf) → va_S A s.heap H locs → lv_has ls 8 [(5, .int (iI bs)), (4, .int (iI bp)), (3, .int (iI (1000 + z9 * 20))), (0, .ref (q 18)), (1, .int (iI s9)), (2, .int (iI w9))] → W p l e ({ frames := 3, cells := 0, slots := 0, locals := 79 } : Room) s m [.ref (q 18), .int (iI s9), .int (iI w9)].toArray below meth c H locs 0 0 (MQ below (zQv D cy (wT q cy nK st le be te ab bl ka bg ln ns me sc pi re bk pa lz go ss sm (pitF nK me ab bl s9 w9) (misF nK me ab bl s9 w9)) A) [.ref (q 18), .int (iI s9), .int (iI w9)].toArray s 0 0 A) (F0 m 76 ls []) := by
    intro bp bs hs hj H locs ls hP hD hS hl
    refine lv_iload_n hx hb dX2_seek_76 rfl (lv_at hl 2 rfl) ?_
    refine lv_bipush (v := iI (20)) hx hb dX2_seek_77 (by decide) ?_
    refine z_isub hx hb dX2_seek_79 ?_
    refine lv_istore (lv' := [(6, .int (iI ((1000 + z9 * 20) - 20))), (5, .int (iI bs)), (4, .int (iI bp)), (3, .int (iI (1000 + z9 * 20))), (0, .ref (q 18)), (1, .int (iI s9)), (2, .int (iI w9))]) hx hb dX2_seek_80 hl (by decide) rfl (fun ls hl => ?_)
    have J_134 : ∀ (bp : Int) (bs : Int), (hk : jnI (fun p => mis nK me ab bl s9 p w9) 0 bp bs) → ∀ (H : Heap) (locs : List Loc) (ls : Array Slot), va_P D vwCl (wT q cy nK st le be te ab bl ka bg ln ns me sc pi re bk pa lz go ss sm pf mf) H → va_D A (wT q cy nK st le be te ab bl ka bg ln ns me sc pi re bk pa lz go ss sm pf mf) → va_S A s.heap H locs → lv_has ls 8 [(5, .int (iI bs)), (4, .int (iI bp)), (3, .int (iI (1000 + z9 * 20))), (0, .ref (q 18)), (1, .int (iI s9)), (2, .int (iI w9))] → W p l e ({ frames := 3, cells := 0, slots := 0, locals := 79 } : Room) s m [.ref (q 18), .int (iI s9), .int (iI w9)].toArray below meth c H locs 0 0 (MQ below (zQv D cy (wT q cy nK st le be te ab bl ka bg ln ns me sc pi re bk pa lz go ss sm (pitF nK me ab bl s9 w9) (misF nK me ab bl s9 w9)) A) [.ref (q 18), .int (iI s9), .int (iI w9)].toArray s 0 0 A) (F0 m 134 ls []) := by
      intro bp bs hk H locs ls hP hD hS hl
      refine lv_aload_n hx hb dX2_seek_134 rfl (lv_at hl 3 rfl) ?_
      refine lv_iload hx hb dX2_seek_135 (lv_at hl 1 rfl) ?_
      refine va_put (D := D) (ci := 2) (v := .int (iI bp)) (ty := .int) (C := RX2) (T := TX2) (N := 5) hx hb hts n_X2 tyX2 tyX2_ok nmX2 hown hK hP hD hS 18 rfl rfl 3 (by decide) f_15 (fun _ h9 => h9) rfl (by decide +kernel) rfl rfl (Nat.le_of_ble_eq_true rfl) dX2_seek_137 (fun H locs hP hD hS => ?_)
      have hP : va_P D vwCl (wT q cy nK st le be te ab bl ka bg ln ns me sc pi re bk pa lz go ss sm bp mf) H := hP
      have hD : va_D A (wT q cy nK st le be te ab bl ka bg ln ns me sc pi re bk pa lz go ss sm bp mf) := hD
      refine lv_aload_n hx hb dX2_seek_140 rfl (lv_at hl 3 rfl) ?_
      refine lv_iload hx hb dX2_seek_141 (lv_at hl 0 rfl) ?_
      refine va_put (D := D) (ci := 2) (v := .int (iI bs)) (ty := .int) (C := RX2) (T := TX2) (N := 5) hx hb hts n_X2 tyX2 tyX2_ok nmX2 hown hK hP hD hS 18 rfl rfl 4 (by decide) f_19 (fun _ h9 => h9) rfl (by decide +kernel) rfl rfl (Nat.le_of_ble_eq_true rfl) dX2_seek_143 (fun H locs hP hD hS => ?_)
      have hP : va_P D vwCl (wT q cy nK st le be te ab bl ka bg ln ns me sc pi re bk pa lz go ss sm bp bs) H := hP
      have hD : va_D A (wT q cy nK st le be te ab bl ka bg ln ns me sc pi re bk pa lz go ss sm bp bs) := hD
      have hw9 : wT q cy nK st le be te ab bl ka bg ln ns me sc pi re bk pa lz go ss sm bp bs = wT q cy nK st le be te ab bl ka bg ln ns me sc pi re bk pa lz go ss sm (pitF nK me ab bl s9 w9) (misF nK me ab bl s9 w9) := by rw [(jn_fin hk).1, (jn_fin hk).2]
      rw [hw9] at hP hD
      exact z_vret X hK hP hD hS dX2_seek_146
    have L_82 : ∀ (n : Nat) (bp : Int) (bs : Int) (pt : Int), (h0 : 980 ≤ pt ∧ pt ≤ 200000) → (hf : pt - 980 < n) → (hs : 0 ≤ bs ∧ bs ≤ 38400000) → (hr2 : dnI (fun p => mis nK me ab bl s9 p w9) pt bp bs) → ∀ (H : Heap) (locs : List Loc) (ls : Array Slot), va_P D vwCl (wT q cy nK st le be te ab bl ka bg ln ns me sc pi re bk pa lz go ss sm pf mf) H → va_D A (wT q cy nK st le be te ab bl ka bg ln ns me sc pi re bk pa lz go ss sm pf mf) → va_S A s.heap H locs → lv_has ls 8 [(6, .int (iI pt)), (5, .int (iI bs)), (4, .int (iI bp)), (3, .int (iI (1000 + z9 * 20))), (0, .ref (q 18)), (1, .int (iI s9)), (2, .int (iI w9))] → W p l e ({ frames := 3, cells := 0, slots := 0, locals := 79 } : Room) s m [.ref (q 18), .int (iI s9), .int (iI w9)].toArray below meth c H locs 0 0 (MQ below (zQv D cy (wT q cy nK st le be te ab bl ka bg ln ns me sc pi re bk pa lz go ss sm (pitF nK me ab bl s9 w9) (misF nK me ab bl s9 w9)) A) [.ref (q 18), .int (iI s9), .int (iI w9)].toArray s 0 0 A) (F0 m 82 ls []) := by
      intro n
      induction n with
      | zero =>
        intro bp bs pt h0 hf hs hr2
        exfalso; omega
      | succ n ih_82 =>
        intro bp bs pt h0 hf hs hr2 H locs ls hP hD hS hl
        refine lv_iload hx hb dX2_seek_82 (lv_at hl 0 rfl) ?_
        refine lv_sipush (v := iI (1000)) hx hb dX2_seek_84 (by decide) ?_
        refine z_icmp_lt (tgt := 134) hx hb dX2_seek_87 (by decide) (by omega) (fun c_1 => ?_) (fun c_1 => ?_)
        · exact J_134 bp bs (by first | exact dn_end hr2 (by omega) (by omega) | exact dn_brk hr2 (by omega) (fun p2 g => dd bp pt p2 hr2.2.1 g (by show mis nK me ab bl s9 bp w9 + 48 < mis nK me ab bl s9 pt w9; have e8 : bs = mis nK me ab bl s9 bp w9 := hr2.2.2.2.2.2.1; omega))) _ _ _ hP hD hS (lv_sub hl [1, 2, 3, 4, 5, 6] rfl)
        · refine lv_aload_n hx hb dX2_seek_90 rfl (lv_at hl 4 rfl) ?_
          refine lv_iload_n hx hb dX2_seek_91 rfl (lv_at hl 5 rfl) ?_
          refine lv_iload hx hb dX2_seek_92 (lv_at hl 0 rfl) ?_
          refine lv_iload_n hx hb dX2_seek_94 rfl (lv_at hl 6 rfl) ?_
          refine z_callVi (ci := 2) (q0 := 18) (As := [.int (iI s9), .int (iI pt), .int (iI w9)]) (rest := []) X hK hP hD hA hS hl.1 gX2_seek_X2_misfitAt rfl ⟨rfl, rfl⟩ hd_X2_misfitAt ⟨Nat.le_of_ble_eq_true rfl, Nat.le_of_ble_eq_true rfl⟩ rfl rfl rfl (Nat.le_of_ble_eq_true rfl) ⟨Nat.zero_le _, Nat.zero_le _⟩ rfl dX2_seek_95 (c_X2_misfitAt I s9 pt w9 (by omega) (by omega) (by omega)) (fun H locs hP hD hS => ?_)
          have m3 := mis_b (s := s9) (p := (pt)) (w := w9) (nK := nK) (by omega) I.me I.ab I.bl (by omega) (by omega)
          refine lv_istore (lv' := [(7, .int (iI (mis nK me ab bl s9 pt w9))), (6, .int (iI pt)), (5, .int (iI bs)), (4, .int (iI bp)), (3, .int (iI (1000 + z9 * 20))), (0, .ref (q 18)), (1, .int (iI s9)), (2, .int (iI w9))]) hx hb dX2_seek_98 hl (by decide) rfl (fun ls hl => ?_)
          refine lv_iload hx hb dX2_seek_100 (lv_at hl 0 rfl) ?_
          refine lv_iload hx hb dX2_seek_102 (lv_at hl 2 rfl) ?_
          refine lv_bipush (v := iI (48)) hx hb dX2_seek_104 (by decide) ?_
          refine z_iadd hx hb dX2_seek_106 ?_
          refine z_icmp_le (tgt := 113) hx hb dX2_seek_107 (by decide) (by omega) (fun c_2 => ?_) (fun c_2 => ?_)
          · refine lv_iload hx hb dX2_seek_113 (lv_at hl 0 rfl) ?_
            refine lv_iload hx hb dX2_seek_115 (lv_at hl 2 rfl) ?_
            refine z_icmp_gt (tgt := 128) hx hb dX2_seek_117 (by decide) (by omega) (fun c_3 => ?_) (fun c_3 => ?_)
            · refine lv_iinc (v := iI (pt + (-20))) (lv' := [(6, .int (iI (pt + (-20)))), (7, .int (iI (mis nK me ab bl s9 pt w9))), (5, .int (iI bs)), (4, .int (iI bp)), (3, .int (iI (1000 + z9 * 20))), (0, .ref (q 18)), (1, .int (iI s9)), (2, .int (iI w9))]) hx hb dX2_seek_128 hl (k := 1) rfl (iI_add _ _) (by decide) rfl (fun ls hl => ?_)
              refine lv_goto (tgt := 82) hx hb dX2_seek_131 (by decide) ?_
              exact ih_82 bp bs (pt + (-20)) (by omega) (by omega) (by omega) (by first | exact dn_le hr2 (by omega) (by show mis nK me ab bl s9 pt w9 ≤ bs; omega) | exact dn_gt hr2 (by show bs < mis nK me ab bl s9 pt w9; omega)) _ _ _ hP hD hS (lv_sub hl [0, 2, 3, 4, 5, 6, 7] rfl)
            · refine lv_iload hx hb dX2_seek_120 (lv_at hl 0 rfl) ?_
              refine lv_istore (lv' := [(5, .int (iI (mis nK me ab bl s9 pt w9))), (7, .int (iI (mis nK me ab bl s9 pt w9))), (6, .int (iI pt)), (4, .int (iI bp)), (3, .int (iI (1000 + z9 * 20))), (0, .ref (q 18)), (1, .int (iI s9)), (2, .int (iI w9))]) hx hb dX2_seek_122 hl (by decide) rfl (fun ls hl => ?_)
              refine lv_iload hx hb dX2_seek_124 (lv_at hl 2 rfl) ?_
              refine lv_istore (lv' := [(4, .int (iI pt)), (5, .int (iI (mis nK me ab bl s9 pt w9))), (7, .int (iI (mis nK me ab bl s9 pt w9))), (6, .int (iI pt)), (3, .int (iI (1000 + z9 * 20))), (0, .ref (q 18)), (1, .int (iI s9)), (2, .int (iI w9))]) hx hb dX2_seek_126 hl (by decide) rfl (fun ls hl => ?_)
              refine lv_iinc (v := iI (pt + (-20))) (lv' := [(6, .int (iI (pt + (-20)))), (4, .int (iI pt)), (5, .int (iI (mis nK me ab bl s9 pt w9))), (7, .int (iI (mis nK me ab bl s9 pt w9))), (3, .int (iI (1000 + z9 * 20))), (0, .ref (q 18)), (1, .int (iI s9)), (2, .int (iI w9))]) hx hb dX2_seek_128 hl (k := 3) rfl (iI_add _ _) (by decide) rfl (fun ls hl => ?_)
              refine lv_goto (tgt := 82) hx hb dX2_seek_131 (by decide) ?_
              exact ih_82 pt (mis nK me ab bl s9 pt w9) (pt + (-20)) (by omega) (by omega) (by omega) (by first | exact dn_le hr2 (by omega) (by show mis nK me ab bl s9 pt w9 ≤ bs; omega) | exact dn_gt hr2 (by show bs < mis nK me ab bl s9 pt w9; omega)) _ _ _ hP hD hS (lv_sub hl [0, 2, 1, 4, 5, 6, 7] rfl)
          · refine lv_goto (tgt := 134) hx hb dX2_seek_110 (by decide) ?_
            exact J_134 bp bs (by first | exact dn_end hr2 (by omega) (by omega) | exact dn_brk hr2 (by omega) (fun p2 g => dd bp pt p2 hr2.2.1 g (by show mis nK me ab bl s9 bp w9 + 48 < mis nK me ab bl s9 pt w9; have e8 : bs = mis nK me ab bl s9 bp w9 := hr2.2.2.2.2.2.1; omega))) _ _ _ hP hD hS (lv_sub hl [2, 3, 4, 5, 6, 7] rfl)
    exact L_82 200000 bp bs ((1000 + z9 * 20) - 20) (by omega) (by omega) (by omega) (dn_0 (by rw [show (1000 + z9 * 20 - 1000) / 20 = z9 by omega]; exact hj) (by omega)) _ _ _ hP hD hS (lv_sub hl [0, 1, 2, 3, 4, 5, 6] rfl)
  have L_25 : ∀ (n : Nat) (bp : Int) (bs : Int) (pt : Int), (h0 : 1020 ≤ pt ∧ pt ≤ 200020) → (hf : 200020 - pt < n) → (hs : 0 ≤ bs ∧ bs ≤ 38400000) → (hr : upI (fun p => mis nK me ab bl s9 p w9) z9 pt bp bs) → ∀ (H : Heap) (locs : List Loc) (ls : Array Slot), va_P D vwCl (wT q cy nK st le be te ab bl ka bg ln ns me sc pi re bk pa lz go ss sm pf mf) H → va_D A (wT q cy nK st le be te ab bl ka bg ln ns me sc pi re bk pa lz go ss sm pf mf) → va_S A s.heap H locs → lv_has ls 8 [(6, .int (iI pt)), (5, .int (iI bs)), (4, .int (iI bp)), (3, .int (iI (1000 + z9 * 20))), (0, .ref (q 18)), (1, .int (iI s9)), (2, .int (iI w9))] → W p l e ({ frames := 3, cells := 0, slots := 0, locals := 79 } : Room) s m [.ref (q 18), .int (iI s9), .int (iI w9)].toArray below meth c H locs 0 0 (MQ below (zQv D cy (wT q cy nK st le be te ab bl ka bg ln ns me sc pi re bk pa lz go ss sm (pitF nK me ab bl s9 w9) (misF nK me ab bl s9 w9)) A) [.ref (q 18), .int (iI s9), .int (iI w9)].toArray s 0 0 A) (F0 m 25 ls []) := by
    intro n
    induction n with
    | zero =>
      intro bp bs pt h0 hf hs hr
      exfalso; omega
    | succ n ih_25 =>
      intro bp bs pt h0 hf hs hr H locs ls hP hD hS hl
      refine lv_iload hx hb dX2_seek_25 (lv_at hl 0 rfl) ?_
      refine z_ldc (n := 200000) hx hb hown k_55 (by decide) dX2_seek_27 ?_
      refine z_icmp_gt (tgt := 76) hx hb dX2_seek_29 (by decide) (by omega) (fun c_4 => ?_) (fun c_4 => ?_)
      · exact J_76 bp bs (by omega) (by first | exact up_end hr (by omega) (by omega) | exact up_brk hr (by omega) (fun p2 g => uu bp pt p2 hr.2.2.2.1 g (by show mis nK me ab bl s9 bp w9 + 48 < mis nK me ab bl s9 pt w9; have e8 : bs = mis nK me ab bl s9 bp w9 := hr.2.2.2.2.1; omega))) _ _ _ hP hD hS (lv_sub hl [1, 2, 3, 4, 5, 6] rfl)
      · refine lv_aload_n hx hb dX2_seek_32 rfl (lv_at hl 4 rfl) ?_
        refine lv_iload_n hx hb dX2_seek_33 rfl (lv_at hl 5 rfl) ?_
        refine lv_iload hx hb dX2_seek_34 (lv_at hl 0 rfl) ?_
        refine lv_iload_n hx hb dX2_seek_36 rfl (lv_at hl 6 rfl) ?_
        refine z_callVi (ci := 2) (q0 := 18) (As := [.int (iI s9), .int (iI pt), .int (iI w9)]) (rest := []) X hK hP hD hA hS hl.1 gX2_seek_X2_misfitAt rfl ⟨rfl, rfl⟩ hd_X2_misfitAt ⟨Nat.le_of_ble_eq_true rfl, Nat.le_of_ble_eq_true rfl⟩ rfl rfl rfl (Nat.le_of_ble_eq_true rfl) ⟨Nat.zero_le _, Nat.zero_le _⟩ rfl dX2_seek_37 (c_X2_misfitAt I s9 pt w9 (by omega) (by omega) (by omega)) (fun H locs hP hD hS => ?_)
        have m2 := mis_b (s := s9) (p := (pt)) (w := w9) (nK := nK) (by omega) I.me I.ab I.bl (by omega) (by omega)
        refine lv_istore (lv' := [(7, .int (iI (mis nK me ab bl s9 pt w9))), (6, .int (iI pt)), (5, .int (iI bs)), (4, .int (iI bp)), (3, .int (iI (1000 + z9 * 20))), (0, .ref (q 18)), (1, .int (iI s9)), (2, .int (iI w9))]) hx hb dX2_seek_40 hl (by decide) rfl (fun ls hl => ?_)
        refine lv_iload hx hb dX2_seek_42 (lv_at hl 0 rfl) ?_
        refine lv_iload hx hb dX2_seek_44 (lv_at hl 2 rfl) ?_
        refine lv_bipush (v := iI (48)) hx hb dX2_seek_46 (by decide) ?_
        refine z_iadd hx hb dX2_seek_48 ?_
        refine z_icmp_le (tgt := 55) hx hb dX2_seek_49 (by decide) (by omega) (fun c_5 => ?_) (fun c_5 => ?_)
        · refine lv_iload hx hb dX2_seek_55 (lv_at hl 0 rfl) ?_
          refine lv_iload hx hb dX2_seek_57 (lv_at hl 2 rfl) ?_
          refine z_icmp_ge (tgt := 70) hx hb dX2_seek_59 (by decide) (by omega) (fun c_6 => ?_) (fun c_6 => ?_)
          · refine lv_iinc (v := iI (pt + 20)) (lv' := [(6, .int (iI (pt + 20))), (7, .int (iI (mis nK me ab bl s9 pt w9))), (5, .int (iI bs)), (4, .int (iI bp)), (3, .int (iI (1000 + z9 * 20))), (0, .ref (q 18)), (1, .int (iI s9)), (2, .int (iI w9))]) hx hb dX2_seek_70 hl (k := 1) rfl (iI_add _ _) (by decide) rfl (fun ls hl => ?_)
            refine lv_goto (tgt := 25) hx hb dX2_seek_73 (by decide) ?_
            exact ih_25 bp bs (pt + 20) (by omega) (by omega) (by omega) (by first | exact up_lt hr (by show mis nK me ab bl s9 pt w9 < bs; omega) | exact up_ge hr (by show bs ≤ mis nK me ab bl s9 pt w9; omega)) _ _ _ hP hD hS (lv_sub hl [0, 2, 3, 4, 5, 6, 7] rfl)
          · refine lv_iload hx hb dX2_seek_62 (lv_at hl 0 rfl) ?_
            refine lv_istore (lv' := [(5, .int (iI (mis nK me ab bl s9 pt w9))), (7, .int (iI (mis nK me ab bl s9 pt w9))), (6, .int (iI pt)), (4, .int (iI bp)), (3, .int (iI (1000 + z9 * 20))), (0, .ref (q 18)), (1, .int (iI s9)), (2, .int (iI w9))]) hx hb dX2_seek_64 hl (by decide) rfl (fun ls hl => ?_)
            refine lv_iload hx hb dX2_seek_66 (lv_at hl 2 rfl) ?_
            refine lv_istore (lv' := [(4, .int (iI pt)), (5, .int (iI (mis nK me ab bl s9 pt w9))), (7, .int (iI (mis nK me ab bl s9 pt w9))), (6, .int (iI pt)), (3, .int (iI (1000 + z9 * 20))), (0, .ref (q 18)), (1, .int (iI s9)), (2, .int (iI w9))]) hx hb dX2_seek_68 hl (by decide) rfl (fun ls hl => ?_)
            refine lv_iinc (v := iI (pt + 20)) (lv' := [(6, .int (iI (pt + 20))), (4, .int (iI pt)), (5, .int (iI (mis nK me ab bl s9 pt w9))), (7, .int (iI (mis nK me ab bl s9 pt w9))), (3, .int (iI (1000 + z9 * 20))), (0, .ref (q 18)), (1, .int (iI s9)), (2, .int (iI w9))]) hx hb dX2_seek_70 hl (k := 3) rfl (iI_add _ _) (by decide) rfl (fun ls hl => ?_)
            refine lv_goto (tgt := 25) hx hb dX2_seek_73 (by decide) ?_
            exact ih_25 pt (mis nK me ab bl s9 pt w9) (pt + 20) (by omega) (by omega) (by omega) (by first | exact up_lt hr (by show mis nK me ab bl s9 pt w9 < bs; omega) | exact up_ge hr (by show bs ≤ mis nK me ab bl s9 pt w9; omega)) _ _ _ hP hD hS (lv_sub hl [0, 2, 1, 4, 5, 6, 7] rfl)
        · refine lv_goto (tgt := 76) hx hb dX2_seek_52 (by decide) ?_
          exact J_76 bp bs (by omega) (by first | exact up_end hr (by omega) (by omega) | exact up_brk hr (by omega) (fun p2 g => uu bp pt p2 hr.2.2.2.1 g (by show mis nK me ab bl s9 bp w9 + 48 < mis nK me ab bl s9 pt w9; have e8 : bs = mis nK me ab bl s9 bp w9 := hr.2.2.2.2.1; omega))) _ _ _ hP hD hS (lv_sub hl [2, 3, 4, 5, 6, 7] rfl)
  exact L_25 200000 (1000 + z9 * 20) (mis nK me ab bl s9 (1000 + z9 * 20) w9) ((1000 + z9 * 20) + 20) (by omega) (by omega) (by omega) (by have z := up_0 (M := (fun p => mis nK me ab bl s9 p w9)) (p := 1000 + z9 * 20) (by omega) (by omega); rw [show (1000 + z9 * 20 - 1000) / 20 = z9 by omega] at z; exact z) _ _ _ hP hD hS (lv_sub hl [0, 1, 2, 3, 4, 5, 6] rfl)

theorem hd_X2_scaleMeant : yX2_scaleMeant.cls = RX2 ∧ yX2_scaleMeant.cls ≠ "java/lang/invoke/MethodHandle" ∧ yX2_scaleMeant.cls ≠ "java/lang/invoke/VarHandle" ∧ (parseMethodDescriptor yX2_scaleMeant.desc).map (fun d => d.parameters.length) = some 0 := by decide +kernel
set_option maxHeartbeats 4000000 in
set_option maxRecDepth 100000 in
theorem c_X2_scaleMeant (I : okS nK st le be te ab bl ka bg ln ns me sc pi re bk)   : MI l D cy yX2_scaleMeant wsX2_scaleMeant ({ frames := 4, cells := 0, slots := 0, locals := 106 } : Room) [.ref (q 18)] (wT q cy nK st le be te ab bl ka bg ln ns me sc pi re bk pa lz go ss sm pf mf) (am (fun s => misF nK me ab bl s (-1)) 0 5) (wT q cy nK st le be te ab bl ka bg ln ns me sc pi re bk pa lz go ss sm (pitF nK me ab bl (am (fun s => misF nK me ab bl s (-1)) 0 5) (-1)) (misF nK me ab bl 4 (-1))) := by
  refine MI.ofW (cc := cX2_scaleMeant) (maxL := 5) (ret := (some .int)) (by decide) rfl (Nat.le_of_ble_eq_true rfl) ?_
  intro p e s m below meth c A ls X hK hP hD hA hS hl
  obtain ⟨hx, hb, hml, hr, hts, hown, hlocks⟩ := id X
  have hl : lv_has ls 5 [(0, .ref (q 18))] := hl
  have f_15 := hts (Cond.fieldLink RX2 15 "TwoKeys$OldOne" "pitchFound" "I") (by decide +kernel)
  have f_19 := hts (Cond.fieldLink RX2 19 "TwoKeys$OldOne" "misfitFound" "I") (by decide +kernel)
  have n_X2 : ∀ w ∈ u_ws RX2 TX2 5, w ∈ wsX2_scaleMeant := by decide +kernel
  have iK := I.nK
  refine lv_iconst (v := iI (0)) hx hb dX2_scaleMeant_0 rfl ?_
  refine lv_istore_n (lv' := [(1, .int (iI 0)), (0, .ref (q 18))]) hx hb dX2_scaleMeant_1 rfl hl (by decide) rfl (fun ls hl => ?_)
  refine lv_iconst (v := iI (0)) hx hb dX2_scaleMeant_2 rfl ?_
  refine lv_istore_n (lv' := [(2, .int (iI 0)), (1, .int (iI 0)), (0, .ref (q 18))]) hx hb dX2_scaleMeant_3 rfl hl (by decide) rfl (fun ls hl => ?_)
  refine lv_iconst (v := iI (0)) hx hb dX2_scaleMeant_4 rfl ?_
  refine lv_istore_n (lv' := [(3, .int (iI 0)), (2, .int (iI 0)), (1, .int (iI 0)), (0, .ref (q 18))]) hx hb dX2_scaleMeant_5 rfl hl (by decide) rfl (fun ls hl => ?_)
  refine lv_iconst (v := iI (0)) hx hb dX2_scaleMeant_6 rfl ?_
  refine lv_istore (lv' := [(4, .int (iI 0)), (3, .int (iI 0)), (2, .int (iI 0)), (1, .int (iI 0)), (0, .ref (q 18))]) hx hb dX2_scaleMeant_7 hl (by decide) rfl (fun ls hl => ?_)
  have L_9 : ∀ (n : Nat) (ms : Int) (bp : Int) (bs : Int) (s9 : Int) (pf1 : Int) (mf1 : Int), (h0 : 0 ≤ s9 ∧ s9 ≤ 5) → (hf : 5 - s9 < n) → (hr : s9 = 0 ∨ (isAM (fun s => misF nK me ab bl s (-1)) 0 s9 ms ∧ bs = misF nK me ab bl ms (-1) ∧ bp = (pitF nK me ab bl ms (-1)) ∧ mf1 = misF nK me ab bl (s9 - 1) (-1))) → (hs : 0 ≤ bs ∧ bs ≤ 38400000) → ∀ (H : Heap) (locs : List Loc) (ls : Array Slot), va_P D vwCl (wT q cy nK st le be te ab bl ka bg ln ns me sc pi re bk pa lz go ss sm pf1 mf1) H → va_D A (wT q cy nK st le be te ab bl ka bg ln ns me sc pi re bk pa lz go ss sm pf1 mf1) → va_S A s.heap H locs → lv_has ls 5 [(4, .int (iI s9)), (3, .int (iI bs)), (2, .int (iI bp)), (1, .int (iI ms)), (0, .ref (q 18))] → W p l e ({ frames := 4, cells := 0, slots := 0, locals := 106 } : Room) s m [.ref (q 18)].toArray below meth c H locs 0 0 (MQ below (zQi D cy (wT q cy nK st le be te ab bl ka bg ln ns me sc pi re bk pa lz go ss sm (pitF nK me ab bl (am (fun s => misF nK me ab bl s (-1)) 0 5) (-1)) (misF nK me ab bl 4 (-1))) A (am (fun s => misF nK me ab bl s (-1)) 0 5)) [.ref (q 18)].toArray s 0 0 A) (F0 m 9 ls []) := by
    intro n
    induction n with
    | zero =>
      intro ms bp bs s9 pf1 mf1 h0 hf hr hs
      exfalso; omega
    | succ n ih_9 =>
      intro ms bp bs s9 pf1 mf1 h0 hf hr hs H locs ls hP hD hS hl
      refine lv_iload hx hb dX2_scaleMeant_9 (lv_at hl 0 rfl) ?_
      refine lv_iconst (v := iI (5)) hx hb dX2_scaleMeant_11 rfl ?_
      refine z_icmp_ge (tgt := 54) hx hb dX2_scaleMeant_12 (by decide) (by omega) (fun c_1 => ?_) (fun c_1 => ?_)
      · refine lv_aload_n hx hb dX2_scaleMeant_54 rfl (lv_at hl 4 rfl) ?_
        refine lv_iload_n hx hb dX2_scaleMeant_55 rfl (lv_at hl 2 rfl) ?_
        refine va_put (D := D) (ci := 2) (v := .int (iI bp)) (ty := .int) (C := RX2) (T := TX2) (N := 5) hx hb hts n_X2 tyX2 tyX2_ok nmX2 hown hK hP hD hS 18 rfl rfl 3 (by decide) f_15 (fun _ h9 => h9) rfl (by decide +kernel) rfl rfl (Nat.le_of_ble_eq_true rfl) dX2_scaleMeant_56 (fun H locs hP hD hS => ?_)
        have hP : va_P D vwCl (wT q cy nK st le be te ab bl ka bg ln ns me sc pi re bk pa lz go ss sm bp mf1) H := hP
        have hD : va_D A (wT q cy nK st le be te ab bl ka bg ln ns me sc pi re bk pa lz go ss sm bp mf1) := hD
        refine lv_iload_n hx hb dX2_scaleMeant_59 rfl (lv_at hl 3 rfl) ?_
        have hw9 : wT q cy nK st le be te ab bl ka bg ln ns me sc pi re bk pa lz go ss sm bp mf1 = wT q cy nK st le be te ab bl ka bg ln ns me sc pi re bk pa lz go ss sm (pitF nK me ab bl (am (fun s => misF nK me ab bl s (-1)) 0 5) (-1)) (misF nK me ab bl 4 (-1)) := by rcases hr with q | q; (exfalso; omega); rw [show s9 = 5 by omega] at q; rw [am_eq q.1, q.2.2.1, q.2.2.2]; rfl
        rw [hw9] at hP hD
        exact z_iret X hK hP hD hS dX2_scaleMeant_60 (by rcases hr with q | q; (exfalso; omega); rw [show s9 = 5 by omega] at q; exact (am_eq q.1).symm)
      · refine lv_aload_n hx hb dX2_scaleMeant_15 rfl (lv_at hl 4 rfl) ?_
        refine lv_iload hx hb dX2_scaleMeant_16 (lv_at hl 0 rfl) ?_
        refine lv_iconst (v := iI (-1)) hx hb dX2_scaleMeant_18 rfl ?_
        refine z_callVv (ci := 2) (q0 := 18) (As := [.int (iI s9), .int (iI (-1))]) (rest := []) X hK hP hD hA hS hl.1 gX2_scaleMeant_X2_seek rfl ⟨rfl, rfl⟩ hd_X2_seek ⟨Nat.le_of_ble_eq_true rfl, Nat.le_of_ble_eq_true rfl⟩ rfl rfl rfl (Nat.le_of_ble_eq_true rfl) ⟨Nat.zero_le _, Nat.zero_le _⟩ rfl dX2_scaleMeant_19 (c_X2_seek I s9 (-1) (by omega) (by omega)) (fun H locs hP hD hS => ?_)
        have m1 := misF_b (nK := nK) (s := (s9)) (w := (-1)) (by omega) I.me I.ab I.bl
        refine lv_iload hx hb dX2_scaleMeant_22 (lv_at hl 0 rfl) ?_
        refine z_if_eq (tgt := 35) hx hb dX2_scaleMeant_24 (by decide) (by omega) (fun c_2 => ?_) (fun c_2 => ?_)
        · refine lv_iload hx hb dX2_scaleMeant_35 (lv_at hl 0 rfl) ?_
          refine lv_istore_n (lv' := [(1, .int (iI s9)), (4, .int (iI s9)), (3, .int (iI bs)), (2, .int (iI bp)), (0, .ref (q 18))]) hx hb dX2_scaleMeant_37 rfl hl (by decide) rfl (fun ls hl => ?_)
          refine lv_aload_n hx hb dX2_scaleMeant_38 rfl (lv_at hl 4 rfl) ?_
          refine va_get (D := D) (ci := 2) (v := .int (iI (pitF nK me ab bl s9 (-1)))) (C := RX2) (T := TX2) (N := 5) hx hb hts n_X2 hown hK hP 18 rfl rfl 3 (by decide) f_15 (fun _ h9 => h9) rfl dX2_scaleMeant_39 ?_
          refine lv_istore_n (lv' := [(2, .int (iI (pitF nK me ab bl s9 (-1)))), (1, .int (iI s9)), (4, .int (iI s9)), (3, .int (iI bs)), (0, .ref (q 18))]) hx hb dX2_scaleMeant_42 rfl hl (by decide) rfl (fun ls hl => ?_)
          refine lv_aload_n hx hb dX2_scaleMeant_43 rfl (lv_at hl 4 rfl) ?_
          refine va_get (D := D) (ci := 2) (v := .int (iI (misF nK me ab bl s9 (-1)))) (C := RX2) (T := TX2) (N := 5) hx hb hts n_X2 hown hK hP 18 rfl rfl 4 (by decide) f_19 (fun _ h9 => h9) rfl dX2_scaleMeant_44 ?_
          refine lv_istore_n (lv' := [(3, .int (iI (misF nK me ab bl s9 (-1)))), (2, .int (iI (pitF nK me ab bl s9 (-1)))), (1, .int (iI s9)), (4, .int (iI s9)), (0, .ref (q 18))]) hx hb dX2_scaleMeant_47 rfl hl (by decide) rfl (fun ls hl => ?_)
          refine lv_iinc (v := iI (s9 + 1)) (lv' := [(4, .int (iI (s9 + 1))), (3, .int (iI (misF nK me ab bl s9 (-1)))), (2, .int (iI (pitF nK me ab bl s9 (-1)))), (1, .int (iI s9)), (0, .ref (q 18))]) hx hb dX2_scaleMeant_48 hl (k := 3) rfl (iI_add _ _) (by decide) rfl (fun ls hl => ?_)
          refine lv_goto (tgt := 9) hx hb dX2_scaleMeant_51 (by decide) ?_
          exact ih_9 s9 (pitF nK me ab bl s9 (-1)) (misF nK me ab bl s9 (-1)) (s9 + 1) (pitF nK me ab bl s9 (-1)) (misF nK me ab bl s9 (-1)) (by omega) (by omega) (by rw [show s9 + 1 - 1 = s9 by omega]; refine Or.inr ?_; first | exact ⟨by rw [show s9 = 0 by omega]; exact isAM_1, rfl, rfl, rfl⟩ | (rcases hr with q | q; (exfalso; omega); first | exact ⟨isAM_lt q.1 (by show misF nK me ab bl s9 (-1) < misF nK me ab bl ms (-1); omega), rfl, rfl, rfl⟩ | exact ⟨isAM_ge q.1 (by show misF nK me ab bl ms (-1) ≤ misF nK me ab bl s9 (-1); omega), q.2.1, q.2.2.1, rfl⟩)) (by omega) _ _ _ hP hD hS (lv_sub hl [0, 1, 2, 3, 4] rfl)
        · refine lv_aload_n hx hb dX2_scaleMeant_27 rfl (lv_at hl 4 rfl) ?_
          refine va_get (D := D) (ci := 2) (v := .int (iI (misF nK me ab bl s9 (-1)))) (C := RX2) (T := TX2) (N := 5) hx hb hts n_X2 hown hK hP 18 rfl rfl 4 (by decide) f_19 (fun _ h9 => h9) rfl dX2_scaleMeant_28 ?_
          refine lv_iload_n hx hb dX2_scaleMeant_31 rfl (lv_at hl 1 rfl) ?_
          refine z_icmp_ge (tgt := 48) hx hb dX2_scaleMeant_32 (by decide) (by omega) (fun c_3 => ?_) (fun c_3 => ?_)
          · refine lv_iinc (v := iI (s9 + 1)) (lv' := [(4, .int (iI (s9 + 1))), (3, .int (iI bs)), (2, .int (iI bp)), (1, .int (iI ms)), (0, .ref (q 18))]) hx hb dX2_scaleMeant_48 hl (k := 0) rfl (iI_add _ _) (by decide) rfl (fun ls hl => ?_)
            refine lv_goto (tgt := 9) hx hb dX2_scaleMeant_51 (by decide) ?_
            exact ih_9 ms bp bs (s9 + 1) (pitF nK me ab bl s9 (-1)) (misF nK me ab bl s9 (-1)) (by omega) (by omega) (by rw [show s9 + 1 - 1 = s9 by omega]; refine Or.inr ?_; first | exact ⟨by rw [show s9 = 0 by omega]; exact isAM_1, rfl, rfl, rfl⟩ | (rcases hr with q | q; (exfalso; omega); first | exact ⟨isAM_lt q.1 (by show misF nK me ab bl s9 (-1) < misF nK me ab bl ms (-1); omega), rfl, rfl, rfl⟩ | exact ⟨isAM_ge q.1 (by show misF nK me ab bl ms (-1) ≤ misF nK me ab bl s9 (-1); omega), q.2.1, q.2.2.1, rfl⟩)) (by omega) _ _ _ hP hD hS (lv_sub hl [0, 1, 2, 3, 4] rfl)
          · refine lv_iload hx hb dX2_scaleMeant_35 (lv_at hl 0 rfl) ?_
            refine lv_istore_n (lv' := [(1, .int (iI s9)), (4, .int (iI s9)), (3, .int (iI bs)), (2, .int (iI bp)), (0, .ref (q 18))]) hx hb dX2_scaleMeant_37 rfl hl (by decide) rfl (fun ls hl => ?_)
            refine lv_aload_n hx hb dX2_scaleMeant_38 rfl (lv_at hl 4 rfl) ?_
            refine va_get (D := D) (ci := 2) (v := .int (iI (pitF nK me ab bl s9 (-1)))) (C := RX2) (T := TX2) (N := 5) hx hb hts n_X2 hown hK hP 18 rfl rfl 3 (by decide) f_15 (fun _ h9 => h9) rfl dX2_scaleMeant_39 ?_
            refine lv_istore_n (lv' := [(2, .int (iI (pitF nK me ab bl s9 (-1)))), (1, .int (iI s9)), (4, .int (iI s9)), (3, .int (iI bs)), (0, .ref (q 18))]) hx hb dX2_scaleMeant_42 rfl hl (by decide) rfl (fun ls hl => ?_)
            refine lv_aload_n hx hb dX2_scaleMeant_43 rfl (lv_at hl 4 rfl) ?_
            refine va_get (D := D) (ci := 2) (v := .int (iI (misF nK me ab bl s9 (-1)))) (C := RX2) (T := TX2) (N := 5) hx hb hts n_X2 hown hK hP 18 rfl rfl 4 (by decide) f_19 (fun _ h9 => h9) rfl dX2_scaleMeant_44 ?_
            refine lv_istore_n (lv' := [(3, .int (iI (misF nK me ab bl s9 (-1)))), (2, .int (iI (pitF nK me ab bl s9 (-1)))), (1, .int (iI s9)), (4, .int (iI s9)), (0, .ref (q 18))]) hx hb dX2_scaleMeant_47 rfl hl (by decide) rfl (fun ls hl => ?_)
            refine lv_iinc (v := iI (s9 + 1)) (lv' := [(4, .int (iI (s9 + 1))), (3, .int (iI (misF nK me ab bl s9 (-1)))), (2, .int (iI (pitF nK me ab bl s9 (-1)))), (1, .int (iI s9)), (0, .ref (q 18))]) hx hb dX2_scaleMeant_48 hl (k := 3) rfl (iI_add _ _) (by decide) rfl (fun ls hl => ?_)
            refine lv_goto (tgt := 9) hx hb dX2_scaleMeant_51 (by decide) ?_
            exact ih_9 s9 (pitF nK me ab bl s9 (-1)) (misF nK me ab bl s9 (-1)) (s9 + 1) (pitF nK me ab bl s9 (-1)) (misF nK me ab bl s9 (-1)) (by omega) (by omega) (by rw [show s9 + 1 - 1 = s9 by omega]; refine Or.inr ?_; first | exact ⟨by rw [show s9 = 0 by omega]; exact isAM_1, rfl, rfl, rfl⟩ | (rcases hr with q | q; (exfalso; omega); first | exact ⟨isAM_lt q.1 (by show misF nK me ab bl s9 (-1) < misF nK me ab bl ms (-1); omega), rfl, rfl, rfl⟩ | exact ⟨isAM_ge q.1 (by show misF nK me ab bl ms (-1) ≤ misF nK me ab bl s9 (-1); omega), q.2.1, q.2.2.1, rfl⟩)) (by omega) _ _ _ hP hD hS (lv_sub hl [0, 1, 2, 3, 4] rfl)
  exact L_9 6 0 0 0 0 pf mf (by omega) (by omega) (Or.inl rfl) (by omega) _ _ _ hP hD hS (lv_sub hl [0, 1, 2, 3, 4] rfl)

theorem hd_X2_keyAdded : yX2_keyAdded.cls = RX2 ∧ yX2_keyAdded.cls ≠ "java/lang/invoke/MethodHandle" ∧ yX2_keyAdded.cls ≠ "java/lang/invoke/VarHandle" ∧ (parseMethodDescriptor yX2_keyAdded.desc).map (fun d => d.parameters.length) = some 0 := by decide +kernel
set_option maxHeartbeats 4000000 in
set_option maxRecDepth 100000 in
theorem c_X2_keyAdded (I : okS nK st le be te ab bl ka bg ln ns me sc pi re bk)  (hm : 1 ≤ cm nK me) : MR l D cy yX2_keyAdded wsX2_keyAdded ({ frames := 5, cells := 0, slots := 0, locals := 130 } : Room) [.ref (q 18)] (wT q cy nK st le be te ab bl ka bg ln ns me sc pi re bk pa lz go ss sm pf mf) (fun r8 w8 => ∃ pf2 : Int, w8 = wT q cy nK st le be te ab bl ka bg ln ns me sc pi re bk pa lz go ss sm pf2 ((gk nK me ab bl (am (fun s => misF nK me ab bl s (-1)) 0 5)) (am (gk nK me ab bl (am (fun s => misF nK me ab bl s (-1)) 0 5)) 0 nK)) ∧ r8 = am (gk nK me ab bl (am (fun s => misF nK me ab bl s (-1)) 0 5)) 0 nK) := by
  refine MR.ofW (cc := cX2_keyAdded) (maxL := 5) (ret := (some .int)) (by decide) rfl (Nat.le_of_ble_eq_true rfl) ?_
  intro p e s m below meth c A ls X hK hP hD hA hS hl
  obtain ⟨hx, hb, hml, hr, hts, hown, hlocks⟩ := id X
  have hl : lv_has ls 5 [(0, .ref (q 18))] := hl
  have f_22 := hts (Cond.fieldLink RX2 22 "TwoKeys$OldOne" "board" "LTwoKeys$Board;") (by decide +kernel)
  have f_31 := hts (Cond.fieldLink RX2 31 "TwoKeys$Board" "size" "I") (by decide +kernel)
  have f_19 := hts (Cond.fieldLink RX2 19 "TwoKeys$OldOne" "misfitFound" "I") (by decide +kernel)
  have f_9 := hts (Cond.fieldLink RX2 9 "TwoKeys$OldOne" "measured" "[I") (by decide +kernel)
  have k_30 := hts (Cond.constant RX2 30 (-100009)) (by decide +kernel)
  have n_X0 : ∀ w ∈ u_ws RX0 TX0 5, w ∈ wsX2_keyAdded := by decide +kernel
  have n_X2 : ∀ w ∈ u_ws RX2 TX2 5, w ∈ wsX2_keyAdded := by decide +kernel
  have iK := I.nK
  have g1 : ∀ j, me j = -100009 → (gk nK me ab bl (am (fun s => misF nK me ab bl s (-1)) 0 5)) j = 1000000000 := fun j h => if_pos h
  have g2 : ∀ j, me j ≠ -100009 → (gk nK me ab bl (am (fun s => misF nK me ab bl s (-1)) 0 5)) j = misF nK me ab bl (am (fun s => misF nK me ab bl s (-1)) 0 5) j := fun j h => if_neg h
  have ma := am_is (g := fun s => misF nK me ab bl s (-1)) (lo := 0) (hi := 5) (by omega)
  have ma1 := ma.1
  have ma2 := ma.2.1
  refine lv_aload_n hx hb dX2_keyAdded_0 rfl (lv_at hl 0 rfl) ?_
  refine z_callVi (ci := 2) (q0 := 18) (As := []) (rest := []) X hK hP hD hA hS hl.1 gX2_keyAdded_X2_scaleMeant rfl ⟨rfl, rfl⟩ hd_X2_scaleMeant ⟨Nat.le_of_ble_eq_true rfl, Nat.le_of_ble_eq_true rfl⟩ rfl rfl rfl (Nat.le_of_ble_eq_true rfl) ⟨Nat.zero_le _, Nat.zero_le _⟩ rfl dX2_keyAdded_1 (c_X2_scaleMeant I) (fun H locs hP hD hS => ?_)
  refine lv_istore_n (lv' := [(1, .int (iI (am (fun s => misF nK me ab bl s (-1)) 0 5))), (0, .ref (q 18))]) hx hb dX2_keyAdded_4 rfl hl (by decide) rfl (fun ls hl => ?_)
  refine lv_iconst (v := iI (-1)) hx hb dX2_keyAdded_5 rfl ?_
  refine lv_istore_n (lv' := [(2, .int (iI (-1))), (1, .int (iI (am (fun s => misF nK me ab bl s (-1)) 0 5))), (0, .ref (q 18))]) hx hb dX2_keyAdded_6 rfl hl (by decide) rfl (fun ls hl => ?_)
  refine lv_iconst (v := iI (0)) hx hb dX2_keyAdded_7 rfl ?_
  refine lv_istore_n (lv' := [(3, .int (iI 0)), (2, .int (iI (-1))), (1, .int (iI (am (fun s => misF nK me ab bl s (-1)) 0 5))), (0, .ref (q 18))]) hx hb dX2_keyAdded_8 rfl hl (by decide) rfl (fun ls hl => ?_)
  refine lv_iconst (v := iI (0)) hx hb dX2_keyAdded_9 rfl ?_
  refine lv_istore (lv' := [(4, .int (iI 0)), (3, .int (iI 0)), (2, .int (iI (-1))), (1, .int (iI (am (fun s => misF nK me ab bl s (-1)) 0 5))), (0, .ref (q 18))]) hx hb dX2_keyAdded_10 hl (by decide) rfl (fun ls hl => ?_)
  have L_12 : ∀ (n : Nat) (ak : Int) (bs : Int) (k : Int) (pf1 : Int) (mf1 : Int), (h0 : 0 ≤ k ∧ k ≤ nK) → (hf : nK - k < n) → (hr : adI (gk nK me ab bl (am (fun s => misF nK me ab bl s (-1)) 0 5)) me k ak bs (-1)) → (hs : 0 ≤ bs ∧ bs ≤ 38400000) → (hk : -1 ≤ ak ∧ ak < 24) → ∀ (H : Heap) (locs : List Loc) (ls : Array Slot), va_P D vwCl (wT q cy nK st le be te ab bl ka bg ln ns me sc pi re bk pa lz go ss sm pf1 mf1) H → va_D A (wT q cy nK st le be te ab bl ka bg ln ns me sc pi re bk pa lz go ss sm pf1 mf1) → va_S A s.heap H locs → lv_has ls 5 [(4, .int (iI k)), (3, .int (iI bs)), (2, .int (iI ak)), (1, .int (iI (am (fun s => misF nK me ab bl s (-1)) 0 5))), (0, .ref (q 18))] → W p l e ({ frames := 5, cells := 0, slots := 0, locals := 130 } : Room) s m [.ref (q 18)].toArray below meth c H locs 0 0 (MQ below (zQr D cy A (fun r8 w8 => ∃ pf2 : Int, w8 = wT q cy nK st le be te ab bl ka bg ln ns me sc pi re bk pa lz go ss sm pf2 ((gk nK me ab bl (am (fun s => misF nK me ab bl s (-1)) 0 5)) (am (gk nK me ab bl (am (fun s => misF nK me ab bl s (-1)) 0 5)) 0 nK)) ∧ r8 = am (gk nK me ab bl (am (fun s => misF nK me ab bl s (-1)) 0 5)) 0 nK)) [.ref (q 18)].toArray s 0 0 A) (F0 m 12 ls []) := by
    intro n
    induction n with
    | zero =>
      intro ak bs k pf1 mf1 h0 hf hr hs hk
      exfalso; omega
    | succ n ih_12 =>
      intro ak bs k pf1 mf1 h0 hf hr hs hk H locs ls hP hD hS hl
      refine lv_iload hx hb dX2_keyAdded_12 (lv_at hl 0 rfl) ?_
      refine lv_aload_n hx hb dX2_keyAdded_14 rfl (lv_at hl 4 rfl) ?_
      refine va_get (D := D) (ci := 2) (v := .ref (q 1)) (C := RX2) (T := TX2) (N := 5) hx hb hts n_X2 hown hK hP 18 rfl rfl 0 (by decide) f_22 (fun _ h9 => h9) rfl dX2_keyAdded_15 ?_
      refine va_get (D := D) (ci := 0) (v := .int (iI nK)) (C := RX0) (T := TX0) (N := 5) hx hb hts n_X0 hown hK hP 1 rfl rfl 0 (by decide) f_31 (fun _ h9 => h9) rfl dX2_keyAdded_18 ?_
      refine z_icmp_ge (tgt := 73) hx hb dX2_keyAdded_21 (by decide) (by omega) (fun c_1 => ?_) (fun c_1 => ?_)
      · refine lv_aload_n hx hb dX2_keyAdded_73 rfl (lv_at hl 4 rfl) ?_
        refine lv_iload_n hx hb dX2_keyAdded_74 rfl (lv_at hl 1 rfl) ?_
        refine va_put (D := D) (ci := 2) (v := .int (iI bs)) (ty := .int) (C := RX2) (T := TX2) (N := 5) hx hb hts n_X2 tyX2 tyX2_ok nmX2 hown hK hP hD hS 18 rfl rfl 4 (by decide) f_19 (fun _ h9 => h9) rfl (by decide +kernel) rfl rfl (Nat.le_of_ble_eq_true rfl) dX2_keyAdded_75 (fun H locs hP hD hS => ?_)
        have hP : va_P D vwCl (wT q cy nK st le be te ab bl ka bg ln ns me sc pi re bk pa lz go ss sm pf1 bs) H := hP
        have hD : va_D A (wT q cy nK st le be te ab bl ka bg ln ns me sc pi re bk pa lz go ss sm pf1 bs) := hD
        refine lv_iload_n hx hb dX2_keyAdded_78 rfl (lv_at hl 2 rfl) ?_
        exact z_iretR X hK hP hD hS dX2_keyAdded_79 (by have z := ad_end hr (by rw [show k = nK by omega]; exact cm_ex hm); rw [show k = nK by omega] at z; exact ⟨pf1, by rw [z.2], z.1⟩)
      · refine lv_aload_n hx hb dX2_keyAdded_24 rfl (lv_at hl 4 rfl) ?_
        refine va_get (D := D) (ci := 2) (v := .ref (q 19)) (C := RX2) (T := TX2) (N := 5) hx hb hts n_X2 hown hK hP 18 rfl rfl 2 (by decide) f_9 (fun _ h9 => h9) rfl dX2_keyAdded_25 ?_
        refine lv_iload hx hb dX2_keyAdded_28 (lv_at hl 0 rfl) ?_
        refine z_iald hx hb hK hP 19 0 rfl rfl (by omega) dX2_keyAdded_30 ?_
        have b_2 := I.me k
        refine z_ldc (n := -100009) hx hb hown k_30 (by decide) dX2_keyAdded_31 ?_
        refine z_icmp_ne (tgt := 39) hx hb dX2_keyAdded_33 (by decide) (by omega) (fun c_3 => ?_) (fun c_3 => ?_)
        · refine lv_aload_n hx hb dX2_keyAdded_39 rfl (lv_at hl 4 rfl) ?_
          refine lv_iload_n hx hb dX2_keyAdded_40 rfl (lv_at hl 3 rfl) ?_
          refine lv_iload hx hb dX2_keyAdded_41 (lv_at hl 0 rfl) ?_
          refine z_callVv (ci := 2) (q0 := 18) (As := [.int (iI (am (fun s => misF nK me ab bl s (-1)) 0 5)), .int (iI k)]) (rest := []) X hK hP hD hA hS hl.1 gX2_keyAdded_X2_seek rfl ⟨rfl, rfl⟩ hd_X2_seek ⟨Nat.le_of_ble_eq_true rfl, Nat.le_of_ble_eq_true rfl⟩ rfl rfl rfl (Nat.le_of_ble_eq_true rfl) ⟨Nat.zero_le _, Nat.zero_le _⟩ rfl dX2_keyAdded_43 (c_X2_seek I (am (fun s => misF nK me ab bl s (-1)) 0 5) k (by omega) (by omega)) (fun H locs hP hD hS => ?_)
          have m1 := misF_b (nK := nK) (s := (am (fun s => misF nK me ab bl s (-1)) 0 5)) (w := (k)) (by omega) I.me I.ab I.bl
          refine lv_iload_n hx hb dX2_keyAdded_46 rfl (lv_at hl 2 rfl) ?_
          refine lv_iconst (v := iI (-1)) hx hb dX2_keyAdded_47 rfl ?_
          refine z_icmp_eq (tgt := 59) hx hb dX2_keyAdded_48 (by decide) (by omega) (fun c_4 => ?_) (fun c_4 => ?_)
          · refine lv_iload hx hb dX2_keyAdded_59 (lv_at hl 0 rfl) ?_
            refine lv_istore_n (lv' := [(2, .int (iI k)), (4, .int (iI k)), (3, .int (iI bs)), (1, .int (iI (am (fun s => misF nK me ab bl s (-1)) 0 5))), (0, .ref (q 18))]) hx hb dX2_keyAdded_61 rfl hl (by decide) rfl (fun ls hl => ?_)
            refine lv_aload_n hx hb dX2_keyAdded_62 rfl (lv_at hl 4 rfl) ?_
            refine va_get (D := D) (ci := 2) (v := .int (iI (misF nK me ab bl (am (fun s => misF nK me ab bl s (-1)) 0 5) k))) (C := RX2) (T := TX2) (N := 5) hx hb hts n_X2 hown hK hP 18 rfl rfl 4 (by decide) f_19 (fun _ h9 => h9) rfl dX2_keyAdded_63 ?_
            refine lv_istore_n (lv' := [(3, .int (iI (misF nK me ab bl (am (fun s => misF nK me ab bl s (-1)) 0 5) k))), (2, .int (iI k)), (4, .int (iI k)), (1, .int (iI (am (fun s => misF nK me ab bl s (-1)) 0 5))), (0, .ref (q 18))]) hx hb dX2_keyAdded_66 rfl hl (by decide) rfl (fun ls hl => ?_)
            refine lv_iinc (v := iI (k + 1)) (lv' := [(4, .int (iI (k + 1))), (3, .int (iI (misF nK me ab bl (am (fun s => misF nK me ab bl s (-1)) 0 5) k))), (2, .int (iI k)), (1, .int (iI (am (fun s => misF nK me ab bl s (-1)) 0 5))), (0, .ref (q 18))]) hx hb dX2_keyAdded_67 hl (k := 2) rfl (iI_add _ _) (by decide) rfl (fun ls hl => ?_)
            refine lv_goto (tgt := 12) hx hb dX2_keyAdded_70 (by decide) ?_
            exact ih_12 k (misF nK me ab bl (am (fun s => misF nK me ab bl s (-1)) 0 5) k) (k + 1) (pitF nK me ab bl (am (fun s => misF nK me ab bl s (-1)) 0 5) k) (misF nK me ab bl (am (fun s => misF nK me ab bl s (-1)) 0 5) k) (by omega) (by omega) (by first | exact ad_skip hr (by assumption) (g1 _ (by assumption)) (by omega) | (rw [← g2 k (by assumption)]; exact ad_first hr (by omega) (by assumption) (by omega) (by assumption) (by rw [g2 k (by assumption)]; omega) g1) | (rw [← g2 k (by assumption)]; exact ad_lt hr (by assumption) (by assumption) (by rw [g2 k (by assumption)]; omega)) | exact ad_ge hr (by assumption) (by rw [g2 k (by assumption)]; omega)) (by omega) (by omega) _ _ _ hP hD hS (lv_sub hl [0, 1, 2, 3, 4] rfl)
          · refine lv_aload_n hx hb dX2_keyAdded_51 rfl (lv_at hl 4 rfl) ?_
            refine va_get (D := D) (ci := 2) (v := .int (iI (misF nK me ab bl (am (fun s => misF nK me ab bl s (-1)) 0 5) k))) (C := RX2) (T := TX2) (N := 5) hx hb hts n_X2 hown hK hP 18 rfl rfl 4 (by decide) f_19 (fun _ h9 => h9) rfl dX2_keyAdded_52 ?_
            refine lv_iload_n hx hb dX2_keyAdded_55 rfl (lv_at hl 1 rfl) ?_
            refine z_icmp_ge (tgt := 67) hx hb dX2_keyAdded_56 (by decide) (by omega) (fun c_5 => ?_) (fun c_5 => ?_)
            · refine lv_iinc (v := iI (k + 1)) (lv' := [(4, .int (iI (k + 1))), (3, .int (iI bs)), (2, .int (iI ak)), (1, .int (iI (am (fun s => misF nK me ab bl s (-1)) 0 5))), (0, .ref (q 18))]) hx hb dX2_keyAdded_67 hl (k := 0) rfl (iI_add _ _) (by decide) rfl (fun ls hl => ?_)
              refine lv_goto (tgt := 12) hx hb dX2_keyAdded_70 (by decide) ?_
              exact ih_12 ak bs (k + 1) (pitF nK me ab bl (am (fun s => misF nK me ab bl s (-1)) 0 5) k) (misF nK me ab bl (am (fun s => misF nK me ab bl s (-1)) 0 5) k) (by omega) (by omega) (by first | exact ad_skip hr (by assumption) (g1 _ (by assumption)) (by omega) | (rw [← g2 k (by assumption)]; exact ad_first hr (by omega) (by assumption) (by omega) (by assumption) (by rw [g2 k (by assumption)]; omega) g1) | (rw [← g2 k (by assumption)]; exact ad_lt hr (by assumption) (by assumption) (by rw [g2 k (by assumption)]; omega)) | exact ad_ge hr (by assumption) (by rw [g2 k (by assumption)]; omega)) (by omega) (by omega) _ _ _ hP hD hS (lv_sub hl [0, 1, 2, 3, 4] rfl)
            · refine lv_iload hx hb dX2_keyAdded_59 (lv_at hl 0 rfl) ?_
              refine lv_istore_n (lv' := [(2, .int (iI k)), (4, .int (iI k)), (3, .int (iI bs)), (1, .int (iI (am (fun s => misF nK me ab bl s (-1)) 0 5))), (0, .ref (q 18))]) hx hb dX2_keyAdded_61 rfl hl (by decide) rfl (fun ls hl => ?_)
              refine lv_aload_n hx hb dX2_keyAdded_62 rfl (lv_at hl 4 rfl) ?_
              refine va_get (D := D) (ci := 2) (v := .int (iI (misF nK me ab bl (am (fun s => misF nK me ab bl s (-1)) 0 5) k))) (C := RX2) (T := TX2) (N := 5) hx hb hts n_X2 hown hK hP 18 rfl rfl 4 (by decide) f_19 (fun _ h9 => h9) rfl dX2_keyAdded_63 ?_
              refine lv_istore_n (lv' := [(3, .int (iI (misF nK me ab bl (am (fun s => misF nK me ab bl s (-1)) 0 5) k))), (2, .int (iI k)), (4, .int (iI k)), (1, .int (iI (am (fun s => misF nK me ab bl s (-1)) 0 5))), (0, .ref (q 18))]) hx hb dX2_keyAdded_66 rfl hl (by decide) rfl (fun ls hl => ?_)
              refine lv_iinc (v := iI (k + 1)) (lv' := [(4, .int (iI (k + 1))), (3, .int (iI (misF nK me ab bl (am (fun s => misF nK me ab bl s (-1)) 0 5) k))), (2, .int (iI k)), (1, .int (iI (am (fun s => misF nK me ab bl s (-1)) 0 5))), (0, .ref (q 18))]) hx hb dX2_keyAdded_67 hl (k := 2) rfl (iI_add _ _) (by decide) rfl (fun ls hl => ?_)
              refine lv_goto (tgt := 12) hx hb dX2_keyAdded_70 (by decide) ?_
              exact ih_12 k (misF nK me ab bl (am (fun s => misF nK me ab bl s (-1)) 0 5) k) (k + 1) (pitF nK me ab bl (am (fun s => misF nK me ab bl s (-1)) 0 5) k) (misF nK me ab bl (am (fun s => misF nK me ab bl s (-1)) 0 5) k) (by omega) (by omega) (by first | exact ad_skip hr (by assumption) (g1 _ (by assumption)) (by omega) | (rw [← g2 k (by assumption)]; exact ad_first hr (by omega) (by assumption) (by omega) (by assumption) (by rw [g2 k (by assumption)]; omega) g1) | (rw [← g2 k (by assumption)]; exact ad_lt hr (by assumption) (by assumption) (by rw [g2 k (by assumption)]; omega)) | exact ad_ge hr (by assumption) (by rw [g2 k (by assumption)]; omega)) (by omega) (by omega) _ _ _ hP hD hS (lv_sub hl [0, 1, 2, 3, 4] rfl)
        · refine lv_goto (tgt := 67) hx hb dX2_keyAdded_36 (by decide) ?_
          refine lv_iinc (v := iI (k + 1)) (lv' := [(4, .int (iI (k + 1))), (3, .int (iI bs)), (2, .int (iI ak)), (1, .int (iI (am (fun s => misF nK me ab bl s (-1)) 0 5))), (0, .ref (q 18))]) hx hb dX2_keyAdded_67 hl (k := 0) rfl (iI_add _ _) (by decide) rfl (fun ls hl => ?_)
          refine lv_goto (tgt := 12) hx hb dX2_keyAdded_70 (by decide) ?_
          exact ih_12 ak bs (k + 1) pf1 mf1 (by omega) (by omega) (by first | exact ad_skip hr (by assumption) (g1 _ (by assumption)) (by omega) | (rw [← g2 k (by assumption)]; exact ad_first hr (by omega) (by assumption) (by omega) (by assumption) (by rw [g2 k (by assumption)]; omega) g1) | (rw [← g2 k (by assumption)]; exact ad_lt hr (by assumption) (by assumption) (by rw [g2 k (by assumption)]; omega)) | exact ad_ge hr (by assumption) (by rw [g2 k (by assumption)]; omega)) (by omega) (by omega) _ _ _ hP hD hS (lv_sub hl [0, 1, 2, 3, 4] rfl)
  exact L_12 25 (-1) 0 0 (pitF nK me ab bl (am (fun s => misF nK me ab bl s (-1)) 0 5) (-1)) (misF nK me ab bl 4 (-1)) (by omega) (by omega) ad_0 (by omega) (by omega) _ _ _ hP hD hS (lv_sub hl [0, 1, 2, 3, 4] rfl)

theorem hd_X2_keyBentLater : yX2_keyBentLater.cls = RX2 ∧ yX2_keyBentLater.cls ≠ "java/lang/invoke/MethodHandle" ∧ yX2_keyBentLater.cls ≠ "java/lang/invoke/VarHandle" ∧ (parseMethodDescriptor yX2_keyBentLater.desc).map (fun d => d.parameters.length) = some 2 := by decide +kernel
set_option maxHeartbeats 4000000 in
set_option maxRecDepth 100000 in
theorem c_X2_keyBentLater (I : okS nK st le be te ab bl ka bg ln ns me sc pi re bk) (b9 : Int) (i9 : Int) (h : 0 ≤ b9 ∧ b9 ≤ 400000) (h2 : -2147483648 ≤ i9 ∧ i9 ≤ 2147483647) : MI l D cy yX2_keyBentLater wsX2_keyBentLater ({ frames := 5, cells := 0, slots := 0, locals := 130 } : Room) [.ref (q 18), .int (iI b9), .int (iI i9)] (wT q cy nK st le be te ab bl ka bg ln ns me sc pi re bk pa lz go ss sm pf mf) (nth (fun k => me k ≠ -100009 ∧ b9 < aZ (gl ab bl (am (fun s => misF nK me ab bl s (-1)) 0 5) (pitF nK me ab bl (am (fun s => misF nK me ab bl s (-1)) 0 5) (-1)) k - me k)) nK i9 (fun k => k)) (wT q cy nK st le be te ab bl ka bg ln ns me sc pi re bk pa lz go ss sm (pitF nK me ab bl (am (fun s => misF nK me ab bl s (-1)) 0 5) (-1)) (misF nK me ab bl 4 (-1))) := by
  refine MI.ofW (cc := cX2_keyBentLater) (maxL := 6) (ret := (some .int)) (by decide) rfl (Nat.le_of_ble_eq_true rfl) ?_
  intro p e s m below meth c A ls X hK hP hD hA hS hl
  obtain ⟨hx, hb, hml, hr, hts, hown, hlocks⟩ := id X
  have hl : lv_has ls 6 [(0, .ref (q 18)), (1, .int (iI b9)), (2, .int (iI i9))] := hl
  have f_22 := hts (Cond.fieldLink RX2 22 "TwoKeys$OldOne" "board" "LTwoKeys$Board;") (by decide +kernel)
  have f_31 := hts (Cond.fieldLink RX2 31 "TwoKeys$Board" "size" "I") (by decide +kernel)
  have k_30 := hts (Cond.constant RX2 30 (-100009)) (by decide +kernel)
  have f_9 := hts (Cond.fieldLink RX2 9 "TwoKeys$OldOne" "measured" "[I") (by decide +kernel)
  have f_26 := hts (Cond.fieldLink RX2 26 "TwoKeys$OldOne" "scales" "LTwoKeys$Scales;") (by decide +kernel)
  have f_15 := hts (Cond.fieldLink RX2 15 "TwoKeys$OldOne" "pitchFound" "I") (by decide +kernel)
  have k_RX2_42_Lib_Math_abs_name := hts (Cond.methodLink RX2 42 Lib.Math.abs.name) (by decide +kernel)
  have k_static_Lib_Math_abs_name := hts (Cond.static Lib.Math.abs.name) (by decide +kernel)
  have k_ialized__java_lang_Math_ := hts (Cond.initialized "java/lang/Math") (by decide +kernel)
  have k_h_abs_code_1__some__int_ := hts (Cond.code Lib.Math.abs.name Lib.Math.abs.code 1 (some .int)) (by decide +kernel)
  have n_X0 : ∀ w ∈ u_ws RX0 TX0 5, w ∈ wsX2_keyBentLater := by decide +kernel
  have n_X2 : ∀ w ∈ u_ws RX2 TX2 5, w ∈ wsX2_keyBentLater := by decide +kernel
  have iK := I.nK
  have ma := am_is (g := fun s => misF nK me ab bl s (-1)) (lo := 0) (hi := 5) (by omega)
  have ma1 := ma.1
  have ma2 := ma.2.1
  have pb := pitF_b (nK := nK) (me := me) (ab := ab) (bl := bl) (s := (am (fun s => misF nK me ab bl s (-1)) 0 5)) (w := -1)
  refine lv_aload_n hx hb dX2_keyBentLater_0 rfl (lv_at hl 0 rfl) ?_
  refine z_callVi (ci := 2) (q0 := 18) (As := []) (rest := []) X hK hP hD hA hS hl.1 gX2_keyBentLater_X2_scaleMeant rfl ⟨rfl, rfl⟩ hd_X2_scaleMeant ⟨Nat.le_of_ble_eq_true rfl, Nat.le_of_ble_eq_true rfl⟩ rfl rfl rfl (Nat.le_of_ble_eq_true rfl) ⟨Nat.zero_le _, Nat.zero_le _⟩ rfl dX2_keyBentLater_1 (c_X2_scaleMeant I) (fun H locs hP hD hS => ?_)
  refine lv_istore_n (lv' := [(3, .int (iI (am (fun s => misF nK me ab bl s (-1)) 0 5))), (0, .ref (q 18)), (1, .int (iI b9)), (2, .int (iI i9))]) hx hb dX2_keyBentLater_4 rfl hl (by decide) rfl (fun ls hl => ?_)
  refine lv_iconst (v := iI (0)) hx hb dX2_keyBentLater_5 rfl ?_
  refine lv_istore (lv' := [(4, .int (iI 0)), (3, .int (iI (am (fun s => misF nK me ab bl s (-1)) 0 5))), (0, .ref (q 18)), (1, .int (iI b9)), (2, .int (iI i9))]) hx hb dX2_keyBentLater_6 hl (by decide) rfl (fun ls hl => ?_)
  refine lv_iconst (v := iI (0)) hx hb dX2_keyBentLater_8 rfl ?_
  refine lv_istore (lv' := [(5, .int (iI 0)), (4, .int (iI 0)), (3, .int (iI (am (fun s => misF nK me ab bl s (-1)) 0 5))), (0, .ref (q 18)), (1, .int (iI b9)), (2, .int (iI i9))]) hx hb dX2_keyBentLater_9 hl (by decide) rfl (fun ls hl => ?_)
  have L_11 : ∀ (n : Nat) (c9 : Int) (k : Int), (h0 : 0 ≤ k ∧ k ≤ nK) → (hf : nK - k < n) → (hr : cqI (fun k => me k ≠ -100009 ∧ b9 < aZ (gl ab bl (am (fun s => misF nK me ab bl s (-1)) 0 5) (pitF nK me ab bl (am (fun s => misF nK me ab bl s (-1)) 0 5) (-1)) k - me k)) i9 k c9) → (hc : 0 ≤ c9 ∧ c9 ≤ k) → ∀ (H : Heap) (locs : List Loc) (ls : Array Slot), va_P D vwCl (wT q cy nK st le be te ab bl ka bg ln ns me sc pi re bk pa lz go ss sm (pitF nK me ab bl (am (fun s => misF nK me ab bl s (-1)) 0 5) (-1)) (misF nK me ab bl 4 (-1))) H → va_D A (wT q cy nK st le be te ab bl ka bg ln ns me sc pi re bk pa lz go ss sm (pitF nK me ab bl (am (fun s => misF nK me ab bl s (-1)) 0 5) (-1)) (misF nK me ab bl 4 (-1))) → va_S A s.heap H locs → lv_has ls 6 [(5, .int (iI k)), (4, .int (iI c9)), (3, .int (iI (am (fun s => misF nK me ab bl s (-1)) 0 5))), (0, .ref (q 18)), (1, .int (iI b9)), (2, .int (iI i9))] → W p l e ({ frames := 5, cells := 0, slots := 0, locals := 130 } : Room) s m [.ref (q 18), .int (iI b9), .int (iI i9)].toArray below meth c H locs 0 0 (MQ below (zQi D cy (wT q cy nK st le be te ab bl ka bg ln ns me sc pi re bk pa lz go ss sm (pitF nK me ab bl (am (fun s => misF nK me ab bl s (-1)) 0 5) (-1)) (misF nK me ab bl 4 (-1))) A (nth (fun k => me k ≠ -100009 ∧ b9 < aZ (gl ab bl (am (fun s => misF nK me ab bl s (-1)) 0 5) (pitF nK me ab bl (am (fun s => misF nK me ab bl s (-1)) 0 5) (-1)) k - me k)) nK i9 (fun k => k))) [.ref (q 18), .int (iI b9), .int (iI i9)].toArray s 0 0 A) (F0 m 11 ls []) := by
    intro n
    induction n with
    | zero =>
      intro c9 k h0 hf hr hc
      exfalso; omega
    | succ n ih_11 =>
      intro c9 k h0 hf hr hc H locs ls hP hD hS hl
      refine lv_iload hx hb dX2_keyBentLater_11 (lv_at hl 0 rfl) ?_
      refine lv_aload_n hx hb dX2_keyBentLater_13 rfl (lv_at hl 3 rfl) ?_
      refine va_get (D := D) (ci := 2) (v := .ref (q 1)) (C := RX2) (T := TX2) (N := 5) hx hb hts n_X2 hown hK hP 18 rfl rfl 0 (by decide) f_22 (fun _ h9 => h9) rfl dX2_keyBentLater_14 ?_
      refine va_get (D := D) (ci := 0) (v := .int (iI nK)) (C := RX0) (T := TX0) (N := 5) hx hb hts n_X0 hown hK hP 1 rfl rfl 0 (by decide) f_31 (fun _ h9 => h9) rfl dX2_keyBentLater_17 ?_
      refine z_icmp_ge (tgt := 88) hx hb dX2_keyBentLater_20 (by decide) (by omega) (fun c_1 => ?_) (fun c_1 => ?_)
      · refine z_ldc (n := -100009) hx hb hown k_30 (by decide) dX2_keyBentLater_88 ?_
        exact z_iret X hK hP hD hS dX2_keyBentLater_90 (by have z := cqI_end (res := fun k => k) hr; rw [show k = nK by omega] at z; exact z)
      · refine lv_aload_n hx hb dX2_keyBentLater_23 rfl (lv_at hl 3 rfl) ?_
        refine va_get (D := D) (ci := 2) (v := .ref (q 19)) (C := RX2) (T := TX2) (N := 5) hx hb hts n_X2 hown hK hP 18 rfl rfl 2 (by decide) f_9 (fun _ h9 => h9) rfl dX2_keyBentLater_24 ?_
        refine lv_iload hx hb dX2_keyBentLater_27 (lv_at hl 0 rfl) ?_
        refine z_iald hx hb hK hP 19 0 rfl rfl (by omega) dX2_keyBentLater_29 ?_
        have b_2 := I.me k
        refine z_ldc (n := -100009) hx hb hown k_30 (by decide) dX2_keyBentLater_30 ?_
        refine z_icmp_ne (tgt := 38) hx hb dX2_keyBentLater_32 (by decide) (by omega) (fun c_3 => ?_) (fun c_3 => ?_)
        · refine lv_aload_n hx hb dX2_keyBentLater_38 rfl (lv_at hl 3 rfl) ?_
          refine va_get (D := D) (ci := 2) (v := .ref (q 6)) (C := RX2) (T := TX2) (N := 5) hx hb hts n_X2 hown hK hP 18 rfl rfl 1 (by decide) f_26 (fun _ h9 => h9) rfl dX2_keyBentLater_39 ?_
          refine lv_iload_n hx hb dX2_keyBentLater_42 rfl (lv_at hl 2 rfl) ?_
          refine lv_aload_n hx hb dX2_keyBentLater_43 rfl (lv_at hl 3 rfl) ?_
          refine va_get (D := D) (ci := 2) (v := .int (iI (pitF nK me ab bl (am (fun s => misF nK me ab bl s (-1)) 0 5) (-1)))) (C := RX2) (T := TX2) (N := 5) hx hb hts n_X2 hown hK hP 18 rfl rfl 3 (by decide) f_15 (fun _ h9 => h9) rfl dX2_keyBentLater_44 ?_
          refine lv_iload hx hb dX2_keyBentLater_47 (lv_at hl 0 rfl) ?_
          refine z_callVi (ci := 3) (q0 := 6) (As := [.int (iI (am (fun s => misF nK me ab bl s (-1)) 0 5)), .int (iI (pitF nK me ab bl (am (fun s => misF nK me ab bl s (-1)) 0 5) (-1))), .int (iI k)]) (rest := []) X hK hP hD hA hS hl.1 gX2_keyBentLater_X3_goalAt rfl ⟨rfl, rfl⟩ hd_X3_goalAt ⟨Nat.le_of_ble_eq_true rfl, Nat.le_of_ble_eq_true rfl⟩ rfl rfl rfl (Nat.le_of_ble_eq_true rfl) ⟨Nat.zero_le _, Nat.zero_le _⟩ rfl dX2_keyBentLater_49 (c_X3_goalAt I (am (fun s => misF nK me ab bl s (-1)) 0 5) (pitF nK me ab bl (am (fun s => misF nK me ab bl s (-1)) 0 5) (-1)) k (by omega) (by omega) (by omega)) (fun H locs hP hD hS => ?_)
          have b7 := gl_b (s := (am (fun s => misF nK me ab bl s (-1)) 0 5)) (p := (pitF nK me ab bl (am (fun s => misF nK me ab bl s (-1)) 0 5) (-1))) (k := k) I.ab I.bl (by omega) (by omega)
          refine lv_aload_n hx hb dX2_keyBentLater_52 rfl (lv_at hl 3 rfl) ?_
          refine va_get (D := D) (ci := 2) (v := .ref (q 19)) (C := RX2) (T := TX2) (N := 5) hx hb hts n_X2 hown hK hP 18 rfl rfl 2 (by decide) f_9 (fun _ h9 => h9) rfl dX2_keyBentLater_53 ?_
          refine lv_iload hx hb dX2_keyBentLater_56 (lv_at hl 0 rfl) ?_
          refine z_iald hx hb hK hP 19 0 rfl rfl (by omega) dX2_keyBentLater_58 ?_
          have b_4 := I.me k
          refine z_isub hx hb dX2_keyBentLater_59 ?_
          refine z_abs hx hb (by rw [hml]; exact hl.1.symm) hown k_RX2_42_Lib_Math_abs_name k_static_Lib_Math_abs_name k_ialized__java_lang_Math_ k_h_abs_code_1__some__int_ (Nat.le_of_ble_eq_true rfl) (Nat.le_of_ble_eq_true rfl) (Nat.zero_le _) (Nat.zero_le _) (by omega) dX2_keyBentLater_60 ?_
          have b6 := aZ_b (gl ab bl (am (fun s => misF nK me ab bl s (-1)) 0 5) (pitF nK me ab bl (am (fun s => misF nK me ab bl s (-1)) 0 5) (-1)) k - me k)
          refine lv_iload_n hx hb dX2_keyBentLater_63 rfl (lv_at hl 4 rfl) ?_
          refine z_icmp_gt (tgt := 70) hx hb dX2_keyBentLater_64 (by decide) (by omega) (fun c_5 => ?_) (fun c_5 => ?_)
          · refine lv_iload hx hb dX2_keyBentLater_70 (lv_at hl 1 rfl) ?_
            refine lv_iload_n hx hb dX2_keyBentLater_72 rfl (lv_at hl 5 rfl) ?_
            refine z_icmp_ne (tgt := 79) hx hb dX2_keyBentLater_73 (by decide) (by omega) (fun c_6 => ?_) (fun c_6 => ?_)
            · refine lv_iinc (v := iI (c9 + 1)) (lv' := [(4, .int (iI (c9 + 1))), (5, .int (iI k)), (3, .int (iI (am (fun s => misF nK me ab bl s (-1)) 0 5))), (0, .ref (q 18)), (1, .int (iI b9)), (2, .int (iI i9))]) hx hb dX2_keyBentLater_79 hl (k := 1) rfl (iI_add _ _) (by decide) rfl (fun ls hl => ?_)
              refine lv_iinc (v := iI (k + 1)) (lv' := [(5, .int (iI (k + 1))), (4, .int (iI (c9 + 1))), (3, .int (iI (am (fun s => misF nK me ab bl s (-1)) 0 5))), (0, .ref (q 18)), (1, .int (iI b9)), (2, .int (iI i9))]) hx hb dX2_keyBentLater_82 hl (k := 1) rfl (iI_add _ _) (by decide) rfl (fun ls hl => ?_)
              refine lv_goto (tgt := 11) hx hb dX2_keyBentLater_85 (by decide) ?_
              exact ih_11 (c9 + 1) (k + 1) (by omega) (by omega) (by first | exact cqI_no hr (by omega) (fun z => absurd (by assumption) z.1) | exact cqI_no hr (by omega) (fun z => absurd z.2 (by omega)) | exact cqI_yes hr (by omega) ⟨by assumption, by assumption⟩ (by assumption)) (by omega) _ _ _ hP hD hS (lv_sub hl [0, 1, 2, 3, 4, 5] rfl)
            · refine lv_iload hx hb dX2_keyBentLater_76 (lv_at hl 0 rfl) ?_
              exact z_iret X hK hP hD hS dX2_keyBentLater_78 (cqI_at (res := fun k => k) hr (by omega) (by omega) ⟨by assumption, by assumption⟩ (by assumption))
          · refine lv_goto (tgt := 82) hx hb dX2_keyBentLater_67 (by decide) ?_
            refine lv_iinc (v := iI (k + 1)) (lv' := [(5, .int (iI (k + 1))), (4, .int (iI c9)), (3, .int (iI (am (fun s => misF nK me ab bl s (-1)) 0 5))), (0, .ref (q 18)), (1, .int (iI b9)), (2, .int (iI i9))]) hx hb dX2_keyBentLater_82 hl (k := 0) rfl (iI_add _ _) (by decide) rfl (fun ls hl => ?_)
            refine lv_goto (tgt := 11) hx hb dX2_keyBentLater_85 (by decide) ?_
            exact ih_11 c9 (k + 1) (by omega) (by omega) (by first | exact cqI_no hr (by omega) (fun z => absurd (by assumption) z.1) | exact cqI_no hr (by omega) (fun z => absurd z.2 (by omega)) | exact cqI_yes hr (by omega) ⟨by assumption, by assumption⟩ (by assumption)) (by omega) _ _ _ hP hD hS (lv_sub hl [0, 1, 2, 3, 4, 5] rfl)
        · refine lv_goto (tgt := 82) hx hb dX2_keyBentLater_35 (by decide) ?_
          refine lv_iinc (v := iI (k + 1)) (lv' := [(5, .int (iI (k + 1))), (4, .int (iI c9)), (3, .int (iI (am (fun s => misF nK me ab bl s (-1)) 0 5))), (0, .ref (q 18)), (1, .int (iI b9)), (2, .int (iI i9))]) hx hb dX2_keyBentLater_82 hl (k := 0) rfl (iI_add _ _) (by decide) rfl (fun ls hl => ?_)
          refine lv_goto (tgt := 11) hx hb dX2_keyBentLater_85 (by decide) ?_
          exact ih_11 c9 (k + 1) (by omega) (by omega) (by first | exact cqI_no hr (by omega) (fun z => absurd (by assumption) z.1) | exact cqI_no hr (by omega) (fun z => absurd z.2 (by omega)) | exact cqI_yes hr (by omega) ⟨by assumption, by assumption⟩ (by assumption)) (by omega) _ _ _ hP hD hS (lv_sub hl [0, 1, 2, 3, 4, 5] rfl)
  exact L_11 25 0 0 (by omega) (by omega) cqI_0 (by omega) _ _ _ hP hD hS (lv_sub hl [0, 1, 2, 3, 4, 5] rfl)
