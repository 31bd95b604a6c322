variable {l : Launch} {D : va_G} {cy : ClassId} {q : Nat → Nat} {nK sc pi re bk ss sm pf mf th lo : Int} {st le be te ab bl ka bg ln ns me pa lz go co bs gr : Int → Int}
theorem hd_X1_clashNumbered : yX1_clashNumbered.cls = RX1 ∧ yX1_clashNumbered.cls ≠ "java/lang/invoke/MethodHandle" ∧ yX1_clashNumbered.cls ≠ "java/lang/invoke/VarHandle" ∧ (parseMethodDescriptor yX1_clashNumbered.desc).map (fun d => d.parameters.length) = some 2 := by decide +kernel
set_option maxHeartbeats 4000000 in
set_option maxRecDepth 100000 in
theorem c_X1_clashNumbered (I : okS nK st le be te ab bl ka bg ln ns me sc pi re bk) (p9 : Int) (i9 : Int) (h : 0 ≤ p9 ∧ p9 ≤ 3) (h2 : -2147483648 ≤ i9 ∧ i9 ≤ 2147483647) : MI l D cy yX1_clashNumbered wsX1_clashNumbered ({ frames := 3, cells := 0, slots := 0, locals := 65 } : Room) [.ref (q 9), .int (iI p9), .int (iI i9)] (wT q cy nK st le be te ab bl ka bg ln ns me sc pi re bk pa lz go ss sm pf mf) (clI nK st ka bg ln (p9 * 40) (ns p9) i9) (wT q cy nK st le be te ab bl ka bg ln ns me sc pi re bk pa lz go ss sm pf mf) := by
  refine MI.ofW (cc := cX1_clashNumbered) (maxL := 7) (ret := (some .int)) (by decide) rfl (Nat.le_of_ble_eq_true rfl) ?_
  intro p e s m below meth c A ls X hK hP hD hA hS hl
  obtain ⟨hx, hb, hml, hr, hts, hown, hlocks⟩ := id X
  have hl : lv_has ls 7 [(0, .ref (q 9)), (1, .int (iI p9)), (2, .int (iI i9))] := hl
  have k_50 := hts (Cond.constant RX1 50 (-100009)) (by decide +kernel)
  have iK := I.nK
  have i7 := I.ns p9
  refine lv_aload_n hx hb dX1_clashNumbered_0 rfl (lv_at hl 0 rfl) ?_
  refine lv_iload_n hx hb dX1_clashNumbered_1 rfl (lv_at hl 1 rfl) ?_
  refine z_callVi (ci := 1) (q0 := 9) (As := [.int (iI p9)]) (rest := []) X hK hP hD hA hS hl.1 gX1_clashNumbered_X1_startOf rfl ⟨rfl, rfl⟩ hd_X1_startOf ⟨Nat.le_of_ble_eq_true rfl, Nat.le_of_ble_eq_true rfl⟩ rfl rfl rfl (Nat.le_of_ble_eq_true rfl) ⟨Nat.zero_le _, Nat.zero_le _⟩ rfl dX1_clashNumbered_2 (c_X1_startOf p9) (fun H locs hP hD hS => ?_)
  refine lv_istore_n (lv' := [(3, .int (iI (p9 * 40))), (0, .ref (q 9)), (1, .int (iI p9)), (2, .int (iI i9))]) hx hb dX1_clashNumbered_5 rfl hl (by decide) rfl (fun ls hl => ?_)
  refine lv_iconst (v := iI (0)) hx hb dX1_clashNumbered_6 rfl ?_
  refine lv_istore (lv' := [(4, .int (iI 0)), (3, .int (iI (p9 * 40))), (0, .ref (q 9)), (1, .int (iI p9)), (2, .int (iI i9))]) hx hb dX1_clashNumbered_7 hl (by decide) rfl (fun ls hl => ?_)
  refine lv_iload_n hx hb dX1_clashNumbered_9 rfl (lv_at hl 1 rfl) ?_
  refine lv_istore (lv' := [(5, .int (iI (p9 * 40))), (4, .int (iI 0)), (3, .int (iI (p9 * 40))), (0, .ref (q 9)), (1, .int (iI p9)), (2, .int (iI i9))]) hx hb dX1_clashNumbered_10 hl (by decide) rfl (fun ls hl => ?_)
  have L_12 : ∀ (n : Nat) (c9 : Int) (b : Int), (h0 : p9 * 40 ≤ b ∧ b ≤ p9 * 40 + ns p9) → (hf : p9 * 40 + ns p9 - b < n) → (hr : cqI (fun j => cqP nK st ka bg ln (p9 * 40) (ns p9) j) i9 (40 * (b - p9 * 40)) c9) → (hc : 0 ≤ c9 ∧ c9 ≤ 40 * (b - p9 * 40)) → ∀ (H : Heap) (locs : List Loc) (ls : Array Slot), va_P D vwCl (wT q cy nK st le be te ab bl ka bg ln ns me sc pi re bk pa lz go ss sm pf mf) H → va_D A (wT q cy nK st le be te ab bl ka bg ln ns me sc pi re bk pa lz go ss sm pf mf) → va_S A s.heap H locs → lv_has ls 7 [(5, .int (iI b)), (4, .int (iI c9)), (3, .int (iI (p9 * 40))), (0, .ref (q 9)), (1, .int (iI p9)), (2, .int (iI i9))] → W p l e ({ frames := 3, cells := 0, slots := 0, locals := 65 } : Room) s m [.ref (q 9), .int (iI p9), .int (iI i9)].toArray below meth c H locs 0 0 (MQ below (zQi D cy (wT q cy nK st le be te ab bl ka bg ln ns me sc pi re bk pa lz go ss sm pf mf) A (clI nK st ka bg ln (p9 * 40) (ns p9) i9)) [.ref (q 9), .int (iI p9), .int (iI i9)].toArray s 0 0 A) (F0 m 12 ls []) := by
    intro n
    induction n with
    | zero =>
      intro c9 b h0 hf hr hc
      exfalso; omega
    | succ n ih_12 =>
      intro c9 b h0 hf hr hc H locs ls hP hD hS hl
      refine lv_iload hx hb dX1_clashNumbered_12 (lv_at hl 0 rfl) ?_
      refine lv_aload_n hx hb dX1_clashNumbered_14 rfl (lv_at hl 3 rfl) ?_
      refine lv_iload_n hx hb dX1_clashNumbered_15 rfl (lv_at hl 4 rfl) ?_
      refine z_callVi (ci := 1) (q0 := 9) (As := [.int (iI p9)]) (rest := [.int (iI b)]) X hK hP hD hA hS hl.1 gX1_clashNumbered_X1_endOf rfl ⟨rfl, rfl⟩ hd_X1_endOf ⟨Nat.le_of_ble_eq_true rfl, Nat.le_of_ble_eq_true rfl⟩ rfl rfl rfl (Nat.le_of_ble_eq_true rfl) ⟨Nat.zero_le _, Nat.zero_le _⟩ rfl dX1_clashNumbered_16 (c_X1_endOf I p9 (by omega)) (fun H locs hP hD hS => ?_)
      refine z_icmp_ge (tgt := 80) hx hb dX1_clashNumbered_19 (by decide) (by omega) (fun c_1 => ?_) (fun c_1 => ?_)
      · refine z_ldc (n := -100009) hx hb hown k_50 (by decide) dX1_clashNumbered_80 ?_
        exact z_iret X hK hP hD hS dX1_clashNumbered_82 (by unfold clI; exact cqI_end (cqI_skip hr (by omega) (by omega) (fun j h1 h2 => cq_hi (by omega))))
      · refine lv_iload_n hx hb dX1_clashNumbered_22 rfl (lv_at hl 2 rfl) ?_
        refine lv_istore (lv' := [(6, .int (iI (p9 * 40))), (5, .int (iI b)), (4, .int (iI c9)), (3, .int (iI (p9 * 40))), (0, .ref (q 9)), (1, .int (iI p9)), (2, .int (iI i9))]) hx hb dX1_clashNumbered_23 hl (by decide) rfl (fun ls hl => ?_)
        have L_25 : ∀ (n : Nat) (c9 : Int) (a : Int), (h3 : p9 * 40 ≤ a ∧ a ≤ b) → (hf2 : b - a < n) → (hr2 : cqI (fun j => cqP nK st ka bg ln (p9 * 40) (ns p9) j) i9 (40 * (b - p9 * 40) + (a - p9 * 40)) c9) → (hc2 : 0 ≤ c9 ∧ c9 ≤ 40 * (b - p9 * 40) + (a - p9 * 40)) → ∀ (H : Heap) (locs : List Loc) (ls : Array Slot), va_P D vwCl (wT q cy nK st le be te ab bl ka bg ln ns me sc pi re bk pa lz go ss sm pf mf) H → va_D A (wT q cy nK st le be te ab bl ka bg ln ns me sc pi re bk pa lz go ss sm pf mf) → va_S A s.heap H locs → lv_has ls 7 [(6, .int (iI a)), (5, .int (iI b)), (4, .int (iI c9)), (3, .int (iI (p9 * 40))), (0, .ref (q 9)), (1, .int (iI p9)), (2, .int (iI i9))] → W p l e ({ frames := 3, cells := 0, slots := 0, locals := 65 } : Room) s m [.ref (q 9), .int (iI p9), .int (iI i9)].toArray below meth c H locs 0 0 (MQ below (zQi D cy (wT q cy nK st le be te ab bl ka bg ln ns me sc pi re bk pa lz go ss sm pf mf) A (clI nK st ka bg ln (p9 * 40) (ns p9) i9)) [.ref (q 9), .int (iI p9), .int (iI i9)].toArray s 0 0 A) (F0 m 25 ls []) := by
          intro n
          induction n with
          | zero =>
            intro c9 a h3 hf2 hr2 hc2
            exfalso; omega
          | succ n ih_25 =>
            intro c9 a h3 hf2 hr2 hc2 H locs ls hP hD hS hl
            refine lv_iload hx hb dX1_clashNumbered_25 (lv_at hl 0 rfl) ?_
            refine lv_iload hx hb dX1_clashNumbered_27 (lv_at hl 1 rfl) ?_
            refine z_icmp_ge (tgt := 74) hx hb dX1_clashNumbered_29 (by decide) (by omega) (fun c_2 => ?_) (fun c_2 => ?_)
            · refine lv_iinc (v := iI (b + 1)) (lv' := [(5, .int (iI (b + 1))), (6, .int (iI a)), (4, .int (iI c9)), (3, .int (iI (p9 * 40))), (0, .ref (q 9)), (1, .int (iI p9)), (2, .int (iI i9))]) hx hb dX1_clashNumbered_74 hl (k := 1) rfl (iI_add _ _) (by decide) rfl (fun ls hl => ?_)
              refine lv_goto (tgt := 12) hx hb dX1_clashNumbered_77 (by decide) ?_
              exact ih_12 c9 (b + 1) (by omega) (by omega) (cqI_skip hr2 (by omega) (by omega) (fun j h1 h2 => cq_row (b := b - p9 * 40) (by omega) (by omega))) (by omega) _ _ _ hP hD hS (lv_sub hl [0, 2, 3, 4, 5, 6] rfl)
            · have cqe := cq_at (nK := nK) (st := st) (ka := ka) (bg := bg) (ln := ln) (lo := p9 * 40) (n := ns p9) (a := a - p9 * 40) (b := b - p9 * 40) (by omega) (by omega) (by omega) (by omega)
              rw [show p9 * 40 + (a - p9 * 40) = a by omega, show p9 * 40 + (b - p9 * 40) = b by omega] at cqe
              refine lv_aload_n hx hb dX1_clashNumbered_32 rfl (lv_at hl 4 rfl) ?_
              refine lv_iload hx hb dX1_clashNumbered_33 (lv_at hl 0 rfl) ?_
              refine lv_iload hx hb dX1_clashNumbered_35 (lv_at hl 1 rfl) ?_
              refine z_callVi (ci := 1) (q0 := 9) (As := [.int (iI a), .int (iI b)]) (rest := []) X hK hP hD hA hS hl.1 gX1_clashNumbered_X1_doClash rfl ⟨rfl, rfl⟩ hd_X1_doClash ⟨Nat.le_of_ble_eq_true rfl, Nat.le_of_ble_eq_true rfl⟩ rfl rfl rfl (Nat.le_of_ble_eq_true rfl) ⟨Nat.zero_le _, Nat.zero_le _⟩ rfl dX1_clashNumbered_37 (c_X1_doClash I a b (by omega) (by omega)) (fun H locs hP hD hS => ?_)
              refine z_ifp_ne (tgt := 46) hx hb dX1_clashNumbered_40 (by decide) (fun c_3 => ?_) (fun c_3 => ?_)
              · refine lv_iload hx hb dX1_clashNumbered_46 (lv_at hl 2 rfl) ?_
                refine lv_iload_n hx hb dX1_clashNumbered_48 rfl (lv_at hl 6 rfl) ?_
                refine z_icmp_ne (tgt := 65) hx hb dX1_clashNumbered_49 (by decide) (by omega) (fun c_4 => ?_) (fun c_4 => ?_)
                · refine lv_iinc (v := iI (c9 + 1)) (lv' := [(4, .int (iI (c9 + 1))), (6, .int (iI a)), (5, .int (iI b)), (3, .int (iI (p9 * 40))), (0, .ref (q 9)), (1, .int (iI p9)), (2, .int (iI i9))]) hx hb dX1_clashNumbered_65 hl (k := 2) rfl (iI_add _ _) (by decide) rfl (fun ls hl => ?_)
                  refine lv_iinc (v := iI (a + 1)) (lv' := [(6, .int (iI (a + 1))), (4, .int (iI (c9 + 1))), (5, .int (iI b)), (3, .int (iI (p9 * 40))), (0, .ref (q 9)), (1, .int (iI p9)), (2, .int (iI i9))]) hx hb dX1_clashNumbered_68 hl (k := 1) rfl (iI_add _ _) (by decide) rfl (fun ls hl => ?_)
                  refine lv_goto (tgt := 25) hx hb dX1_clashNumbered_71 (by decide) ?_
                  exact ih_25 (c9 + 1) (a + 1) (by omega) (by omega) (by rw [show 40 * (b - p9 * 40) + (a + 1 - p9 * 40) = 40 * (b - p9 * 40) + (a - p9 * 40) + 1 by omega]; first | exact cqI_no hr2 (by omega) (fun z => absurd (cqe.mp z) (by assumption)) | exact cqI_yes hr2 (by omega) (cqe.mpr (by assumption)) (by assumption)) (by omega) _ _ _ hP hD hS (lv_sub hl [0, 2, 1, 3, 4, 5, 6] rfl)
                · refine lv_bipush (v := iI (40)) hx hb dX1_clashNumbered_52 (by decide) ?_
                  refine lv_iload hx hb dX1_clashNumbered_54 (lv_at hl 0 rfl) ?_
                  refine lv_iload_n hx hb dX1_clashNumbered_56 rfl (lv_at hl 3 rfl) ?_
                  refine z_isub hx hb dX1_clashNumbered_57 ?_
                  refine z_imul hx hb dX1_clashNumbered_58 ?_
                  refine lv_iload hx hb dX1_clashNumbered_59 (lv_at hl 1 rfl) ?_
                  refine z_iadd hx hb dX1_clashNumbered_61 ?_
                  refine lv_iload_n hx hb dX1_clashNumbered_62 rfl (lv_at hl 3 rfl) ?_
                  refine z_isub hx hb dX1_clashNumbered_63 ?_
                  exact z_iret X hK hP hD hS dX1_clashNumbered_64 (by unfold clI; rw [← cqI_at (res := fun j => 40 * (j % 40) + j / 40) hr2 (by omega) (by omega) (cqe.mpr (by assumption)) (by assumption)]; show _ = 40 * ((40 * (b - p9 * 40) + (a - p9 * 40)) % 40) + (40 * (b - p9 * 40) + (a - p9 * 40)) / 40; rw [show (40 * (b - p9 * 40) + (a - p9 * 40)) % 40 = a - p9 * 40 by omega, show (40 * (b - p9 * 40) + (a - p9 * 40)) / 40 = b - p9 * 40 by omega]; omega)
              · refine lv_goto (tgt := 68) hx hb dX1_clashNumbered_43 (by decide) ?_
                refine lv_iinc (v := iI (a + 1)) (lv' := [(6, .int (iI (a + 1))), (5, .int (iI b)), (4, .int (iI c9)), (3, .int (iI (p9 * 40))), (0, .ref (q 9)), (1, .int (iI p9)), (2, .int (iI i9))]) hx hb dX1_clashNumbered_68 hl (k := 0) rfl (iI_add _ _) (by decide) rfl (fun ls hl => ?_)
                refine lv_goto (tgt := 25) hx hb dX1_clashNumbered_71 (by decide) ?_
                exact ih_25 c9 (a + 1) (by omega) (by omega) (by rw [show 40 * (b - p9 * 40) + (a + 1 - p9 * 40) = 40 * (b - p9 * 40) + (a - p9 * 40) + 1 by omega]; first | exact cqI_no hr2 (by omega) (fun z => absurd (cqe.mp z) (by assumption)) | exact cqI_yes hr2 (by omega) (cqe.mpr (by assumption)) (by assumption)) (by omega) _ _ _ hP hD hS (lv_sub hl [0, 1, 2, 3, 4, 5, 6] rfl)
        exact L_25 41 c9 (p9 * 40) (by omega) (by omega) (by rw [show 40 * (b - p9 * 40) + (p9 * 40 - p9 * 40) = 40 * (b - p9 * 40) by omega]; exact hr) (by omega) _ _ _ hP hD hS (lv_sub hl [0, 1, 2, 3, 4, 5, 6] rfl)
  exact L_12 41 0 (p9 * 40) (by omega) (by omega) (by rw [show 40 * (p9 * 40 - p9 * 40) = 0 by omega]; exact cqI_0) (by omega) _ _ _ hP hD hS (lv_sub hl [0, 1, 2, 3, 4, 5] rfl)

theorem hd_X5_clash : yX5_clash.cls = RX5 ∧ yX5_clash.cls ≠ "java/lang/invoke/MethodHandle" ∧ yX5_clash.cls ≠ "java/lang/invoke/VarHandle" ∧ (parseMethodDescriptor yX5_clash.desc).map (fun d => d.parameters.length) = some 2 := by decide +kernel
set_option maxHeartbeats 4000000 in
set_option maxRecDepth 100000 in
theorem c_X5_clash (I : okS nK st le be te ab bl ka bg ln ns me sc pi re bk) (p9 : Int) (i9 : Int) (h : -2147483648 ≤ p9 ∧ p9 ≤ 2147483647 ∧ -2147483648 ≤ i9 ∧ i9 ≤ 2147483647) : MI l D cy yX5_clash wsX5_clash ({ frames := 4, cells := 0, slots := 0, locals := 91 } : Room) [.ref (q 0), .int (iI p9), .int (iI i9)] (wT q cy nK st le be te ab bl ka bg ln ns me sc pi re bk pa lz go ss sm pf mf) (if 0 ≤ p9 ∧ p9 ≤ 3 then clI nK st ka bg ln (p9 * 40) (ns p9) i9 else (-100001)) (wT q cy nK st le be te ab bl ka bg ln ns me sc pi re bk pa lz go ss sm pf mf) := by
  refine MI.ofW (cc := cX5_clash) (maxL := 3) (ret := (some .int)) (by decide) rfl (Nat.le_of_ble_eq_true rfl) ?_
  intro p e s m below meth c A ls X hK hP hD hA hS hl
  obtain ⟨hx, hb, hml, hr, hts, hown, hlocks⟩ := id X
  have hl : lv_has ls 3 [(0, .ref (q 0)), (1, .int (iI p9)), (2, .int (iI i9))] := hl
  have f_41 := hts (Cond.fieldLink RX5 41 "TwoKeys" "music" "LTwoKeys$Music;") (by decide +kernel)
  have k_76 := hts (Cond.constant RX5 76 (-100001)) (by decide +kernel)
  have n_X5 : ∀ w ∈ u_ws RX5 TX5 9, w ∈ wsX5_clash := by decide +kernel
  have iK := I.nK
  refine lv_iload_n hx hb dX5_clash_0 rfl (lv_at hl 1 rfl) ?_
  refine z_callSi (As := [.int (iI p9)]) (rest := []) X hK hP hD hA hS hl.1 gX5_clash_X5_isPiece rfl ⟨rfl, rfl⟩ hd_X5_isPiece ⟨Nat.le_of_ble_eq_true rfl, Nat.le_of_ble_eq_true rfl⟩ rfl (Nat.le_of_ble_eq_true rfl) ⟨Nat.zero_le _, Nat.zero_le _⟩ rfl dX5_clash_1 (c_X5_isPiece p9 (by omega)) (fun H locs hP hD hS => ?_)
  refine z_ifp_ne (tgt := 10) hx hb dX5_clash_4 (by decide) (fun c_1 => ?_) (fun c_1 => ?_)
  · refine lv_aload_n hx hb dX5_clash_10 rfl (lv_at hl 0 rfl) ?_
    refine va_get (D := D) (ci := 5) (v := .ref (q 9)) (C := RX5) (T := TX5) (N := 9) hx hb hts n_X5 hown hK hP 0 rfl rfl 2 (by decide) f_41 (fun _ h9 => h9) rfl dX5_clash_11 ?_
    refine lv_iload_n hx hb dX5_clash_14 rfl (lv_at hl 1 rfl) ?_
    refine lv_iload_n hx hb dX5_clash_15 rfl (lv_at hl 2 rfl) ?_
    refine z_callVi (ci := 1) (q0 := 9) (As := [.int (iI p9), .int (iI i9)]) (rest := []) X hK hP hD hA hS hl.1 gX5_clash_X1_clashNumbered rfl ⟨rfl, rfl⟩ hd_X1_clashNumbered ⟨Nat.le_of_ble_eq_true rfl, Nat.le_of_ble_eq_true rfl⟩ rfl rfl rfl (Nat.le_of_ble_eq_true rfl) ⟨Nat.zero_le _, Nat.zero_le _⟩ rfl dX5_clash_16 (c_X1_clashNumbered I p9 i9 (by omega) (by omega)) (fun H locs hP hD hS => ?_)
    exact z_iret X hK hP hD hS dX5_clash_19 (by (repeat' split) <;> first | rfl | omega)
  · refine z_ldc (n := -100001) hx hb hown k_76 (by decide) dX5_clash_7 ?_
    exact z_iret X hK hP hD hS dX5_clash_9 (by (repeat' split) <;> first | rfl | omega)

theorem hd_X1_countChokes : yX1_countChokes.cls = RX1 ∧ yX1_countChokes.cls ≠ "java/lang/invoke/MethodHandle" ∧ yX1_countChokes.cls ≠ "java/lang/invoke/VarHandle" ∧ (parseMethodDescriptor yX1_countChokes.desc).map (fun d => d.parameters.length) = some 2 := by decide +kernel
set_option maxHeartbeats 4000000 in
set_option maxRecDepth 100000 in
theorem c_X1_countChokes (I : okS nK st le be te ab bl ka bg ln ns me sc pi re bk) (p9 : Int) (r9 : Int) (h : 0 ≤ p9 ∧ p9 ≤ 3) (h2 : 0 ≤ r9 ∧ r9 ≤ 20) : MI l D cy yX1_countChokes wsX1_countChokes ({ frames := 2, cells := 0, slots := 0, locals := 43 } : Room) [.ref (q 9), .int (iI p9), .int (iI r9)] (wT q cy nK st le be te ab bl ka bg ln ns me sc pi re bk pa lz go ss sm pf mf) (ckN nK st ka bg ln r9 (p9 * 40) (p9 * 40 + ns p9)) (wT q cy nK st le be te ab bl ka bg ln ns me sc pi re bk pa lz go ss sm pf mf) := by
  refine MI.ofW (cc := cX1_countChokes) (maxL := 7) (ret := (some .int)) (by decide) rfl (Nat.le_of_ble_eq_true rfl) ?_
  intro p e s m below meth c A ls X hK hP hD hA hS hl
  obtain ⟨hx, hb, hml, hr, hts, hown, hlocks⟩ := id X
  have hl : lv_has ls 7 [(0, .ref (q 9)), (1, .int (iI p9)), (2, .int (iI r9))] := hl
  have f_15 := hts (Cond.fieldLink RX1 15 "TwoKeys$Music" "beginAt" "[I") (by decide +kernel)
  have f_24 := hts (Cond.fieldLink RX1 24 "TwoKeys$Music" "board" "LTwoKeys$Board;") (by decide +kernel)
  have f_9 := hts (Cond.fieldLink RX1 9 "TwoKeys$Music" "keyAt" "[I") (by decide +kernel)
  have n_X1 : ∀ w ∈ u_ws RX1 TX1 5, w ∈ wsX1_countChokes := by decide +kernel
  have iK := I.nK
  have i7 := I.ns p9
  refine lv_iconst (v := iI (0)) hx hb dX1_countChokes_0 rfl ?_
  refine lv_istore_n (lv' := [(3, .int (iI 0)), (0, .ref (q 9)), (1, .int (iI p9)), (2, .int (iI r9))]) hx hb dX1_countChokes_1 rfl hl (by decide) rfl (fun ls hl => ?_)
  refine lv_aload_n hx hb dX1_countChokes_2 rfl (lv_at hl 1 rfl) ?_
  refine lv_iload_n hx hb dX1_countChokes_3 rfl (lv_at hl 2 rfl) ?_
  refine z_callVi (ci := 1) (q0 := 9) (As := [.int (iI p9)]) (rest := []) X hK hP hD hA hS hl.1 gX1_countChokes_X1_startOf rfl ⟨rfl, rfl⟩ hd_X1_startOf ⟨Nat.le_of_ble_eq_true rfl, Nat.le_of_ble_eq_true rfl⟩ rfl rfl rfl (Nat.le_of_ble_eq_true rfl) ⟨Nat.zero_le _, Nat.zero_le _⟩ rfl dX1_countChokes_4 (c_X1_startOf p9) (fun H locs hP hD hS => ?_)
  refine lv_istore (lv' := [(4, .int (iI (p9 * 40))), (3, .int (iI 0)), (0, .ref (q 9)), (1, .int (iI p9)), (2, .int (iI r9))]) hx hb dX1_countChokes_7 hl (by decide) rfl (fun ls hl => ?_)
  have L_9 : ∀ (n : Nat) (acc : Int) (b : Int), (h0 : p9 * 40 ≤ b ∧ b ≤ p9 * 40 + ns p9) → (hf : p9 * 40 + ns p9 - b < n) → (hr : acc = ckN nK st ka bg ln r9 (p9 * 40) b) → ∀ (H : Heap) (locs : List Loc) (ls : Array Slot), va_P D vwCl (wT q cy nK st le be te ab bl ka bg ln ns me sc pi re bk pa lz go ss sm pf mf) H → va_D A (wT q cy nK st le be te ab bl ka bg ln ns me sc pi re bk pa lz go ss sm pf mf) → va_S A s.heap H locs → lv_has ls 7 [(4, .int (iI b)), (3, .int (iI acc)), (0, .ref (q 9)), (1, .int (iI p9)), (2, .int (iI r9))] → W p l e ({ frames := 2, cells := 0, slots := 0, locals := 43 } : Room) s m [.ref (q 9), .int (iI p9), .int (iI r9)].toArray below meth c H locs 0 0 (MQ below (zQi D cy (wT q cy nK st le be te ab bl ka bg ln ns me sc pi re bk pa lz go ss sm pf mf) A (ckN nK st ka bg ln r9 (p9 * 40) (p9 * 40 + ns p9))) [.ref (q 9), .int (iI p9), .int (iI r9)].toArray s 0 0 A) (F0 m 9 ls []) := by
    intro n
    induction n with
    | zero =>
      intro acc b h0 hf hr
      exfalso; omega
    | succ n ih_9 =>
      intro acc b h0 hf hr H locs ls hP hD hS hl
      refine lv_iload hx hb dX1_countChokes_9 (lv_at hl 0 rfl) ?_
      refine lv_aload_n hx hb dX1_countChokes_11 rfl (lv_at hl 2 rfl) ?_
      refine lv_iload_n hx hb dX1_countChokes_12 rfl (lv_at hl 3 rfl) ?_
      refine z_callVi (ci := 1) (q0 := 9) (As := [.int (iI p9)]) (rest := [.int (iI b)]) X hK hP hD hA hS hl.1 gX1_countChokes_X1_endOf rfl ⟨rfl, rfl⟩ hd_X1_endOf ⟨Nat.le_of_ble_eq_true rfl, Nat.le_of_ble_eq_true rfl⟩ rfl rfl rfl (Nat.le_of_ble_eq_true rfl) ⟨Nat.zero_le _, Nat.zero_le _⟩ rfl dX1_countChokes_13 (c_X1_endOf I p9 (by omega)) (fun H locs hP hD hS => ?_)
      refine z_icmp_ge (tgt := 100) hx hb dX1_countChokes_16 (by decide) (by omega) (fun c_1 => ?_) (fun c_1 => ?_)
      · refine lv_iload_n hx hb dX1_countChokes_100 rfl (lv_at hl 1 rfl) ?_
        exact z_iret X hK hP hD hS dX1_countChokes_101 (by rw [hr, show b = p9 * 40 + ns p9 by omega])
      · refine lv_aload_n hx hb dX1_countChokes_19 rfl (lv_at hl 2 rfl) ?_
        refine lv_iload_n hx hb dX1_countChokes_20 rfl (lv_at hl 3 rfl) ?_
        refine z_callVi (ci := 1) (q0 := 9) (As := [.int (iI p9)]) (rest := []) X hK hP hD hA hS hl.1 gX1_countChokes_X1_startOf rfl ⟨rfl, rfl⟩ hd_X1_startOf ⟨Nat.le_of_ble_eq_true rfl, Nat.le_of_ble_eq_true rfl⟩ rfl rfl rfl (Nat.le_of_ble_eq_true rfl) ⟨Nat.zero_le _, Nat.zero_le _⟩ rfl dX1_countChokes_21 (c_X1_startOf p9) (fun H locs hP hD hS => ?_)
        refine lv_istore (lv' := [(5, .int (iI (p9 * 40))), (4, .int (iI b)), (3, .int (iI acc)), (0, .ref (q 9)), (1, .int (iI p9)), (2, .int (iI r9))]) hx hb dX1_countChokes_24 hl (by decide) rfl (fun ls hl => ?_)
        have L_26 : ∀ (n : Nat) (acc2 : Int) (a : Int), (h3 : p9 * 40 ≤ a ∧ a ≤ b) → (hf2 : b - a < n) → (hr2 : acc2 = ckN nK st ka bg ln r9 (p9 * 40) b + sZ (fun a => bP (ckP nK st ka bg ln r9 a b)) (p9 * 40) a) → ∀ (H : Heap) (locs : List Loc) (ls : Array Slot), va_P D vwCl (wT q cy nK st le be te ab bl ka bg ln ns me sc pi re bk pa lz go ss sm pf mf) H → va_D A (wT q cy nK st le be te ab bl ka bg ln ns me sc pi re bk pa lz go ss sm pf mf) → va_S A s.heap H locs → lv_has ls 7 [(5, .int (iI a)), (4, .int (iI b)), (3, .int (iI acc2)), (0, .ref (q 9)), (1, .int (iI p9)), (2, .int (iI r9))] → W p l e ({ frames := 2, cells := 0, slots := 0, locals := 43 } : Room) s m [.ref (q 9), .int (iI p9), .int (iI r9)].toArray below meth c H locs 0 0 (MQ below (zQi D cy (wT q cy nK st le be te ab bl ka bg ln ns me sc pi re bk pa lz go ss sm pf mf) A (ckN nK st ka bg ln r9 (p9 * 40) (p9 * 40 + ns p9))) [.ref (q 9), .int (iI p9), .int (iI r9)].toArray s 0 0 A) (F0 m 26 ls []) := by
          intro n
          induction n with
          | zero =>
            intro acc2 a h3 hf2 hr2
            exfalso; omega
          | succ n ih_26 =>
            intro acc2 a h3 hf2 hr2 H locs ls hP hD hS hl
            refine lv_iload hx hb dX1_countChokes_26 (lv_at hl 0 rfl) ?_
            refine lv_iload hx hb dX1_countChokes_28 (lv_at hl 1 rfl) ?_
            refine z_icmp_ge (tgt := 94) hx hb dX1_countChokes_30 (by decide) (by omega) (fun c_2 => ?_) (fun c_2 => ?_)
            · refine lv_iinc (v := iI (b + 1)) (lv' := [(4, .int (iI (b + 1))), (5, .int (iI a)), (3, .int (iI acc2)), (0, .ref (q 9)), (1, .int (iI p9)), (2, .int (iI r9))]) hx hb dX1_countChokes_94 hl (k := 1) rfl (iI_add _ _) (by decide) rfl (fun ls hl => ?_)
              refine lv_goto (tgt := 9) hx hb dX1_countChokes_97 (by decide) ?_
              exact ih_9 acc2 (b + 1) (by omega) (by omega) (by show acc2 = sZ _ _ _; rw [sZ_step (by omega), hr2, show a = b by omega]; rfl) _ _ _ hP hD hS (lv_sub hl [0, 2, 3, 4, 5] rfl)
            · refine lv_aload_n hx hb dX1_countChokes_33 rfl (lv_at hl 3 rfl) ?_
              refine va_get (D := D) (ci := 1) (v := .ref (q 11)) (C := RX1) (T := TX1) (N := 5) hx hb hts n_X1 hown hK hP 9 rfl rfl 2 (by decide) f_15 (fun _ h9 => h9) rfl dX1_countChokes_34 ?_
              refine lv_iload hx hb dX1_countChokes_37 (lv_at hl 1 rfl) ?_
              refine z_iald hx hb hK hP 11 0 rfl rfl (by omega) dX1_countChokes_39 ?_
              have b_3 := I.bg b
              refine lv_aload_n hx hb dX1_countChokes_40 rfl (lv_at hl 3 rfl) ?_
              refine lv_iload hx hb dX1_countChokes_41 (lv_at hl 0 rfl) ?_
              refine z_callVi (ci := 1) (q0 := 9) (As := [.int (iI a)]) (rest := [.int (iI (bg b))]) X hK hP hD hA hS hl.1 gX1_countChokes_X1_tickBehind rfl ⟨rfl, rfl⟩ hd_X1_tickBehind ⟨Nat.le_of_ble_eq_true rfl, Nat.le_of_ble_eq_true rfl⟩ rfl rfl rfl (Nat.le_of_ble_eq_true rfl) ⟨Nat.zero_le _, Nat.zero_le _⟩ rfl dX1_countChokes_43 (c_X1_tickBehind I a (by omega)) (fun H locs hP hD hS => ?_)
              refine z_isub hx hb dX1_countChokes_46 ?_
              refine lv_istore (lv' := [(6, .int (iI ((bg b) - (bg a + ln a)))), (5, .int (iI a)), (4, .int (iI b)), (3, .int (iI acc2)), (0, .ref (q 9)), (1, .int (iI p9)), (2, .int (iI r9))]) hx hb dX1_countChokes_47 hl (by decide) rfl (fun ls hl => ?_)
              have l7 := I.ln a
              have l6 := I.bg a
              refine lv_iconst (v := iI (0)) hx hb dX1_countChokes_49 rfl ?_
              refine lv_iload hx hb dX1_countChokes_50 (lv_at hl 0 rfl) ?_
              refine z_icmp_gt (tgt := 88) hx hb dX1_countChokes_52 (by decide) (by omega) (fun c_4 => ?_) (fun c_4 => ?_)
              · refine lv_iinc (v := iI (a + 1)) (lv' := [(5, .int (iI (a + 1))), (6, .int (iI ((bg b) - (bg a + ln a)))), (4, .int (iI b)), (3, .int (iI acc2)), (0, .ref (q 9)), (1, .int (iI p9)), (2, .int (iI r9))]) hx hb dX1_countChokes_88 hl (k := 1) rfl (iI_add _ _) (by decide) rfl (fun ls hl => ?_)
                refine lv_goto (tgt := 26) hx hb dX1_countChokes_91 (by decide) ?_
                exact ih_26 acc2 (a + 1) (by omega) (by omega) (by rw [sZ_step (by omega)]; (try dsimp only); first | (rw [bP_1 ⟨by assumption, by omega, by omega⟩]; omega) | (rw [bP_0 (fun z => absurd z.1 (by assumption))]; omega) | (rw [bP_0 (fun z => by have z1 := z.2.1; have z2 := z.2.2; omega)]; omega)) _ _ _ hP hD hS (lv_sub hl [0, 2, 3, 4, 5, 6] rfl)
              · refine lv_iload hx hb dX1_countChokes_55 (lv_at hl 0 rfl) ?_
                refine lv_iload_n hx hb dX1_countChokes_57 rfl (lv_at hl 6 rfl) ?_
                refine z_icmp_ge (tgt := 88) hx hb dX1_countChokes_58 (by decide) (by omega) (fun c_5 => ?_) (fun c_5 => ?_)
                · refine lv_iinc (v := iI (a + 1)) (lv' := [(5, .int (iI (a + 1))), (6, .int (iI ((bg b) - (bg a + ln a)))), (4, .int (iI b)), (3, .int (iI acc2)), (0, .ref (q 9)), (1, .int (iI p9)), (2, .int (iI r9))]) hx hb dX1_countChokes_88 hl (k := 1) rfl (iI_add _ _) (by decide) rfl (fun ls hl => ?_)
                  refine lv_goto (tgt := 26) hx hb dX1_countChokes_91 (by decide) ?_
                  exact ih_26 acc2 (a + 1) (by omega) (by omega) (by rw [sZ_step (by omega)]; (try dsimp only); first | (rw [bP_1 ⟨by assumption, by omega, by omega⟩]; omega) | (rw [bP_0 (fun z => absurd z.1 (by assumption))]; omega) | (rw [bP_0 (fun z => by have z1 := z.2.1; have z2 := z.2.2; omega)]; omega)) _ _ _ hP hD hS (lv_sub hl [0, 2, 3, 4, 5, 6] rfl)
                · refine lv_aload_n hx hb dX1_countChokes_61 rfl (lv_at hl 4 rfl) ?_
                  refine va_get (D := D) (ci := 1) (v := .ref (q 1)) (C := RX1) (T := TX1) (N := 5) hx hb hts n_X1 hown hK hP 9 rfl rfl 0 (by decide) f_24 (fun _ h9 => h9) rfl dX1_countChokes_62 ?_
                  refine lv_aload_n hx hb dX1_countChokes_65 rfl (lv_at hl 4 rfl) ?_
                  refine va_get (D := D) (ci := 1) (v := .ref (q 10)) (C := RX1) (T := TX1) (N := 5) hx hb hts n_X1 hown hK hP 9 rfl rfl 1 (by decide) f_9 (fun _ h9 => h9) rfl dX1_countChokes_66 ?_
                  refine lv_iload hx hb dX1_countChokes_69 (lv_at hl 1 rfl) ?_
                  refine z_iald hx hb hK hP 10 0 rfl rfl (by omega) dX1_countChokes_71 ?_
                  have b_6 := I.ka a
                  refine lv_aload_n hx hb dX1_countChokes_72 rfl (lv_at hl 4 rfl) ?_
                  refine va_get (D := D) (ci := 1) (v := .ref (q 10)) (C := RX1) (T := TX1) (N := 5) hx hb hts n_X1 hown hK hP 9 rfl rfl 1 (by decide) f_9 (fun _ h9 => h9) rfl dX1_countChokes_73 ?_
                  refine lv_iload hx hb dX1_countChokes_76 (lv_at hl 2 rfl) ?_
                  refine z_iald hx hb hK hP 10 0 rfl rfl (by omega) dX1_countChokes_78 ?_
                  have b_7 := I.ka b
                  refine z_callVi (ci := 0) (q0 := 1) (As := [.int (iI (ka a)), .int (iI (ka b))]) (rest := []) X hK hP hD hA hS hl.1 gX1_countChokes_X0_doShare rfl ⟨rfl, rfl⟩ hd_X0_doShare ⟨Nat.le_of_ble_eq_true rfl, Nat.le_of_ble_eq_true rfl⟩ rfl rfl rfl (Nat.le_of_ble_eq_true rfl) ⟨Nat.zero_le _, Nat.zero_le _⟩ rfl dX1_countChokes_79 (c_X0_doShare I (ka a) (ka b) (by omega)) (fun H locs hP hD hS => ?_)
                  refine z_ifp_eq (tgt := 88) hx hb dX1_countChokes_82 (by decide) (fun c_8 => ?_) (fun c_8 => ?_)
                  · refine lv_iinc (v := iI (a + 1)) (lv' := [(5, .int (iI (a + 1))), (6, .int (iI ((bg b) - (bg a + ln a)))), (4, .int (iI b)), (3, .int (iI acc2)), (0, .ref (q 9)), (1, .int (iI p9)), (2, .int (iI r9))]) hx hb dX1_countChokes_88 hl (k := 1) rfl (iI_add _ _) (by decide) rfl (fun ls hl => ?_)
                    refine lv_goto (tgt := 26) hx hb dX1_countChokes_91 (by decide) ?_
                    exact ih_26 acc2 (a + 1) (by omega) (by omega) (by rw [sZ_step (by omega)]; (try dsimp only); first | (rw [bP_1 ⟨by assumption, by omega, by omega⟩]; omega) | (rw [bP_0 (fun z => absurd z.1 (by assumption))]; omega) | (rw [bP_0 (fun z => by have z1 := z.2.1; have z2 := z.2.2; omega)]; omega)) _ _ _ hP hD hS (lv_sub hl [0, 2, 3, 4, 5, 6] rfl)
                  · refine lv_iinc (v := iI (acc2 + 1)) (lv' := [(3, .int (iI (acc2 + 1))), (6, .int (iI ((bg b) - (bg a + ln a)))), (5, .int (iI a)), (4, .int (iI b)), (0, .ref (q 9)), (1, .int (iI p9)), (2, .int (iI r9))]) hx hb dX1_countChokes_85 hl (k := 3) rfl (iI_add _ _) (by decide) rfl (fun ls hl => ?_)
                    refine lv_iinc (v := iI (a + 1)) (lv' := [(5, .int (iI (a + 1))), (3, .int (iI (acc2 + 1))), (6, .int (iI ((bg b) - (bg a + ln a)))), (4, .int (iI b)), (0, .ref (q 9)), (1, .int (iI p9)), (2, .int (iI r9))]) hx hb dX1_countChokes_88 hl (k := 2) rfl (iI_add _ _) (by decide) rfl (fun ls hl => ?_)
                    refine lv_goto (tgt := 26) hx hb dX1_countChokes_91 (by decide) ?_
                    exact ih_26 (acc2 + 1) (a + 1) (by omega) (by omega) (by rw [sZ_step (by omega)]; (try dsimp only); first | (rw [bP_1 ⟨by assumption, by omega, by omega⟩]; omega) | (rw [bP_0 (fun z => absurd z.1 (by assumption))]; omega) | (rw [bP_0 (fun z => by have z1 := z.2.1; have z2 := z.2.2; omega)]; omega)) _ _ _ hP hD hS (lv_sub hl [0, 3, 1, 4, 5, 6] rfl)
        exact L_26 41 acc (p9 * 40) (by omega) (by omega) (by rw [sZ_nil (by omega), ← hr, Int.add_zero]) _ _ _ hP hD hS (lv_sub hl [0, 1, 2, 3, 4, 5] rfl)
  exact L_9 41 0 (p9 * 40) (by omega) (by omega) ((sZ_nil (by omega)).symm) _ _ _ hP hD hS (lv_sub hl [0, 1, 2, 3, 4] rfl)

theorem hd_X5_chokes : yX5_chokes.cls = RX5 ∧ yX5_chokes.cls ≠ "java/lang/invoke/MethodHandle" ∧ yX5_chokes.cls ≠ "java/lang/invoke/VarHandle" ∧ (parseMethodDescriptor yX5_chokes.desc).map (fun d => d.parameters.length) = some 1 := by decide +kernel
set_option maxHeartbeats 4000000 in
set_option maxRecDepth 100000 in
theorem c_X5_chokes (I : okS nK st le be te ab bl ka bg ln ns me sc pi re bk) (p9 : Int) (h : -2147483648 ≤ p9 ∧ p9 ≤ 2147483647) : MI l D cy yX5_chokes wsX5_chokes ({ frames := 3, cells := 0, slots := 0, locals := 69 } : Room) [.ref (q 0), .int (iI p9)] (wT q cy nK st le be te ab bl ka bg ln ns me sc pi re bk pa lz go ss sm pf mf) (if 0 ≤ p9 ∧ p9 ≤ 3 then ckN nK st ka bg ln re (p9 * 40) (p9 * 40 + ns p9) else (-100001)) (wT q cy nK st le be te ab bl ka bg ln ns me sc pi re bk pa lz go ss sm pf mf) := by
  refine MI.ofW (cc := cX5_chokes) (maxL := 2) (ret := (some .int)) (by decide) rfl (Nat.le_of_ble_eq_true rfl) ?_
  intro p e s m below meth c A ls X hK hP hD hA hS hl
  obtain ⟨hx, hb, hml, hr, hts, hown, hlocks⟩ := id X
  have hl : lv_has ls 2 [(0, .ref (q 0)), (1, .int (iI p9))] := hl
  have f_41 := hts (Cond.fieldLink RX5 41 "TwoKeys" "music" "LTwoKeys$Music;") (by decide +kernel)
  have f_16 := hts (Cond.fieldLink RX5 16 "TwoKeys" "restNow" "I") (by decide +kernel)
  have k_76 := hts (Cond.constant RX5 76 (-100001)) (by decide +kernel)
  have n_X5 : ∀ w ∈ u_ws RX5 TX5 9, w ∈ wsX5_chokes := by decide +kernel
  have iK := I.nK
  have i5 := I.re
  refine lv_iload_n hx hb dX5_chokes_0 rfl (lv_at hl 1 rfl) ?_
  refine z_callSi (As := [.int (iI p9)]) (rest := []) X hK hP hD hA hS hl.1 gX5_chokes_X5_isPiece rfl ⟨rfl, rfl⟩ hd_X5_isPiece ⟨Nat.le_of_ble_eq_true rfl, Nat.le_of_ble_eq_true rfl⟩ rfl (Nat.le_of_ble_eq_true rfl) ⟨Nat.zero_le _, Nat.zero_le _⟩ rfl dX5_chokes_1 (c_X5_isPiece p9 (by omega)) (fun H locs hP hD hS => ?_)
  refine z_ifp_ne (tgt := 10) hx hb dX5_chokes_4 (by decide) (fun c_1 => ?_) (fun c_1 => ?_)
  · refine lv_aload_n hx hb dX5_chokes_10 rfl (lv_at hl 0 rfl) ?_
    refine va_get (D := D) (ci := 5) (v := .ref (q 9)) (C := RX5) (T := TX5) (N := 9) hx hb hts n_X5 hown hK hP 0 rfl rfl 2 (by decide) f_41 (fun _ h9 => h9) rfl dX5_chokes_11 ?_
    refine lv_iload_n hx hb dX5_chokes_14 rfl (lv_at hl 1 rfl) ?_
    refine lv_aload_n hx hb dX5_chokes_15 rfl (lv_at hl 0 rfl) ?_
    refine va_get (D := D) (ci := 5) (v := .int (iI re)) (C := RX5) (T := TX5) (N := 9) hx hb hts n_X5 hown hK hP 0 rfl rfl 7 (by decide) f_16 (fun _ h9 => h9) rfl dX5_chokes_16 ?_
    refine z_callVi (ci := 1) (q0 := 9) (As := [.int (iI p9), .int (iI re)]) (rest := []) X hK hP hD hA hS hl.1 gX5_chokes_X1_countChokes rfl ⟨rfl, rfl⟩ hd_X1_countChokes ⟨Nat.le_of_ble_eq_true rfl, Nat.le_of_ble_eq_true rfl⟩ rfl rfl rfl (Nat.le_of_ble_eq_true rfl) ⟨Nat.zero_le _, Nat.zero_le _⟩ rfl dX5_chokes_19 (c_X1_countChokes I p9 re (by omega) (by omega)) (fun H locs hP hD hS => ?_)
    exact z_iret X hK hP hD hS dX5_chokes_22 (by (repeat' split) <;> first | rfl | omega)
  · refine z_ldc (n := -100001) hx hb hown k_76 (by decide) dX5_chokes_7 ?_
    exact z_iret X hK hP hD hS dX5_chokes_9 (by (repeat' split) <;> first | rfl | omega)
