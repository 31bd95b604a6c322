variable {l : Launch} {D : va_G} {cy : ClassId} {q : Nat → Nat} {nK sc pi re bk ss sm pf mf th lo : Int} {st le be te ab bl ka bg ln ns me pa lz go co bs gr : Int → Int}
theorem hd_X5_findStrings : yX5_findStrings.cls = RX5 ∧ yX5_findStrings.cls ≠ "java/lang/invoke/MethodHandle" ∧ yX5_findStrings.cls ≠ "java/lang/invoke/VarHandle" ∧ (parseMethodDescriptor yX5_findStrings.desc).map (fun d => d.parameters.length) = some 2 := by decide +kernel
set_option maxHeartbeats 4000000 in
set_option maxRecDepth 100000 in
theorem c_X5_findStrings (I : okS nK st le be te ab bl ka bg ln ns me sc pi re bk) (m9 : Int) (s9 : Int) (h : (1 ≤ m9 ∧ m9 ≤ 6) ∧ (0 ≤ s9 ∧ s9 ≤ 24)) : MR l D cy yX5_findStrings wsX5_findStrings ({ frames := 4, cells := 0, slots := 0, locals := 90 } : Room) [.ref (q 0), .int (iI m9), .int (iI s9)] (wT q cy nK st le be te ab bl ka bg ln ns me sc pi re bk pa lz go ss sm pf mf) (fun r8 w8 => ∃ pa2 : Int → Int, ∃ lz2 : Int → Int, w8 = wT q cy nK st le be te ab bl ka bg ln ns me sc pi re bk pa2 lz2 go nK m9 pf mf ∧ r8 = stF (tog ka bg ln ns bk) nK m9 s9 ∧ ((∀ x y, 0 ≤ x → x ≤ y + 1 → y ≤ 23 → clS pa2 x y = (tog ka bg ln ns bk) x y) ∧ (∀ t a, 0 ≤ t → t ≤ nK → 0 ≤ a → a ≤ nK → lz2 (t * 25 + a) = dp (tog ka bg ln ns bk) nK m9 t a))) := by
  refine MR.ofW (cc := cX5_findStrings) (maxL := 3) (ret := (some .int)) (by decide) rfl (Nat.le_of_ble_eq_true rfl) ?_
  intro p e s m below meth c A ls X hK hP hD hA hS hl
  obtain ⟨hx, hb, hml, hr, hts, hown, hlocks⟩ := id X
  have hl : lv_has ls 3 [(0, .ref (q 0)), (1, .int (iI m9)), (2, .int (iI s9))] := hl
  have f_48 := hts (Cond.fieldLink RX5 48 "TwoKeys" "sharing" "LTwoKeys$Sharing;") (by decide +kernel)
  have f_41 := hts (Cond.fieldLink RX5 41 "TwoKeys" "music" "LTwoKeys$Music;") (by decide +kernel)
  have f_19 := hts (Cond.fieldLink RX5 19 "TwoKeys" "bookNow" "I") (by decide +kernel)
  have f_25 := hts (Cond.fieldLink RX5 25 "TwoKeys" "board" "LTwoKeys$Board;") (by decide +kernel)
  have f_66 := hts (Cond.fieldLink RX5 66 "TwoKeys$Board" "size" "I") (by decide +kernel)
  have n_X0 : ∀ w ∈ u_ws RX0 TX0 5, w ∈ wsX5_findStrings := by decide +kernel
  have n_X5 : ∀ w ∈ u_ws RX5 TX5 9, w ∈ wsX5_findStrings := by decide +kernel
  have iK := I.nK
  have ibk := I.bk
  have tP : ∀ x y, 0 ≤ (tog ka bg ln ns bk) x y := fun x y => (tog_b I.ns).1
  have tO : ∀ x, (tog ka bg ln ns bk) x x = 0 := fun x => tog_one
  refine lv_aload_n hx hb dX5_findStrings_0 rfl (lv_at hl 0 rfl) ?_
  refine va_get (D := D) (ci := 5) (v := .ref (q 14)) (C := RX5) (T := TX5) (N := 9) hx hb hts n_X5 hown hK hP 0 rfl rfl 3 (by decide) f_48 (fun _ h9 => h9) rfl dX5_findStrings_1 ?_
  refine lv_aload_n hx hb dX5_findStrings_4 rfl (lv_at hl 0 rfl) ?_
  refine va_get (D := D) (ci := 5) (v := .ref (q 9)) (C := RX5) (T := TX5) (N := 9) hx hb hts n_X5 hown hK hP 0 rfl rfl 2 (by decide) f_41 (fun _ h9 => h9) rfl dX5_findStrings_5 ?_
  refine lv_aload_n hx hb dX5_findStrings_8 rfl (lv_at hl 0 rfl) ?_
  refine va_get (D := D) (ci := 5) (v := .int (iI bk)) (C := RX5) (T := TX5) (N := 9) hx hb hts n_X5 hown hK hP 0 rfl rfl 8 (by decide) f_19 (fun _ h9 => h9) rfl dX5_findStrings_9 ?_
  refine z_callVw (ci := 4) (q0 := 14) (As := [.ref (q 9), .int (iI bk)]) (rest := []) X hK hP hD hA hS hl.1 gX5_findStrings_X4_gather rfl ⟨rfl, rfl⟩ hd_X4_gather ⟨Nat.le_of_ble_eq_true rfl, Nat.le_of_ble_eq_true rfl⟩ rfl rfl rfl (Nat.le_of_ble_eq_true rfl) ⟨Nat.zero_le _, Nat.zero_le _⟩ rfl dX5_findStrings_12 (c_X4_gather I bk (by omega)) (fun w8 H locs hΨ hP hD hS => ?_)
  obtain ⟨pa3_1, rfl, hq_1⟩ := hΨ
  have hCx := clS_tog I.ka hq_1
  refine lv_aload_n hx hb dX5_findStrings_15 rfl (lv_at hl 0 rfl) ?_
  refine va_get (D := D) (ci := 5) (v := .ref (q 14)) (C := RX5) (T := TX5) (N := 9) hx hb hts n_X5 hown hK hP 0 rfl rfl 3 (by decide) f_48 (fun _ h9 => h9) rfl dX5_findStrings_16 ?_
  refine lv_aload_n hx hb dX5_findStrings_19 rfl (lv_at hl 0 rfl) ?_
  refine va_get (D := D) (ci := 5) (v := .ref (q 1)) (C := RX5) (T := TX5) (N := 9) hx hb hts n_X5 hown hK hP 0 rfl rfl 0 (by decide) f_25 (fun _ h9 => h9) rfl dX5_findStrings_20 ?_
  refine va_get (D := D) (ci := 0) (v := .int (iI nK)) (C := RX0) (T := TX0) (N := 5) hx hb hts n_X0 hown hK hP 1 rfl rfl 0 (by decide) f_66 (fun _ h9 => h9) rfl dX5_findStrings_23 ?_
  refine lv_iload_n hx hb dX5_findStrings_26 rfl (lv_at hl 1 rfl) ?_
  refine z_callVw (ci := 4) (q0 := 14) (As := [.int (iI nK), .int (iI m9)]) (rest := []) X hK hP hD hA hS hl.1 gX5_findStrings_X4_solve rfl ⟨rfl, rfl⟩ hd_X4_solve ⟨Nat.le_of_ble_eq_true rfl, Nat.le_of_ble_eq_true rfl⟩ rfl rfl rfl (Nat.le_of_ble_eq_true rfl) ⟨Nat.zero_le _, Nat.zero_le _⟩ rfl dX5_findStrings_27 (c_X4_solve nK m9 (tog ka bg ln ns bk) (by omega) hCx (fun x y => tog_b I.ns)) (fun w8 H locs hΨ hP hD hS => ?_)
  obtain ⟨lz4_2, rfl, hq_2⟩ := hΨ
  have hLx := hq_2
  refine lv_iload_n hx hb dX5_findStrings_30 rfl (lv_at hl 2 rfl) ?_
  refine z_if_ne (tgt := 44) hx hb dX5_findStrings_31 (by decide) (by omega) (fun c_3 => ?_) (fun c_3 => ?_)
  · refine lv_aload_n hx hb dX5_findStrings_44 rfl (lv_at hl 0 rfl) ?_
    refine va_get (D := D) (ci := 5) (v := .ref (q 14)) (C := RX5) (T := TX5) (N := 9) hx hb hts n_X5 hown hK hP 0 rfl rfl 3 (by decide) f_48 (fun _ h9 => h9) rfl dX5_findStrings_45 ?_
    refine lv_iload_n hx hb dX5_findStrings_48 rfl (lv_at hl 2 rfl) ?_
    refine z_callVi (ci := 4) (q0 := 14) (As := [.int (iI s9)]) (rest := []) X hK hP hD hA hS hl.1 gX5_findStrings_X4_bestStrings rfl ⟨rfl, rfl⟩ hd_X4_bestStrings ⟨Nat.le_of_ble_eq_true rfl, Nat.le_of_ble_eq_true rfl⟩ rfl rfl rfl (Nat.le_of_ble_eq_true rfl) ⟨Nat.zero_le _, Nat.zero_le _⟩ rfl dX5_findStrings_49 (c_X4_bestStrings s9 (tog ka bg ln ns bk) (by omega) (by omega) (fun x y => tog_b I.ns) hLx) (fun H locs hP hD hS => ?_)
    exact z_iretR X hK hP hD hS dX5_findStrings_52 (⟨_, _, rfl, by unfold stF; first | (rw [if_pos (by assumption)]; done) | (rw [if_neg (by assumption)]; done), hCx, hLx⟩)
  · refine lv_aload_n hx hb dX5_findStrings_34 rfl (lv_at hl 0 rfl) ?_
    refine va_get (D := D) (ci := 5) (v := .ref (q 14)) (C := RX5) (T := TX5) (N := 9) hx hb hts n_X5 hown hK hP 0 rfl rfl 3 (by decide) f_48 (fun _ h9 => h9) rfl dX5_findStrings_35 ?_
    refine z_callVi (ci := 4) (q0 := 14) (As := []) (rest := []) X hK hP hD hA hS hl.1 gX5_findStrings_X4_fewestStrings rfl ⟨rfl, rfl⟩ hd_X4_fewestStrings ⟨Nat.le_of_ble_eq_true rfl, Nat.le_of_ble_eq_true rfl⟩ rfl rfl rfl (Nat.le_of_ble_eq_true rfl) ⟨Nat.zero_le _, Nat.zero_le _⟩ rfl dX5_findStrings_38 (c_X4_fewestStrings (tog ka bg ln ns bk) (by omega) (fun x y => tog_b I.ns) hLx) (fun H locs hP hD hS => ?_)
    refine lv_goto (tgt := 52) hx hb dX5_findStrings_41 (by decide) ?_
    exact z_iretR X hK hP hD hS dX5_findStrings_52 (⟨_, _, rfl, by unfold stF; first | (rw [if_pos (by assumption)]; done) | (rw [if_neg (by assumption)]; done), hCx, hLx⟩)

theorem hd_X5_together : yX5_together.cls = RX5 ∧ yX5_together.cls ≠ "java/lang/invoke/MethodHandle" ∧ yX5_together.cls ≠ "java/lang/invoke/VarHandle" ∧ (parseMethodDescriptor yX5_together.desc).map (fun d => d.parameters.length) = some 2 := by decide +kernel
set_option maxHeartbeats 4000000 in
set_option maxRecDepth 100000 in
theorem c_X5_together (I : okS nK st le be te ab bl ka bg ln ns me sc pi re bk) (a : Int) (b : Int) (h : -2147483648 ≤ a ∧ a ≤ 2147483647 ∧ -2147483648 ≤ b ∧ b ≤ 2147483647) : MR l D cy yX5_together wsX5_together ({ frames := 4, cells := 0, slots := 0, locals := 90 } : Room) [.ref (q 0), .int (iI a), .int (iI b)] (wT q cy nK st le be te ab bl ka bg ln ns me sc pi re bk pa lz go ss sm pf mf) (fun r8 w8 => ∃ pa2 : Int → Int, w8 = wT q cy nK st le be te ab bl ka bg ln ns me sc pi re bk pa2 lz go ss sm pf mf ∧ r8 = if (0 ≤ a ∧ a < nK) ∧ (0 ≤ b ∧ b < nK) then (if b < a then (-100002) else (tog ka bg ln ns bk) a b) else (-100001)) := by
  refine MR.ofW (cc := cX5_together) (maxL := 3) (ret := (some .int)) (by decide) rfl (Nat.le_of_ble_eq_true rfl) ?_
  intro p e s m below meth c A ls X hK hP hD hA hS hl
  obtain ⟨hx, hb, hml, hr, hts, hown, hlocks⟩ := id X
  have hl : lv_has ls 3 [(0, .ref (q 0)), (1, .int (iI a)), (2, .int (iI b))] := hl
  have f_25 := hts (Cond.fieldLink RX5 25 "TwoKeys" "board" "LTwoKeys$Board;") (by decide +kernel)
  have k_76 := hts (Cond.constant RX5 76 (-100001)) (by decide +kernel)
  have f_48 := hts (Cond.fieldLink RX5 48 "TwoKeys" "sharing" "LTwoKeys$Sharing;") (by decide +kernel)
  have f_41 := hts (Cond.fieldLink RX5 41 "TwoKeys" "music" "LTwoKeys$Music;") (by decide +kernel)
  have f_19 := hts (Cond.fieldLink RX5 19 "TwoKeys" "bookNow" "I") (by decide +kernel)
  have k_65 := hts (Cond.constant RX5 65 (-100002)) (by decide +kernel)
  have n_X5 : ∀ w ∈ u_ws RX5 TX5 9, w ∈ wsX5_together := by decide +kernel
  have iK := I.nK
  have ibk := I.bk
  have tP : ∀ x y, 0 ≤ (tog ka bg ln ns bk) x y := fun x y => (tog_b I.ns).1
  have tO : ∀ x, (tog ka bg ln ns bk) x x = 0 := fun x => tog_one
  refine lv_aload_n hx hb dX5_together_0 rfl (lv_at hl 0 rfl) ?_
  refine va_get (D := D) (ci := 5) (v := .ref (q 1)) (C := RX5) (T := TX5) (N := 9) hx hb hts n_X5 hown hK hP 0 rfl rfl 0 (by decide) f_25 (fun _ h9 => h9) rfl dX5_together_1 ?_
  refine lv_iload_n hx hb dX5_together_4 rfl (lv_at hl 1 rfl) ?_
  refine z_callVi (ci := 0) (q0 := 1) (As := [.int (iI a)]) (rest := []) X hK hP hD hA hS hl.1 gX5_together_X0_has rfl ⟨rfl, rfl⟩ hd_X0_has ⟨Nat.le_of_ble_eq_true rfl, Nat.le_of_ble_eq_true rfl⟩ rfl rfl rfl (Nat.le_of_ble_eq_true rfl) ⟨Nat.zero_le _, Nat.zero_le _⟩ rfl dX5_together_5 (c_X0_has I a (by omega)) (fun H locs hP hD hS => ?_)
  refine z_ifp_eq (tgt := 22) hx hb dX5_together_8 (by decide) (fun c_1 => ?_) (fun c_1 => ?_)
  · refine z_ldc (n := -100001) hx hb hown k_76 (by decide) dX5_together_22 ?_
    exact z_iretR X hK hP hD hS dX5_together_24 (⟨_, rfl, by (repeat' split) <;> first | rfl | omega⟩)
  · refine lv_aload_n hx hb dX5_together_11 rfl (lv_at hl 0 rfl) ?_
    refine va_get (D := D) (ci := 5) (v := .ref (q 1)) (C := RX5) (T := TX5) (N := 9) hx hb hts n_X5 hown hK hP 0 rfl rfl 0 (by decide) f_25 (fun _ h9 => h9) rfl dX5_together_12 ?_
    refine lv_iload_n hx hb dX5_together_15 rfl (lv_at hl 2 rfl) ?_
    refine z_callVi (ci := 0) (q0 := 1) (As := [.int (iI b)]) (rest := []) X hK hP hD hA hS hl.1 gX5_together_X0_has rfl ⟨rfl, rfl⟩ hd_X0_has ⟨Nat.le_of_ble_eq_true rfl, Nat.le_of_ble_eq_true rfl⟩ rfl rfl rfl (Nat.le_of_ble_eq_true rfl) ⟨Nat.zero_le _, Nat.zero_le _⟩ rfl dX5_together_16 (c_X0_has I b (by omega)) (fun H locs hP hD hS => ?_)
    refine z_ifp_ne (tgt := 25) hx hb dX5_together_19 (by decide) (fun c_2 => ?_) (fun c_2 => ?_)
    · refine lv_iload_n hx hb dX5_together_25 rfl (lv_at hl 2 rfl) ?_
      refine lv_iload_n hx hb dX5_together_26 rfl (lv_at hl 1 rfl) ?_
      refine z_icmp_ge (tgt := 33) hx hb dX5_together_27 (by decide) (by omega) (fun c_3 => ?_) (fun c_3 => ?_)
      · refine lv_aload_n hx hb dX5_together_33 rfl (lv_at hl 0 rfl) ?_
        refine va_get (D := D) (ci := 5) (v := .ref (q 14)) (C := RX5) (T := TX5) (N := 9) hx hb hts n_X5 hown hK hP 0 rfl rfl 3 (by decide) f_48 (fun _ h9 => h9) rfl dX5_together_34 ?_
        refine lv_aload_n hx hb dX5_together_37 rfl (lv_at hl 0 rfl) ?_
        refine va_get (D := D) (ci := 5) (v := .ref (q 9)) (C := RX5) (T := TX5) (N := 9) hx hb hts n_X5 hown hK hP 0 rfl rfl 2 (by decide) f_41 (fun _ h9 => h9) rfl dX5_together_38 ?_
        refine lv_aload_n hx hb dX5_together_41 rfl (lv_at hl 0 rfl) ?_
        refine va_get (D := D) (ci := 5) (v := .int (iI bk)) (C := RX5) (T := TX5) (N := 9) hx hb hts n_X5 hown hK hP 0 rfl rfl 8 (by decide) f_19 (fun _ h9 => h9) rfl dX5_together_42 ?_
        refine z_callVw (ci := 4) (q0 := 14) (As := [.ref (q 9), .int (iI bk)]) (rest := []) X hK hP hD hA hS hl.1 gX5_together_X4_gather rfl ⟨rfl, rfl⟩ hd_X4_gather ⟨Nat.le_of_ble_eq_true rfl, Nat.le_of_ble_eq_true rfl⟩ rfl rfl rfl (Nat.le_of_ble_eq_true rfl) ⟨Nat.zero_le _, Nat.zero_le _⟩ rfl dX5_together_45 (c_X4_gather I bk (by omega)) (fun w8 H locs hΨ hP hD hS => ?_)
        obtain ⟨pa3_4, rfl, hq_4⟩ := hΨ
        have hCx := clS_tog I.ka hq_4
        refine lv_aload_n hx hb dX5_together_48 rfl (lv_at hl 0 rfl) ?_
        refine va_get (D := D) (ci := 5) (v := .ref (q 14)) (C := RX5) (T := TX5) (N := 9) hx hb hts n_X5 hown hK hP 0 rfl rfl 3 (by decide) f_48 (fun _ h9 => h9) rfl dX5_together_49 ?_
        refine lv_iload_n hx hb dX5_together_52 rfl (lv_at hl 1 rfl) ?_
        refine lv_iload_n hx hb dX5_together_53 rfl (lv_at hl 2 rfl) ?_
        refine z_callVi (ci := 4) (q0 := 14) (As := [.int (iI a), .int (iI b)]) (rest := []) X hK hP hD hA hS hl.1 gX5_together_X4_clashesOf rfl ⟨rfl, rfl⟩ hd_X4_clashesOf ⟨Nat.le_of_ble_eq_true rfl, Nat.le_of_ble_eq_true rfl⟩ rfl rfl rfl (Nat.le_of_ble_eq_true rfl) ⟨Nat.zero_le _, Nat.zero_le _⟩ rfl dX5_together_54 (c_X4_clashesOf a b (by omega)) (fun H locs hP hD hS => ?_)
        have e9 := hCx a b (by omega) (by omega) (by omega)
        exact z_iretR X hK hP hD hS dX5_together_57 (⟨_, rfl, by rw [if_pos (by omega), if_neg (by omega)]; exact e9⟩)
      · refine z_ldc (n := -100002) hx hb hown k_65 (by decide) dX5_together_30 ?_
        exact z_iretR X hK hP hD hS dX5_together_32 (⟨_, rfl, by (repeat' split) <;> first | rfl | omega⟩)
    · refine z_ldc (n := -100001) hx hb hown k_76 (by decide) dX5_together_22 ?_
      exact z_iretR X hK hP hD hS dX5_together_24 (⟨_, rfl, by (repeat' split) <;> first | rfl | omega⟩)

theorem hd_X5_fewest : yX5_fewest.cls = RX5 ∧ yX5_fewest.cls ≠ "java/lang/invoke/MethodHandle" ∧ yX5_fewest.cls ≠ "java/lang/invoke/VarHandle" ∧ (parseMethodDescriptor yX5_fewest.desc).map (fun d => d.parameters.length) = some 1 := by decide +kernel
set_option maxHeartbeats 4000000 in
set_option maxRecDepth 100000 in
theorem c_X5_fewest (I : okS nK st le be te ab bl ka bg ln ns me sc pi re bk) (m9 : Int) (h : -2147483648 ≤ m9 ∧ m9 ≤ 2147483647) : MR l D cy yX5_fewest wsX5_fewest ({ frames := 5, cells := 0, slots := 0, locals := 112 } : Room) [.ref (q 0), .int (iI m9)] (wT q cy nK st le be te ab bl ka bg ln ns me sc pi re bk pa lz go ss sm pf mf) (fun r8 w8 => ∃ pa2 : Int → Int, ∃ lz2 : Int → Int, ∃ ss2 : Int, ∃ sm2 : Int, w8 = wT q cy nK st le be te ab bl ka bg ln ns me sc pi re bk pa2 lz2 go ss2 sm2 pf mf ∧ r8 = if 1 ≤ m9 ∧ m9 ≤ 6 then stF (tog ka bg ln ns bk) nK m9 0 else (-100002)) := by
  refine MR.ofW (cc := cX5_fewest) (maxL := 2) (ret := (some .int)) (by decide) rfl (Nat.le_of_ble_eq_true rfl) ?_
  intro p e s m below meth c A ls X hK hP hD hA hS hl
  obtain ⟨hx, hb, hml, hr, hts, hown, hlocks⟩ := id X
  have hl : lv_has ls 2 [(0, .ref (q 0)), (1, .int (iI m9))] := hl
  have k_65 := hts (Cond.constant RX5 65 (-100002)) (by decide +kernel)
  have iK := I.nK
  refine lv_iload_n hx hb dX5_fewest_0 rfl (lv_at hl 1 rfl) ?_
  refine z_callSi (As := [.int (iI m9)]) (rest := []) X hK hP hD hA hS hl.1 gX5_fewest_X5_isMost rfl ⟨rfl, rfl⟩ hd_X5_isMost ⟨Nat.le_of_ble_eq_true rfl, Nat.le_of_ble_eq_true rfl⟩ rfl (Nat.le_of_ble_eq_true rfl) ⟨Nat.zero_le _, Nat.zero_le _⟩ rfl dX5_fewest_1 (c_X5_isMost m9 (by omega)) (fun H locs hP hD hS => ?_)
  refine z_ifp_ne (tgt := 10) hx hb dX5_fewest_4 (by decide) (fun c_1 => ?_) (fun c_1 => ?_)
  · refine lv_aload_n hx hb dX5_fewest_10 rfl (lv_at hl 0 rfl) ?_
    refine lv_iload_n hx hb dX5_fewest_11 rfl (lv_at hl 1 rfl) ?_
    refine lv_iconst (v := iI (0)) hx hb dX5_fewest_12 rfl ?_
    refine z_callVr (ci := 5) (q0 := 0) (As := [.int (iI m9), .int (iI 0)]) (rest := []) X hK hP hD hA hS hl.1 gX5_fewest_X5_findStrings rfl ⟨rfl, rfl⟩ hd_X5_findStrings ⟨Nat.le_of_ble_eq_true rfl, Nat.le_of_ble_eq_true rfl⟩ rfl rfl rfl (Nat.le_of_ble_eq_true rfl) ⟨Nat.zero_le _, Nat.zero_le _⟩ rfl dX5_fewest_13 (c_X5_findStrings I m9 0 (by omega)) (fun r8 w8 H locs hΨ hP hD hS => ?_)
    obtain ⟨pa2_2, lz2_2, rfl, rfl, hq_2⟩ := hΨ
    exact z_iretR X hK hP hD hS dX5_fewest_16 (⟨_, _, _, _, rfl, by (repeat' split) <;> first | rfl | omega⟩)
  · refine z_ldc (n := -100002) hx hb hown k_65 (by decide) dX5_fewest_7 ?_
    exact z_iretR X hK hP hD hS dX5_fewest_9 (⟨_, _, _, _, rfl, by (repeat' split) <;> first | rfl | omega⟩)

theorem hd_X5_least : yX5_least.cls = RX5 ∧ yX5_least.cls ≠ "java/lang/invoke/MethodHandle" ∧ yX5_least.cls ≠ "java/lang/invoke/VarHandle" ∧ (parseMethodDescriptor yX5_least.desc).map (fun d => d.parameters.length) = some 2 := by decide +kernel
set_option maxHeartbeats 4000000 in
set_option maxRecDepth 100000 in
theorem c_X5_least (I : okS nK st le be te ab bl ka bg ln ns me sc pi re bk) (m9 : Int) (s9 : Int) (h : -2147483648 ≤ m9 ∧ m9 ≤ 2147483647 ∧ -2147483648 ≤ s9 ∧ s9 ≤ 2147483647) : MR l D cy yX5_least wsX5_least ({ frames := 5, cells := 0, slots := 0, locals := 112 } : Room) [.ref (q 0), .int (iI m9), .int (iI s9)] (wT q cy nK st le be te ab bl ka bg ln ns me sc pi re bk pa lz go ss sm pf mf) (fun r8 w8 => ∃ pa2 : Int → Int, ∃ lz2 : Int → Int, ∃ ss2 : Int, ∃ sm2 : Int, w8 = wT q cy nK st le be te ab bl ka bg ln ns me sc pi re bk pa2 lz2 go ss2 sm2 pf mf ∧ r8 = if (1 ≤ m9 ∧ m9 ≤ 6) ∧ (1 ≤ s9 ∧ s9 ≤ 24) then (if stF (tog ka bg ln ns bk) nK m9 s9 = -100009 then (-100009) else dp (tog ka bg ln ns bk) nK m9 (stF (tog ka bg ln ns bk) nK m9 s9) 0) else (-100002)) := by
  refine MR.ofW (cc := cX5_least) (maxL := 4) (ret := (some .int)) (by decide) rfl (Nat.le_of_ble_eq_true rfl) ?_
  intro p e s m below meth c A ls X hK hP hD hA hS hl
  obtain ⟨hx, hb, hml, hr, hts, hown, hlocks⟩ := id X
  have hl : lv_has ls 4 [(0, .ref (q 0)), (1, .int (iI m9)), (2, .int (iI s9))] := hl
  have k_65 := hts (Cond.constant RX5 65 (-100002)) (by decide +kernel)
  have k_196 := hts (Cond.constant RX5 196 (-100009)) (by decide +kernel)
  have f_48 := hts (Cond.fieldLink RX5 48 "TwoKeys" "sharing" "LTwoKeys$Sharing;") (by decide +kernel)
  have n_X5 : ∀ w ∈ u_ws RX5 TX5 9, w ∈ wsX5_least := by decide +kernel
  have iK := I.nK
  have ibk := I.bk
  have tP : ∀ x y, 0 ≤ (tog ka bg ln ns bk) x y := fun x y => (tog_b I.ns).1
  have tO : ∀ x, (tog ka bg ln ns bk) x x = 0 := fun x => tog_one
  refine lv_iload_n hx hb dX5_least_0 rfl (lv_at hl 1 rfl) ?_
  refine z_callSi (As := [.int (iI m9)]) (rest := []) X hK hP hD hA hS hl.1 gX5_least_X5_isMost rfl ⟨rfl, rfl⟩ hd_X5_isMost ⟨Nat.le_of_ble_eq_true rfl, Nat.le_of_ble_eq_true rfl⟩ rfl (Nat.le_of_ble_eq_true rfl) ⟨Nat.zero_le _, Nat.zero_le _⟩ rfl dX5_least_1 (c_X5_isMost m9 (by omega)) (fun H locs hP hD hS => ?_)
  refine z_ifp_eq (tgt := 17) hx hb dX5_least_4 (by decide) (fun c_1 => ?_) (fun c_1 => ?_)
  · refine z_ldc (n := -100002) hx hb hown k_65 (by decide) dX5_least_17 ?_
    exact z_iretR X hK hP hD hS dX5_least_19 (⟨_, _, _, _, rfl, by (repeat' split) <;> first | rfl | omega⟩)
  · refine lv_iload_n hx hb dX5_least_7 rfl (lv_at hl 2 rfl) ?_
    refine lv_iconst (v := iI (1)) hx hb dX5_least_8 rfl ?_
    refine lv_bipush (v := iI (24)) hx hb dX5_least_9 (by decide) ?_
    refine z_callSi (As := [.int (iI s9), .int (iI 1), .int (iI 24)]) (rest := []) X hK hP hD hA hS hl.1 gX5_least_X5_within rfl ⟨rfl, rfl⟩ hd_X5_within ⟨Nat.le_of_ble_eq_true rfl, Nat.le_of_ble_eq_true rfl⟩ rfl (Nat.le_of_ble_eq_true rfl) ⟨Nat.zero_le _, Nat.zero_le _⟩ rfl dX5_least_11 (c_X5_within s9 1 24 (by omega)) (fun H locs hP hD hS => ?_)
    refine z_ifp_ne (tgt := 20) hx hb dX5_least_14 (by decide) (fun c_2 => ?_) (fun c_2 => ?_)
    · refine lv_aload_n hx hb dX5_least_20 rfl (lv_at hl 0 rfl) ?_
      refine lv_iload_n hx hb dX5_least_21 rfl (lv_at hl 1 rfl) ?_
      refine lv_iload_n hx hb dX5_least_22 rfl (lv_at hl 2 rfl) ?_
      refine z_callVr (ci := 5) (q0 := 0) (As := [.int (iI m9), .int (iI s9)]) (rest := []) X hK hP hD hA hS hl.1 gX5_least_X5_findStrings rfl ⟨rfl, rfl⟩ hd_X5_findStrings ⟨Nat.le_of_ble_eq_true rfl, Nat.le_of_ble_eq_true rfl⟩ rfl rfl rfl (Nat.le_of_ble_eq_true rfl) ⟨Nat.zero_le _, Nat.zero_le _⟩ rfl dX5_least_23 (c_X5_findStrings I m9 s9 (by omega)) (fun r8 w8 H locs hΨ hP hD hS => ?_)
      obtain ⟨pa2_3, lz2_3, rfl, rfl, hq_3⟩ := hΨ
      have sb := stF_b (C := (tog ka bg ln ns bk)) (n := nK) (m := m9) (s := s9) tP tO (by omega) (by omega) (by omega)
      have hq9 := hq_3
      refine lv_istore_n (lv' := [(3, .int (iI (stF (tog ka bg ln ns bk) nK m9 s9))), (0, .ref (q 0)), (1, .int (iI m9)), (2, .int (iI s9))]) hx hb dX5_least_26 rfl hl (by decide) rfl (fun ls hl => ?_)
      refine lv_iload_n hx hb dX5_least_27 rfl (lv_at hl 0 rfl) ?_
      refine z_ldc (n := -100009) hx hb hown k_196 (by decide) dX5_least_28 ?_
      refine z_icmp_ne (tgt := 38) hx hb dX5_least_30 (by decide) (by omega) (fun c_4 => ?_) (fun c_4 => ?_)
      · refine lv_aload_n hx hb dX5_least_38 rfl (lv_at hl 1 rfl) ?_
        refine va_get (D := D) (ci := 5) (v := .ref (q 14)) (C := RX5) (T := TX5) (N := 9) hx hb hts n_X5 hown hK hP 0 rfl rfl 3 (by decide) f_48 (fun _ h9 => h9) rfl dX5_least_39 ?_
        refine lv_iload_n hx hb dX5_least_42 rfl (lv_at hl 0 rfl) ?_
        refine z_callVi (ci := 4) (q0 := 14) (As := [.int (iI (stF (tog ka bg ln ns bk) nK m9 s9))]) (rest := []) X hK hP hD hA hS hl.1 gX5_least_X4_leastWith rfl ⟨rfl, rfl⟩ hd_X4_leastWith ⟨Nat.le_of_ble_eq_true rfl, Nat.le_of_ble_eq_true rfl⟩ rfl rfl rfl (Nat.le_of_ble_eq_true rfl) ⟨Nat.zero_le _, Nat.zero_le _⟩ rfl dX5_least_43 (c_X4_leastWith (stF (tog ka bg ln ns bk) nK m9 s9) (by omega)) (fun H locs hP hD hS => ?_)
        have e9 := hq9.2 (stF (tog ka bg ln ns bk) nK m9 s9) 0 (by omega) (by omega) (by omega) (by omega)
        rw [Int.add_zero] at e9
        exact z_iretR X hK hP hD hS dX5_least_46 (⟨_, _, _, _, rfl, by rw [if_pos (by omega)]; first | (rw [if_pos (by assumption)]; done) | (rw [if_neg (by assumption)]; exact e9)⟩)
      · refine z_ldc (n := -100009) hx hb hown k_196 (by decide) dX5_least_33 ?_
        refine lv_goto (tgt := 46) hx hb dX5_least_35 (by decide) ?_
        exact z_iretR X hK hP hD hS dX5_least_46 (⟨_, _, _, _, rfl, by rw [if_pos (by omega)]; first | (rw [if_pos (by assumption)]; done) | (rw [if_neg (by assumption)]; exact e9)⟩)
    · refine z_ldc (n := -100002) hx hb hown k_65 (by decide) dX5_least_17 ?_
      exact z_iretR X hK hP hD hS dX5_least_19 (⟨_, _, _, _, rfl, by (repeat' split) <;> first | rfl | omega⟩)

theorem hd_X5_group : yX5_group.cls = RX5 ∧ yX5_group.cls ≠ "java/lang/invoke/MethodHandle" ∧ yX5_group.cls ≠ "java/lang/invoke/VarHandle" ∧ (parseMethodDescriptor yX5_group.desc).map (fun d => d.parameters.length) = some 3 := by decide +kernel
set_option maxHeartbeats 4000000 in
set_option maxRecDepth 100000 in
theorem c_X5_group (I : okS nK st le be te ab bl ka bg ln ns me sc pi re bk) (m9 : Int) (s9 : Int) (k : Int) (h : -2147483648 ≤ m9 ∧ m9 ≤ 2147483647 ∧ -2147483648 ≤ s9 ∧ s9 ≤ 2147483647 ∧ -2147483648 ≤ k ∧ k ≤ 2147483647) : MR l D cy yX5_group wsX5_group ({ frames := 5, cells := 0, slots := 0, locals := 112 } : Room) [.ref (q 0), .int (iI m9), .int (iI s9), .int (iI k)] (wT q cy nK st le be te ab bl ka bg ln ns me sc pi re bk pa lz go ss sm pf mf) (fun r8 w8 => ∃ pa2 : Int → Int, ∃ lz2 : Int → Int, ∃ ss2 : Int, ∃ sm2 : Int, ∃ go2 : Int → Int, w8 = wT q cy nK st le be te ab bl ka bg ln ns me sc pi re bk pa2 lz2 go2 ss2 sm2 pf mf ∧ r8 = if 0 ≤ k ∧ k < nK then (if (1 ≤ m9 ∧ m9 ≤ 6) ∧ (0 ≤ s9 ∧ s9 ≤ 24) then (if stF (tog ka bg ln ns bk) nK m9 s9 = -100009 then (-100009) else gF (tog ka bg ln ns bk) nK m9 (stF (tog ka bg ln ns bk) nK m9 s9) k) else (-100002)) else (-100001)) := by
  refine MR.ofW (cc := cX5_group) (maxL := 5) (ret := (some .int)) (by decide) rfl (Nat.le_of_ble_eq_true rfl) ?_
  intro p e s m below meth c A ls X hK hP hD hA hS hl
  obtain ⟨hx, hb, hml, hr, hts, hown, hlocks⟩ := id X
  have hl : lv_has ls 5 [(0, .ref (q 0)), (1, .int (iI m9)), (2, .int (iI s9)), (3, .int (iI k))] := hl
  have f_25 := hts (Cond.fieldLink RX5 25 "TwoKeys" "board" "LTwoKeys$Board;") (by decide +kernel)
  have k_65 := hts (Cond.constant RX5 65 (-100002)) (by decide +kernel)
  have k_196 := hts (Cond.constant RX5 196 (-100009)) (by decide +kernel)
  have f_48 := hts (Cond.fieldLink RX5 48 "TwoKeys" "sharing" "LTwoKeys$Sharing;") (by decide +kernel)
  have f_203 := hts (Cond.fieldLink RX5 203 "TwoKeys$Sharing" "groupOf" "[I") (by decide +kernel)
  have k_76 := hts (Cond.constant RX5 76 (-100001)) (by decide +kernel)
  have n_X4 : ∀ w ∈ u_ws RX4 TX4 5, w ∈ wsX5_group := by decide +kernel
  have n_X5 : ∀ w ∈ u_ws RX5 TX5 9, w ∈ wsX5_group := by decide +kernel
  have iK := I.nK
  have ibk := I.bk
  have tP : ∀ x y, 0 ≤ (tog ka bg ln ns bk) x y := fun x y => (tog_b I.ns).1
  have tO : ∀ x, (tog ka bg ln ns bk) x x = 0 := fun x => tog_one
  refine lv_aload_n hx hb dX5_group_0 rfl (lv_at hl 0 rfl) ?_
  refine va_get (D := D) (ci := 5) (v := .ref (q 1)) (C := RX5) (T := TX5) (N := 9) hx hb hts n_X5 hown hK hP 0 rfl rfl 0 (by decide) f_25 (fun _ h9 => h9) rfl dX5_group_1 ?_
  refine lv_iload_n hx hb dX5_group_4 rfl (lv_at hl 3 rfl) ?_
  refine z_callVi (ci := 0) (q0 := 1) (As := [.int (iI k)]) (rest := []) X hK hP hD hA hS hl.1 gX5_group_X0_has rfl ⟨rfl, rfl⟩ hd_X0_has ⟨Nat.le_of_ble_eq_true rfl, Nat.le_of_ble_eq_true rfl⟩ rfl rfl rfl (Nat.le_of_ble_eq_true rfl) ⟨Nat.zero_le _, Nat.zero_le _⟩ rfl dX5_group_5 (c_X0_has I k (by omega)) (fun H locs hP hD hS => ?_)
  refine z_ifp_ne (tgt := 14) hx hb dX5_group_8 (by decide) (fun c_1 => ?_) (fun c_1 => ?_)
  · refine lv_iload_n hx hb dX5_group_14 rfl (lv_at hl 1 rfl) ?_
    refine z_callSi (As := [.int (iI m9)]) (rest := []) X hK hP hD hA hS hl.1 gX5_group_X5_isMost rfl ⟨rfl, rfl⟩ hd_X5_isMost ⟨Nat.le_of_ble_eq_true rfl, Nat.le_of_ble_eq_true rfl⟩ rfl (Nat.le_of_ble_eq_true rfl) ⟨Nat.zero_le _, Nat.zero_le _⟩ rfl dX5_group_15 (c_X5_isMost m9 (by omega)) (fun H locs hP hD hS => ?_)
    refine z_ifp_eq (tgt := 31) hx hb dX5_group_18 (by decide) (fun c_2 => ?_) (fun c_2 => ?_)
    · refine z_ldc (n := -100002) hx hb hown k_65 (by decide) dX5_group_31 ?_
      exact z_iretR X hK hP hD hS dX5_group_33 (⟨_, _, _, _, _, rfl, by (repeat' split) <;> first | rfl | omega⟩)
    · refine lv_iload_n hx hb dX5_group_21 rfl (lv_at hl 2 rfl) ?_
      refine lv_iconst (v := iI (0)) hx hb dX5_group_22 rfl ?_
      refine lv_bipush (v := iI (24)) hx hb dX5_group_23 (by decide) ?_
      refine z_callSi (As := [.int (iI s9), .int (iI 0), .int (iI 24)]) (rest := []) X hK hP hD hA hS hl.1 gX5_group_X5_within rfl ⟨rfl, rfl⟩ hd_X5_within ⟨Nat.le_of_ble_eq_true rfl, Nat.le_of_ble_eq_true rfl⟩ rfl (Nat.le_of_ble_eq_true rfl) ⟨Nat.zero_le _, Nat.zero_le _⟩ rfl dX5_group_25 (c_X5_within s9 0 24 (by omega)) (fun H locs hP hD hS => ?_)
      refine z_ifp_ne (tgt := 34) hx hb dX5_group_28 (by decide) (fun c_3 => ?_) (fun c_3 => ?_)
      · refine lv_aload_n hx hb dX5_group_34 rfl (lv_at hl 0 rfl) ?_
        refine lv_iload_n hx hb dX5_group_35 rfl (lv_at hl 1 rfl) ?_
        refine lv_iload_n hx hb dX5_group_36 rfl (lv_at hl 2 rfl) ?_
        refine z_callVr (ci := 5) (q0 := 0) (As := [.int (iI m9), .int (iI s9)]) (rest := []) X hK hP hD hA hS hl.1 gX5_group_X5_findStrings rfl ⟨rfl, rfl⟩ hd_X5_findStrings ⟨Nat.le_of_ble_eq_true rfl, Nat.le_of_ble_eq_true rfl⟩ rfl rfl rfl (Nat.le_of_ble_eq_true rfl) ⟨Nat.zero_le _, Nat.zero_le _⟩ rfl dX5_group_37 (c_X5_findStrings I m9 s9 (by omega)) (fun r8 w8 H locs hΨ hP hD hS => ?_)
        obtain ⟨pa2_4, lz2_4, rfl, rfl, hq_4⟩ := hΨ
        have sb := stF_b (C := (tog ka bg ln ns bk)) (n := nK) (m := m9) (s := s9) tP tO (by omega) (by omega) (by omega)
        have hq9 := hq_4
        refine lv_istore (lv' := [(4, .int (iI (stF (tog ka bg ln ns bk) nK m9 s9))), (0, .ref (q 0)), (1, .int (iI m9)), (2, .int (iI s9)), (3, .int (iI k))]) hx hb dX5_group_40 hl (by decide) rfl (fun ls hl => ?_)
        refine lv_iload hx hb dX5_group_42 (lv_at hl 0 rfl) ?_
        refine z_ldc (n := -100009) hx hb hown k_196 (by decide) dX5_group_44 ?_
        refine z_icmp_ne (tgt := 52) hx hb dX5_group_46 (by decide) (by omega) (fun c_5 => ?_) (fun c_5 => ?_)
        · refine lv_aload_n hx hb dX5_group_52 rfl (lv_at hl 1 rfl) ?_
          refine va_get (D := D) (ci := 5) (v := .ref (q 14)) (C := RX5) (T := TX5) (N := 9) hx hb hts n_X5 hown hK hP 0 rfl rfl 3 (by decide) f_48 (fun _ h9 => h9) rfl dX5_group_53 ?_
          refine lv_iload hx hb dX5_group_56 (lv_at hl 0 rfl) ?_
          refine z_callVw (ci := 4) (q0 := 14) (As := [.int (iI (stF (tog ka bg ln ns bk) nK m9 s9))]) (rest := []) X hK hP hD hA hS hl.1 gX5_group_X4_layOut rfl ⟨rfl, rfl⟩ hd_X4_layOut ⟨Nat.le_of_ble_eq_true rfl, Nat.le_of_ble_eq_true rfl⟩ rfl rfl rfl (Nat.le_of_ble_eq_true rfl) ⟨Nat.zero_le _, Nat.zero_le _⟩ rfl dX5_group_58 (c_X4_layOut (stF (tog ka bg ln ns bk) nK m9 s9) (tog ka bg ln ns bk) (by omega) (by omega) (by omega) hq9.1 (fun x y => tog_b I.ns) hq9.2) (fun w8 H locs hΨ hP hD hS => ?_)
          obtain ⟨go3_6, rfl, hq_6⟩ := hΨ
          have hg9 := hq_6
          refine lv_aload_n hx hb dX5_group_61 rfl (lv_at hl 1 rfl) ?_
          refine va_get (D := D) (ci := 5) (v := .ref (q 14)) (C := RX5) (T := TX5) (N := 9) hx hb hts n_X5 hown hK hP 0 rfl rfl 3 (by decide) f_48 (fun _ h9 => h9) rfl dX5_group_62 ?_
          refine va_get (D := D) (ci := 4) (v := .ref (q 17)) (C := RX4) (T := TX4) (N := 5) hx hb hts n_X4 hown hK hP 14 rfl rfl 2 (by decide) f_203 (fun _ h9 => h9) rfl dX5_group_65 ?_
          refine lv_iload_n hx hb dX5_group_68 rfl (lv_at hl 4 rfl) ?_
          refine z_iald hx hb hK hP 17 0 rfl rfl (by omega) dX5_group_69 ?_
          exact z_iretR X hK hP hD hS dX5_group_70 (⟨_, _, _, _, _, rfl, by rw [if_pos (by omega), if_pos (by omega), if_neg (by assumption)]; exact gF_go tP (by omega) (by omega) (by omega) (by omega) hg9⟩)
        · refine z_ldc (n := -100009) hx hb hown k_196 (by decide) dX5_group_49 ?_
          exact z_iretR X hK hP hD hS dX5_group_51 (⟨_, _, _, _, _, rfl, by rw [if_pos (by omega), if_pos (by omega), if_pos (by assumption)]⟩)
      · refine z_ldc (n := -100002) hx hb hown k_65 (by decide) dX5_group_31 ?_
        exact z_iretR X hK hP hD hS dX5_group_33 (⟨_, _, _, _, _, rfl, by (repeat' split) <;> first | rfl | omega⟩)
  · refine z_ldc (n := -100001) hx hb hown k_76 (by decide) dX5_group_11 ?_
    exact z_iretR X hK hP hD hS dX5_group_13 (⟨_, _, _, _, _, rfl, by (repeat' split) <;> first | rfl | omega⟩)

theorem hd_X5_setUp : yX5_setUp.cls = RX5 ∧ yX5_setUp.cls ≠ "java/lang/invoke/MethodHandle" ∧ yX5_setUp.cls ≠ "java/lang/invoke/VarHandle" ∧ (parseMethodDescriptor yX5_setUp.desc).map (fun d => d.parameters.length) = some 2 := by decide +kernel
set_option maxHeartbeats 4000000 in
set_option maxRecDepth 100000 in
theorem c_X5_setUp_no (I : okS nK st le be te ab bl ka bg ln ns me sc pi re bk) (m9 : Int) (s9 : Int) (h : -2147483648 ≤ m9 ∧ m9 ≤ 2147483647 ∧ -2147483648 ≤ s9 ∧ s9 ≤ 2147483647) (hno : ¬ ((1 ≤ m9 ∧ m9 ≤ 6) ∧ (0 ≤ s9 ∧ s9 ≤ 24))) : MI l D cy yX5_setUp wsX5_setUp ({ frames := 2, cells := 0, slots := 0, locals := 42 } : Room) [.ref (q 0), .int (iI m9), .int (iI s9)] (wT q cy nK st le be te ab bl ka bg ln ns me sc pi re bk pa lz go ss sm pf mf) (-100002) (wT q cy nK st le be te ab bl ka bg ln ns me sc pi re bk pa lz go ss sm pf mf) := by
  refine MI.ofW (cc := cX5_setUp) (maxL := 5) (ret := (some .int)) (by decide) rfl (Nat.le_of_ble_eq_true rfl) ?_
  intro p e s m below meth c A ls X hK hP hD hA hS hl
  obtain ⟨hx, hb, hml, hr, hts, hown, hlocks⟩ := id X
  have hl : lv_has ls 5 [(0, .ref (q 0)), (1, .int (iI m9)), (2, .int (iI s9))] := hl
  have k_65 := hts (Cond.constant RX5 65 (-100002)) (by decide +kernel)
  have iK := I.nK
  refine lv_iload_n hx hb dX5_setUp_0 rfl (lv_at hl 1 rfl) ?_
  refine z_callSi (As := [.int (iI m9)]) (rest := []) X hK hP hD hA hS hl.1 gX5_setUp_X5_isMost rfl ⟨rfl, rfl⟩ hd_X5_isMost ⟨Nat.le_of_ble_eq_true rfl, Nat.le_of_ble_eq_true rfl⟩ rfl (Nat.le_of_ble_eq_true rfl) ⟨Nat.zero_le _, Nat.zero_le _⟩ rfl dX5_setUp_1 (c_X5_isMost m9 (by omega)) (fun H locs hP hD hS => ?_)
  refine z_ifp_eq (tgt := 17) hx hb dX5_setUp_4 (by decide) (fun c_1 => ?_) (fun c_1 => ?_)
  · refine z_ldc (n := -100002) hx hb hown k_65 (by decide) dX5_setUp_17 ?_
    exact z_iret X hK hP hD hS dX5_setUp_19 (by first | rfl | omega | grind)
  · refine lv_iload_n hx hb dX5_setUp_7 rfl (lv_at hl 2 rfl) ?_
    refine lv_iconst (v := iI (0)) hx hb dX5_setUp_8 rfl ?_
    refine lv_bipush (v := iI (24)) hx hb dX5_setUp_9 (by decide) ?_
    refine z_callSi (As := [.int (iI s9), .int (iI 0), .int (iI 24)]) (rest := []) X hK hP hD hA hS hl.1 gX5_setUp_X5_within rfl ⟨rfl, rfl⟩ hd_X5_within ⟨Nat.le_of_ble_eq_true rfl, Nat.le_of_ble_eq_true rfl⟩ rfl (Nat.le_of_ble_eq_true rfl) ⟨Nat.zero_le _, Nat.zero_le _⟩ rfl dX5_setUp_11 (c_X5_within s9 0 24 (by omega)) (fun H locs hP hD hS => ?_)
    refine z_ifp_ne (tgt := 20) hx hb dX5_setUp_14 (by decide) (fun c_2 => ?_) (fun c_2 => ?_)
    · exact absurd c_2 (by omega)
    · refine z_ldc (n := -100002) hx hb hown k_65 (by decide) dX5_setUp_17 ?_
      exact z_iret X hK hP hD hS dX5_setUp_19 (by first | rfl | omega | grind)

set_option maxHeartbeats 4000000 in
set_option maxRecDepth 100000 in
theorem c_X5_setUp_none (I : okS nK st le be te ab bl ka bg ln ns me sc pi re bk) (m9 : Int) (s9 : Int) (h : -2147483648 ≤ m9 ∧ m9 ≤ 2147483647 ∧ -2147483648 ≤ s9 ∧ s9 ≤ 2147483647) (hok : (1 ≤ m9 ∧ m9 ≤ 6) ∧ (0 ≤ s9 ∧ s9 ≤ 24)) (hn : stF (tog ka bg ln ns bk) nK m9 s9 = -100009) : MR l D cy yX5_setUp wsX5_setUp ({ frames := 5, cells := 0, slots := 0, locals := 112 } : Room) [.ref (q 0), .int (iI m9), .int (iI s9)] (wT q cy nK st le be te ab bl ka bg ln ns me sc pi re bk pa lz go ss sm pf mf) (fun r8 w8 => ∃ pa2 : Int → Int, ∃ lz2 : Int → Int, ∃ ss2 : Int, ∃ sm2 : Int, ∃ go2 : Int → Int, w8 = wT q cy nK st le be te ab bl ka bg ln ns me sc pi re bk pa2 lz2 go2 ss2 sm2 pf mf ∧ r8 = (-100009)) := by
  refine MR.ofW (cc := cX5_setUp) (maxL := 5) (ret := (some .int)) (by decide) rfl (Nat.le_of_ble_eq_true rfl) ?_
  intro p e s m below meth c A ls X hK hP hD hA hS hl
  obtain ⟨hx, hb, hml, hr, hts, hown, hlocks⟩ := id X
  have hl : lv_has ls 5 [(0, .ref (q 0)), (1, .int (iI m9)), (2, .int (iI s9))] := hl
  have k_196 := hts (Cond.constant RX5 196 (-100009)) (by decide +kernel)
  have iK := I.nK
  have ibk := I.bk
  have tP : ∀ x y, 0 ≤ (tog ka bg ln ns bk) x y := fun x y => (tog_b I.ns).1
  have tO : ∀ x, (tog ka bg ln ns bk) x x = 0 := fun x => tog_one
  refine lv_iload_n hx hb dX5_setUp_0 rfl (lv_at hl 1 rfl) ?_
  refine z_callSi (As := [.int (iI m9)]) (rest := []) X hK hP hD hA hS hl.1 gX5_setUp_X5_isMost rfl ⟨rfl, rfl⟩ hd_X5_isMost ⟨Nat.le_of_ble_eq_true rfl, Nat.le_of_ble_eq_true rfl⟩ rfl (Nat.le_of_ble_eq_true rfl) ⟨Nat.zero_le _, Nat.zero_le _⟩ rfl dX5_setUp_1 (c_X5_isMost m9 (by omega)) (fun H locs hP hD hS => ?_)
  refine z_ifp_eq (tgt := 17) hx hb dX5_setUp_4 (by decide) (fun c_1 => ?_) (fun c_1 => ?_)
  · exact absurd c_1 (by omega)
  · refine lv_iload_n hx hb dX5_setUp_7 rfl (lv_at hl 2 rfl) ?_
    refine lv_iconst (v := iI (0)) hx hb dX5_setUp_8 rfl ?_
    refine lv_bipush (v := iI (24)) hx hb dX5_setUp_9 (by decide) ?_
    refine z_callSi (As := [.int (iI s9), .int (iI 0), .int (iI 24)]) (rest := []) X hK hP hD hA hS hl.1 gX5_setUp_X5_within rfl ⟨rfl, rfl⟩ hd_X5_within ⟨Nat.le_of_ble_eq_true rfl, Nat.le_of_ble_eq_true rfl⟩ rfl (Nat.le_of_ble_eq_true rfl) ⟨Nat.zero_le _, Nat.zero_le _⟩ rfl dX5_setUp_11 (c_X5_within s9 0 24 (by omega)) (fun H locs hP hD hS => ?_)
    refine z_ifp_ne (tgt := 20) hx hb dX5_setUp_14 (by decide) (fun c_2 => ?_) (fun c_2 => ?_)
    · refine lv_aload_n hx hb dX5_setUp_20 rfl (lv_at hl 0 rfl) ?_
      refine lv_iload_n hx hb dX5_setUp_21 rfl (lv_at hl 1 rfl) ?_
      refine lv_iload_n hx hb dX5_setUp_22 rfl (lv_at hl 2 rfl) ?_
      refine z_callVr (ci := 5) (q0 := 0) (As := [.int (iI m9), .int (iI s9)]) (rest := []) X hK hP hD hA hS hl.1 gX5_setUp_X5_findStrings rfl ⟨rfl, rfl⟩ hd_X5_findStrings ⟨Nat.le_of_ble_eq_true rfl, Nat.le_of_ble_eq_true rfl⟩ rfl rfl rfl (Nat.le_of_ble_eq_true rfl) ⟨Nat.zero_le _, Nat.zero_le _⟩ rfl dX5_setUp_23 (c_X5_findStrings I m9 s9 (by omega)) (fun r8 w8 H locs hΨ hP hD hS => ?_)
      obtain ⟨pa2_3, lz2_3, rfl, rfl, hq_3⟩ := hΨ
      have sb := stF_b (C := (tog ka bg ln ns bk)) (n := nK) (m := m9) (s := s9) tP tO (by omega) (by omega) (by omega)
      have hq9 := hq_3
      refine lv_istore_n (lv' := [(3, .int (iI (stF (tog ka bg ln ns bk) nK m9 s9))), (0, .ref (q 0)), (1, .int (iI m9)), (2, .int (iI s9))]) hx hb dX5_setUp_26 rfl hl (by decide) rfl (fun ls hl => ?_)
      refine lv_iload_n hx hb dX5_setUp_27 rfl (lv_at hl 0 rfl) ?_
      refine z_ldc (n := -100009) hx hb hown k_196 (by decide) dX5_setUp_28 ?_
      refine z_icmp_ne (tgt := 36) hx hb dX5_setUp_30 (by decide) (by omega) (fun c_4 => ?_) (fun c_4 => ?_)
      · exact absurd c_4 (by omega)
      · refine z_ldc (n := -100009) hx hb hown k_196 (by decide) dX5_setUp_33 ?_
        exact z_iretR X hK hP hD hS dX5_setUp_35 (⟨_, _, _, _, _, rfl, rfl⟩)
    · exact absurd c_2 (by omega)

set_option maxHeartbeats 4000000 in
set_option maxRecDepth 100000 in
theorem c_X5_setUp_ok (I : okS nK st le be te ab bl ka bg ln ns me sc pi re bk) (m9 : Int) (s9 : Int) (h : -2147483648 ≤ m9 ∧ m9 ≤ 2147483647 ∧ -2147483648 ≤ s9 ∧ s9 ≤ 2147483647) (hok : (1 ≤ m9 ∧ m9 ≤ 6) ∧ (0 ≤ s9 ∧ s9 ≤ 24)) (hn : stF (tog ka bg ln ns bk) nK m9 s9 ≠ -100009) : MR l D cy yX5_setUp wsX5_setUp ({ frames := 5, cells := 0, slots := 0, locals := 112 } : Room) [.ref (q 0), .int (iI m9), .int (iI s9)] (wT q cy nK st le be te ab bl ka bg ln ns me sc pi re bk pa lz go ss sm pf mf) (fun r8 w8 => ∃ pa2 : Int → Int, ∃ lz2 : Int → Int, ∃ ss2 : Int, ∃ sm2 : Int, ∃ go2 : Int → Int, w8 = wT q cy nK (suS (tog ka bg ln ns bk) nK m9 (stF (tog ka bg ln ns bk) nK m9 s9) st nK) le be te ab bl ka bg ln ns me sc pi re bk pa2 lz2 go2 ss2 sm2 pf mf ∧ r8 = stF (tog ka bg ln ns bk) nK m9 s9) := by
  refine MR.ofW (cc := cX5_setUp) (maxL := 5) (ret := (some .int)) (by decide) rfl (Nat.le_of_ble_eq_true rfl) ?_
  intro p e s m below meth c A ls X hK hP hD hA hS hl
  obtain ⟨hx, hb, hml, hr, hts, hown, hlocks⟩ := id X
  have hl : lv_has ls 5 [(0, .ref (q 0)), (1, .int (iI m9)), (2, .int (iI s9))] := hl
  have k_196 := hts (Cond.constant RX5 196 (-100009)) (by decide +kernel)
  have f_48 := hts (Cond.fieldLink RX5 48 "TwoKeys" "sharing" "LTwoKeys$Sharing;") (by decide +kernel)
  have f_25 := hts (Cond.fieldLink RX5 25 "TwoKeys" "board" "LTwoKeys$Board;") (by decide +kernel)
  have f_66 := hts (Cond.fieldLink RX5 66 "TwoKeys$Board" "size" "I") (by decide +kernel)
  have f_77 := hts (Cond.fieldLink RX5 77 "TwoKeys$Board" "struck" "[I") (by decide +kernel)
  have f_203 := hts (Cond.fieldLink RX5 203 "TwoKeys$Sharing" "groupOf" "[I") (by decide +kernel)
  have n_X0 : ∀ w ∈ u_ws RX0 TX0 5, w ∈ wsX5_setUp := by decide +kernel
  have n_X4 : ∀ w ∈ u_ws RX4 TX4 5, w ∈ wsX5_setUp := by decide +kernel
  have n_X5 : ∀ w ∈ u_ws RX5 TX5 9, w ∈ wsX5_setUp := by decide +kernel
  have iK := I.nK
  have ibk := I.bk
  have tP : ∀ x y, 0 ≤ (tog ka bg ln ns bk) x y := fun x y => (tog_b I.ns).1
  have tO : ∀ x, (tog ka bg ln ns bk) x x = 0 := fun x => tog_one
  refine lv_iload_n hx hb dX5_setUp_0 rfl (lv_at hl 1 rfl) ?_
  refine z_callSi (As := [.int (iI m9)]) (rest := []) X hK hP hD hA hS hl.1 gX5_setUp_X5_isMost rfl ⟨rfl, rfl⟩ hd_X5_isMost ⟨Nat.le_of_ble_eq_true rfl, Nat.le_of_ble_eq_true rfl⟩ rfl (Nat.le_of_ble_eq_true rfl) ⟨Nat.zero_le _, Nat.zero_le _⟩ rfl dX5_setUp_1 (c_X5_isMost m9 (by omega)) (fun H locs hP hD hS => ?_)
  refine z_ifp_eq (tgt := 17) hx hb dX5_setUp_4 (by decide) (fun c_1 => ?_) (fun c_1 => ?_)
  · exact absurd c_1 (by omega)
  · refine lv_iload_n hx hb dX5_setUp_7 rfl (lv_at hl 2 rfl) ?_
    refine lv_iconst (v := iI (0)) hx hb dX5_setUp_8 rfl ?_
    refine lv_bipush (v := iI (24)) hx hb dX5_setUp_9 (by decide) ?_
    refine z_callSi (As := [.int (iI s9), .int (iI 0), .int (iI 24)]) (rest := []) X hK hP hD hA hS hl.1 gX5_setUp_X5_within rfl ⟨rfl, rfl⟩ hd_X5_within ⟨Nat.le_of_ble_eq_true rfl, Nat.le_of_ble_eq_true rfl⟩ rfl (Nat.le_of_ble_eq_true rfl) ⟨Nat.zero_le _, Nat.zero_le _⟩ rfl dX5_setUp_11 (c_X5_within s9 0 24 (by omega)) (fun H locs hP hD hS => ?_)
    refine z_ifp_ne (tgt := 20) hx hb dX5_setUp_14 (by decide) (fun c_2 => ?_) (fun c_2 => ?_)
    · refine lv_aload_n hx hb dX5_setUp_20 rfl (lv_at hl 0 rfl) ?_
      refine lv_iload_n hx hb dX5_setUp_21 rfl (lv_at hl 1 rfl) ?_
      refine lv_iload_n hx hb dX5_setUp_22 rfl (lv_at hl 2 rfl) ?_
      refine z_callVr (ci := 5) (q0 := 0) (As := [.int (iI m9), .int (iI s9)]) (rest := []) X hK hP hD hA hS hl.1 gX5_setUp_X5_findStrings rfl ⟨rfl, rfl⟩ hd_X5_findStrings ⟨Nat.le_of_ble_eq_true rfl, Nat.le_of_ble_eq_true rfl⟩ rfl rfl rfl (Nat.le_of_ble_eq_true rfl) ⟨Nat.zero_le _, Nat.zero_le _⟩ rfl dX5_setUp_23 (c_X5_findStrings I m9 s9 (by omega)) (fun r8 w8 H locs hΨ hP hD hS => ?_)
      obtain ⟨pa2_3, lz2_3, rfl, rfl, hq_3⟩ := hΨ
      have sb := stF_b (C := (tog ka bg ln ns bk)) (n := nK) (m := m9) (s := s9) tP tO (by omega) (by omega) (by omega)
      have hq9 := hq_3
      refine lv_istore_n (lv' := [(3, .int (iI (stF (tog ka bg ln ns bk) nK m9 s9))), (0, .ref (q 0)), (1, .int (iI m9)), (2, .int (iI s9))]) hx hb dX5_setUp_26 rfl hl (by decide) rfl (fun ls hl => ?_)
      refine lv_iload_n hx hb dX5_setUp_27 rfl (lv_at hl 0 rfl) ?_
      refine z_ldc (n := -100009) hx hb hown k_196 (by decide) dX5_setUp_28 ?_
      refine z_icmp_ne (tgt := 36) hx hb dX5_setUp_30 (by decide) (by omega) (fun c_4 => ?_) (fun c_4 => ?_)
      · refine lv_aload_n hx hb dX5_setUp_36 rfl (lv_at hl 1 rfl) ?_
        refine va_get (D := D) (ci := 5) (v := .ref (q 14)) (C := RX5) (T := TX5) (N := 9) hx hb hts n_X5 hown hK hP 0 rfl rfl 3 (by decide) f_48 (fun _ h9 => h9) rfl dX5_setUp_37 ?_
        refine lv_iload_n hx hb dX5_setUp_40 rfl (lv_at hl 0 rfl) ?_
        refine z_callVw (ci := 4) (q0 := 14) (As := [.int (iI (stF (tog ka bg ln ns bk) nK m9 s9))]) (rest := []) X hK hP hD hA hS hl.1 gX5_setUp_X4_layOut rfl ⟨rfl, rfl⟩ hd_X4_layOut ⟨Nat.le_of_ble_eq_true rfl, Nat.le_of_ble_eq_true rfl⟩ rfl rfl rfl (Nat.le_of_ble_eq_true rfl) ⟨Nat.zero_le _, Nat.zero_le _⟩ rfl dX5_setUp_41 (c_X4_layOut (stF (tog ka bg ln ns bk) nK m9 s9) (tog ka bg ln ns bk) (by omega) (by omega) (by omega) hq9.1 (fun x y => tog_b I.ns) hq9.2) (fun w8 H locs hΨ hP hD hS => ?_)
        obtain ⟨go3_5, rfl, hq_5⟩ := hΨ
        have hg9 := hq_5
        refine lv_iconst (v := iI (0)) hx hb dX5_setUp_44 rfl ?_
        refine lv_istore (lv' := [(4, .int (iI 0)), (3, .int (iI (stF (tog ka bg ln ns bk) nK m9 s9))), (0, .ref (q 0)), (1, .int (iI m9)), (2, .int (iI s9))]) hx hb dX5_setUp_45 hl (by decide) rfl (fun ls hl => ?_)
        have L_47 : ∀ (n : Nat) (k : Int) (st1 : Int → Int), (h0 : 0 ≤ k ∧ k ≤ nK) → (hf : nK - k < n) → (hr : st1 = suS (tog ka bg ln ns bk) nK m9 (stF (tog ka bg ln ns bk) nK m9 s9) st k) → ∀ (H : Heap) (locs : List Loc) (ls : Array Slot), va_P D vwCl (wT q cy nK st1 le be te ab bl ka bg ln ns me sc pi re bk pa2_3 lz2_3 go3_5 nK m9 pf mf) H → va_D A (wT q cy nK st1 le be te ab bl ka bg ln ns me sc pi re bk pa2_3 lz2_3 go3_5 nK m9 pf mf) → va_S A s.heap H locs → lv_has ls 5 [(4, .int (iI k)), (3, .int (iI (stF (tog ka bg ln ns bk) nK m9 s9))), (0, .ref (q 0)), (1, .int (iI m9)), (2, .int (iI s9))] → W p l e ({ frames := 5, cells := 0, slots := 0, locals := 112 } : Room) s m [.ref (q 0), .int (iI m9), .int (iI s9)].toArray below meth c H locs 0 0 (MQ below (zQr D cy A (fun r8 w8 => ∃ pa2 : Int → Int, ∃ lz2 : Int → Int, ∃ ss2 : Int, ∃ sm2 : Int, ∃ go2 : Int → Int, w8 = wT q cy nK (suS (tog ka bg ln ns bk) nK m9 (stF (tog ka bg ln ns bk) nK m9 s9) st nK) le be te ab bl ka bg ln ns me sc pi re bk pa2 lz2 go2 ss2 sm2 pf mf ∧ r8 = stF (tog ka bg ln ns bk) nK m9 s9)) [.ref (q 0), .int (iI m9), .int (iI s9)].toArray s 0 0 A) (F0 m 47 ls []) := by
          intro n
          induction n with
          | zero =>
            intro k st1 h0 hf hr
            exfalso; omega
          | succ n ih_47 =>
            intro k st1 h0 hf hr H locs ls hP hD hS hl
            refine lv_iload hx hb dX5_setUp_47 (lv_at hl 0 rfl) ?_
            refine lv_aload_n hx hb dX5_setUp_49 rfl (lv_at hl 2 rfl) ?_
            refine va_get (D := D) (ci := 5) (v := .ref (q 1)) (C := RX5) (T := TX5) (N := 9) hx hb hts n_X5 hown hK hP 0 rfl rfl 0 (by decide) f_25 (fun _ h9 => h9) rfl dX5_setUp_50 ?_
            refine va_get (D := D) (ci := 0) (v := .int (iI nK)) (C := RX0) (T := TX0) (N := 5) hx hb hts n_X0 hown hK hP 1 rfl rfl 0 (by decide) f_66 (fun _ h9 => h9) rfl dX5_setUp_53 ?_
            refine z_icmp_ge (tgt := 85) hx hb dX5_setUp_56 (by decide) (by omega) (fun c_6 => ?_) (fun c_6 => ?_)
            · refine lv_iload_n hx hb dX5_setUp_85 rfl (lv_at hl 1 rfl) ?_
              exact z_iretR X hK hP hD hS dX5_setUp_86 (⟨_, _, _, _, _, by rw [hr, show k = nK by omega], rfl⟩)
            · refine lv_aload_n hx hb dX5_setUp_59 rfl (lv_at hl 2 rfl) ?_
              refine va_get (D := D) (ci := 5) (v := .ref (q 1)) (C := RX5) (T := TX5) (N := 9) hx hb hts n_X5 hown hK hP 0 rfl rfl 0 (by decide) f_25 (fun _ h9 => h9) rfl dX5_setUp_60 ?_
              refine va_get (D := D) (ci := 0) (v := .ref (q 2)) (C := RX0) (T := TX0) (N := 5) hx hb hts n_X0 hown hK hP 1 rfl rfl 1 (by decide) f_77 (fun _ h9 => h9) rfl dX5_setUp_63 ?_
              refine lv_iload hx hb dX5_setUp_66 (lv_at hl 0 rfl) ?_
              refine lv_aload_n hx hb dX5_setUp_68 rfl (lv_at hl 2 rfl) ?_
              refine va_get (D := D) (ci := 5) (v := .ref (q 14)) (C := RX5) (T := TX5) (N := 9) hx hb hts n_X5 hown hK hP 0 rfl rfl 3 (by decide) f_48 (fun _ h9 => h9) rfl dX5_setUp_69 ?_
              refine va_get (D := D) (ci := 4) (v := .ref (q 17)) (C := RX4) (T := TX4) (N := 5) hx hb hts n_X4 hown hK hP 14 rfl rfl 2 (by decide) f_203 (fun _ h9 => h9) rfl dX5_setUp_72 ?_
              refine lv_iload hx hb dX5_setUp_75 (lv_at hl 0 rfl) ?_
              refine z_iald hx hb hK hP 17 0 rfl rfl (by omega) dX5_setUp_77 ?_
              refine z_iast (v := go3_5 k) hx hb hK hP hD hS 2 0 rfl rfl (by omega) dX5_setUp_78 (fun H locs hP hD hS => ?_)
              have hP : va_P D vwCl (wT q cy nK (uZ st1 k (go3_5 k)) le be te ab bl ka bg ln ns me sc pi re bk pa2_3 lz2_3 go3_5 nK m9 pf mf) H := hP
              have hD : va_D A (wT q cy nK (uZ st1 k (go3_5 k)) le be te ab bl ka bg ln ns me sc pi re bk pa2_3 lz2_3 go3_5 nK m9 pf mf) := hD
              refine lv_iinc (v := iI (k + 1)) (lv' := [(4, .int (iI (k + 1))), (3, .int (iI (stF (tog ka bg ln ns bk) nK m9 s9))), (0, .ref (q 0)), (1, .int (iI m9)), (2, .int (iI s9))]) hx hb dX5_setUp_79 hl (k := 0) rfl (iI_add _ _) (by decide) rfl (fun ls hl => ?_)
              refine lv_goto (tgt := 47) hx hb dX5_setUp_82 (by decide) ?_
              exact ih_47 (k + 1) (uZ st1 k (go3_5 k)) (by omega) (by omega) (by rw [hr, gF_go tP (by omega) (by omega) (by omega) (by omega) hg9]; exact suS_s (by omega)) _ _ _ hP hD hS (lv_sub hl [0, 1, 2, 3, 4] rfl)
        exact L_47 25 0 st (by omega) (by omega) suS_0 _ _ _ hP hD hS (lv_sub hl [0, 1, 2, 3, 4] rfl)
      · exact absurd c_4 (by omega)
    · exact absurd c_2 (by omega)
