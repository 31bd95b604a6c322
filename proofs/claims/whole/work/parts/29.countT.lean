variable {l : Launch} {D : va_G} {cy : ClassId} {q : Nat → Nat} {nK sc pi re bk ss sm pf mf th lo : Int} {st le be te ab bl ka bg ln ns me pa lz go co bs gr : Int → Int}
theorem hd_X5_count : yX5_count.cls = RX5 ∧ yX5_count.cls ≠ "java/lang/invoke/MethodHandle" ∧ yX5_count.cls ≠ "java/lang/invoke/VarHandle" ∧ (parseMethodDescriptor yX5_count.desc).map (fun d => d.parameters.length) = some 1 := by decide +kernel
set_option maxHeartbeats 4000000 in
set_option maxRecDepth 100000 in
theorem c_X5_count (I : okS nK st le be te ab bl ka bg ln ns me sc pi re bk) (w9 : Int) (h : -2147483648 ≤ w9 ∧ w9 ≤ 2147483647) : MI l D cy yX5_count wsX5_count ({ frames := 2, cells := 0, slots := 0, locals := 45 } : Room) [.ref (q 0), .int (iI w9)] (wT q cy nK st le be te ab bl ka bg ln ns me sc pi re bk pa lz go ss sm pf mf) (if w9 = 0 then nK else if w9 = 1 then sZ (fun s9 => if 0 < sZ (fun k => if st k = s9 then 1 else 0) 0 nK then 1 else 0) 0 24 else if w9 = 2 then sZ ns 0 4 else if w9 = 3 then bcZ bk else if w9 = 4 then cm nK me else if w9 = 5 then sZ (fun k => if be k = 0 then 0 else 1) 0 nK else (-100002)) (wT q cy nK st le be te ab bl ka bg ln ns me sc pi re bk pa lz go ss sm pf mf) := by
  refine MI.ofW (cc := cX5_count) (maxL := 2) (ret := (some .int)) (by decide) rfl (Nat.le_of_ble_eq_true rfl) ?_
  intro p e s m below meth c A ls X hK hP hD hA hS hl
  obtain ⟨hx, hb, hml, hr, hts, hown, hlocks⟩ := id X
  have hl : lv_has ls 2 [(0, .ref (q 0)), (1, .int (iI w9))] := hl
  have f_25 := hts (Cond.fieldLink RX5 25 "TwoKeys" "board" "LTwoKeys$Board;") (by decide +kernel)
  have f_66 := hts (Cond.fieldLink RX5 66 "TwoKeys$Board" "size" "I") (by decide +kernel)
  have f_41 := hts (Cond.fieldLink RX5 41 "TwoKeys" "music" "LTwoKeys$Music;") (by decide +kernel)
  have f_19 := hts (Cond.fieldLink RX5 19 "TwoKeys" "bookNow" "I") (by decide +kernel)
  have f_57 := hts (Cond.fieldLink RX5 57 "TwoKeys" "oldOne" "LTwoKeys$OldOne;") (by decide +kernel)
  have k_65 := hts (Cond.constant RX5 65 (-100002)) (by decide +kernel)
  have n_X0 : ∀ w ∈ u_ws RX0 TX0 5, w ∈ wsX5_count := by decide +kernel
  have n_X5 : ∀ w ∈ u_ws RX5 TX5 9, w ∈ wsX5_count := by decide +kernel
  have iK := I.nK
  have ibk := I.bk
  refine lv_iload_n hx hb dX5_count_0 rfl (lv_at hl 1 rfl) ?_
  by_cases c_1_0 : w9 = 0
  · refine z_tabIn (off := 39) (tgt := 40) (z := 0) hx hb dX5_count_1 c_1_0 (by decide) (by decide) (by decide) rfl (by decide) ?_
    refine lv_aload_n hx hb dX5_count_40 rfl (lv_at hl 0 rfl) ?_
    refine va_get (D := D) (ci := 5) (v := .ref (q 1)) (C := RX5) (T := TX5) (N := 9) hx hb hts n_X5 hown hK hP 0 rfl rfl 0 (by decide) f_25 (fun _ h9 => h9) rfl dX5_count_41 ?_
    refine va_get (D := D) (ci := 0) (v := .int (iI nK)) (C := RX0) (T := TX0) (N := 5) hx hb hts n_X0 hown hK hP 1 rfl rfl 0 (by decide) f_66 (fun _ h9 => h9) rfl dX5_count_44 ?_
    exact z_iret X hK hP hD hS dX5_count_47 (by (repeat' split) <;> first | rfl | omega)
  by_cases c_1_1 : w9 = 1
  · refine z_tabIn (off := 47) (tgt := 48) (z := 1) hx hb dX5_count_1 c_1_1 (by decide) (by decide) (by decide) rfl (by decide) ?_
    refine lv_aload_n hx hb dX5_count_48 rfl (lv_at hl 0 rfl) ?_
    refine va_get (D := D) (ci := 5) (v := .ref (q 1)) (C := RX5) (T := TX5) (N := 9) hx hb hts n_X5 hown hK hP 0 rfl rfl 0 (by decide) f_25 (fun _ h9 => h9) rfl dX5_count_49 ?_
    refine z_callVi (ci := 0) (q0 := 1) (As := []) (rest := []) X hK hP hD hA hS hl.1 gX5_count_X0_countStruck rfl ⟨rfl, rfl⟩ hd_X0_countStruck ⟨Nat.le_of_ble_eq_true rfl, Nat.le_of_ble_eq_true rfl⟩ rfl rfl rfl (Nat.le_of_ble_eq_true rfl) ⟨Nat.zero_le _, Nat.zero_le _⟩ rfl dX5_count_52 (c_X0_countStruck I) (fun H locs hP hD hS => ?_)
    exact z_iret X hK hP hD hS dX5_count_55 (by (repeat' split) <;> first | rfl | omega)
  by_cases c_1_2 : w9 = 2
  · refine z_tabIn (off := 55) (tgt := 56) (z := 2) hx hb dX5_count_1 c_1_2 (by decide) (by decide) (by decide) rfl (by decide) ?_
    refine lv_aload_n hx hb dX5_count_56 rfl (lv_at hl 0 rfl) ?_
    refine va_get (D := D) (ci := 5) (v := .ref (q 9)) (C := RX5) (T := TX5) (N := 9) hx hb hts n_X5 hown hK hP 0 rfl rfl 2 (by decide) f_41 (fun _ h9 => h9) rfl dX5_count_57 ?_
    refine z_callVi (ci := 1) (q0 := 9) (As := []) (rest := []) X hK hP hD hA hS hl.1 gX5_count_X1_countNotes rfl ⟨rfl, rfl⟩ hd_X1_countNotes ⟨Nat.le_of_ble_eq_true rfl, Nat.le_of_ble_eq_true rfl⟩ rfl rfl rfl (Nat.le_of_ble_eq_true rfl) ⟨Nat.zero_le _, Nat.zero_le _⟩ rfl dX5_count_60 (c_X1_countNotes I) (fun H locs hP hD hS => ?_)
    exact z_iret X hK hP hD hS dX5_count_63 (by (repeat' split) <;> first | rfl | omega)
  by_cases c_1_3 : w9 = 3
  · refine z_tabIn (off := 63) (tgt := 64) (z := 3) hx hb dX5_count_1 c_1_3 (by decide) (by decide) (by decide) rfl (by decide) ?_
    refine lv_aload_n hx hb dX5_count_64 rfl (lv_at hl 0 rfl) ?_
    refine va_get (D := D) (ci := 5) (v := .int (iI bk)) (C := RX5) (T := TX5) (N := 9) hx hb hts n_X5 hown hK hP 0 rfl rfl 8 (by decide) f_19 (fun _ h9 => h9) rfl dX5_count_65 ?_
    refine z_callSi (As := [.int (iI bk)]) (rest := []) X hK hP hD hA hS hl.1 gX5_count_J6_bitCount_0f7a4 rfl ⟨rfl, rfl⟩ hd_J6_bitCount_0f7a4 ⟨Nat.le_of_ble_eq_true rfl, Nat.le_of_ble_eq_true rfl⟩ rfl (Nat.le_of_ble_eq_true rfl) ⟨Nat.zero_le _, Nat.zero_le _⟩ rfl dX5_count_68 (c_J6_bitCount_0f7a4 bk (by omega)) (fun H locs hP hD hS => ?_)
    exact z_iret X hK hP hD hS dX5_count_71 (by (repeat' split) <;> first | rfl | omega)
  by_cases c_1_4 : w9 = 4
  · refine z_tabIn (off := 71) (tgt := 72) (z := 4) hx hb dX5_count_1 c_1_4 (by decide) (by decide) (by decide) rfl (by decide) ?_
    refine lv_aload_n hx hb dX5_count_72 rfl (lv_at hl 0 rfl) ?_
    refine va_get (D := D) (ci := 5) (v := .ref (q 18)) (C := RX5) (T := TX5) (N := 9) hx hb hts n_X5 hown hK hP 0 rfl rfl 4 (by decide) f_57 (fun _ h9 => h9) rfl dX5_count_73 ?_
    refine z_callVi (ci := 2) (q0 := 18) (As := []) (rest := []) X hK hP hD hA hS hl.1 gX5_count_X2_countMeasured rfl ⟨rfl, rfl⟩ hd_X2_countMeasured ⟨Nat.le_of_ble_eq_true rfl, Nat.le_of_ble_eq_true rfl⟩ rfl rfl rfl (Nat.le_of_ble_eq_true rfl) ⟨Nat.zero_le _, Nat.zero_le _⟩ rfl dX5_count_76 (c_X2_countMeasured I) (fun H locs hP hD hS => ?_)
    exact z_iret X hK hP hD hS dX5_count_79 (by (repeat' split) <;> first | rfl | omega)
  by_cases c_1_5 : w9 = 5
  · refine z_tabIn (off := 79) (tgt := 80) (z := 5) hx hb dX5_count_1 c_1_5 (by decide) (by decide) (by decide) rfl (by decide) ?_
    refine lv_aload_n hx hb dX5_count_80 rfl (lv_at hl 0 rfl) ?_
    refine va_get (D := D) (ci := 5) (v := .ref (q 1)) (C := RX5) (T := TX5) (N := 9) hx hb hts n_X5 hown hK hP 0 rfl rfl 0 (by decide) f_25 (fun _ h9 => h9) rfl dX5_count_81 ?_
    refine z_callVi (ci := 0) (q0 := 1) (As := []) (rest := []) X hK hP hD hA hS hl.1 gX5_count_X0_countBent rfl ⟨rfl, rfl⟩ hd_X0_countBent ⟨Nat.le_of_ble_eq_true rfl, Nat.le_of_ble_eq_true rfl⟩ rfl rfl rfl (Nat.le_of_ble_eq_true rfl) ⟨Nat.zero_le _, Nat.zero_le _⟩ rfl dX5_count_84 (c_X0_countBent I) (fun H locs hP hD hS => ?_)
    exact z_iret X hK hP hD hS dX5_count_87 (by (repeat' split) <;> first | rfl | omega)
  refine z_tabOut (tgt := 88) hx hb dX5_count_1 (by omega) (by omega) (by decide) ?_
  refine z_ldc (n := -100002) hx hb hown k_65 (by decide) dX5_count_88 ?_
  exact z_iret X hK hP hD hS dX5_count_90 (by (repeat' split) <;> first | rfl | omega)
