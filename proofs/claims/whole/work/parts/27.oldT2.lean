variable {l : Launch} {D : va_G} {cy : ClassId} {q : Nat → Nat} {nK sc pi re bk ss sm pf mf th lo : Int} {st le be te ab bl ka bg ln ns me pa lz go co bs gr : Int → Int}
theorem hd_X5_misfit : yX5_misfit.cls = RX5 ∧ yX5_misfit.cls ≠ "java/lang/invoke/MethodHandle" ∧ yX5_misfit.cls ≠ "java/lang/invoke/VarHandle" ∧ (parseMethodDescriptor yX5_misfit.desc).map (fun d => d.parameters.length) = some 2 := by decide +kernel
set_option maxHeartbeats 4000000 in
set_option maxRecDepth 100000 in
theorem c_X5_misfit (I : okS nK st le be te ab bl ka bg ln ns me sc pi re bk) (s9 : Int) (p9 : Int) (h : -2147483648 ≤ s9 ∧ s9 ≤ 2147483647 ∧ -2147483648 ≤ p9 ∧ p9 ≤ 2147483647) : MI l D cy yX5_misfit wsX5_misfit ({ frames := 2, cells := 0, slots := 0, locals := 51 } : Room) [.ref (q 0), .int (iI s9), .int (iI p9)] (wT q cy nK st le be te ab bl ka bg ln ns me sc pi re bk pa lz go ss sm pf mf) (if 0 ≤ s9 ∧ s9 ≤ 4 then (if 1000 ≤ p9 ∧ p9 ≤ 200000 then mis nK me ab bl s9 p9 (-1) else (-100002)) else (-100001)) (wT q cy nK st le be te ab bl ka bg ln ns me sc pi re bk pa lz go ss sm pf mf) := by
  refine MI.ofW (cc := cX5_misfit) (maxL := 3) (ret := (some .int)) (by decide) rfl (Nat.le_of_ble_eq_true rfl) ?_
  intro p e s m below meth c A ls X hK hP hD hA hS hl
  obtain ⟨hx, hb, hml, hr, hts, hown, hlocks⟩ := id X
  have hl : lv_has ls 3 [(0, .ref (q 0)), (1, .int (iI s9)), (2, .int (iI p9))] := hl
  have f_57 := hts (Cond.fieldLink RX5 57 "TwoKeys" "oldOne" "LTwoKeys$OldOne;") (by decide +kernel)
  have k_65 := hts (Cond.constant RX5 65 (-100002)) (by decide +kernel)
  have k_76 := hts (Cond.constant RX5 76 (-100001)) (by decide +kernel)
  have n_X5 : ∀ w ∈ u_ws RX5 TX5 9, w ∈ wsX5_misfit := by decide +kernel
  have iK := I.nK
  refine lv_iload_n hx hb dX5_misfit_0 rfl (lv_at hl 1 rfl) ?_
  refine z_callSi (As := [.int (iI s9)]) (rest := []) X hK hP hD hA hS hl.1 gX5_misfit_X5_isScale rfl ⟨rfl, rfl⟩ hd_X5_isScale ⟨Nat.le_of_ble_eq_true rfl, Nat.le_of_ble_eq_true rfl⟩ rfl (Nat.le_of_ble_eq_true rfl) ⟨Nat.zero_le _, Nat.zero_le _⟩ rfl dX5_misfit_1 (c_X5_isScale s9 (by omega)) (fun H locs hP hD hS => ?_)
  refine z_ifp_ne (tgt := 10) hx hb dX5_misfit_4 (by decide) (fun c_1 => ?_) (fun c_1 => ?_)
  · refine lv_iload_n hx hb dX5_misfit_10 rfl (lv_at hl 2 rfl) ?_
    refine z_callSi (As := [.int (iI p9)]) (rest := []) X hK hP hD hA hS hl.1 gX5_misfit_X5_isPitch rfl ⟨rfl, rfl⟩ hd_X5_isPitch ⟨Nat.le_of_ble_eq_true rfl, Nat.le_of_ble_eq_true rfl⟩ rfl (Nat.le_of_ble_eq_true rfl) ⟨Nat.zero_le _, Nat.zero_le _⟩ rfl dX5_misfit_11 (c_X5_isPitch p9 (by omega)) (fun H locs hP hD hS => ?_)
    refine z_ifp_ne (tgt := 20) hx hb dX5_misfit_14 (by decide) (fun c_2 => ?_) (fun c_2 => ?_)
    · refine lv_aload_n hx hb dX5_misfit_20 rfl (lv_at hl 0 rfl) ?_
      refine va_get (D := D) (ci := 5) (v := .ref (q 18)) (C := RX5) (T := TX5) (N := 9) hx hb hts n_X5 hown hK hP 0 rfl rfl 4 (by decide) f_57 (fun _ h9 => h9) rfl dX5_misfit_21 ?_
      refine lv_iload_n hx hb dX5_misfit_24 rfl (lv_at hl 1 rfl) ?_
      refine lv_iload_n hx hb dX5_misfit_25 rfl (lv_at hl 2 rfl) ?_
      refine lv_iconst (v := iI (-1)) hx hb dX5_misfit_26 rfl ?_
      refine z_callVi (ci := 2) (q0 := 18) (As := [.int (iI s9), .int (iI p9), .int (iI (-1))]) (rest := []) X hK hP hD hA hS hl.1 gX5_misfit_X2_misfitAt rfl ⟨rfl, rfl⟩ hd_X2_misfitAt ⟨Nat.le_of_ble_eq_true rfl, Nat.le_of_ble_eq_true rfl⟩ rfl rfl rfl (Nat.le_of_ble_eq_true rfl) ⟨Nat.zero_le _, Nat.zero_le _⟩ rfl dX5_misfit_27 (c_X2_misfitAt I s9 p9 (-1) (by omega) (by omega) (by omega)) (fun H locs hP hD hS => ?_)
      exact z_iret X hK hP hD hS dX5_misfit_30 (by (repeat' split) <;> first | rfl | omega)
    · refine z_ldc (n := -100002) hx hb hown k_65 (by decide) dX5_misfit_17 ?_
      exact z_iret X hK hP hD hS dX5_misfit_19 (by (repeat' split) <;> first | rfl | omega)
  · refine z_ldc (n := -100001) hx hb hown k_76 (by decide) dX5_misfit_7 ?_
    exact z_iret X hK hP hD hS dX5_misfit_9 (by (repeat' split) <;> first | rfl | omega)

theorem hd_X5_found : yX5_found.cls = RX5 ∧ yX5_found.cls ≠ "java/lang/invoke/MethodHandle" ∧ yX5_found.cls ≠ "java/lang/invoke/VarHandle" ∧ (parseMethodDescriptor yX5_found.desc).map (fun d => d.parameters.length) = some 2 := by decide +kernel
set_option maxHeartbeats 4000000 in
set_option maxRecDepth 100000 in
theorem c_X5_found (I : okS nK st le be te ab bl ka bg ln ns me sc pi re bk) (s9 : Int) (w7 : Int) (h : -2147483648 ≤ s9 ∧ s9 ≤ 2147483647 ∧ -2147483648 ≤ w7 ∧ w7 ≤ 2147483647) : MR l D cy yX5_found wsX5_found ({ frames := 4, cells := 0, slots := 0, locals := 106 } : Room) [.ref (q 0), .int (iI s9), .int (iI w7)] (wT q cy nK st le be te ab bl ka bg ln ns me sc pi re bk pa lz go ss sm pf mf) (fun r8 w8 => ∃ pf2 : Int, ∃ mf2 : Int, w8 = wT q cy nK st le be te ab bl ka bg ln ns me sc pi re bk pa lz go ss sm pf2 mf2 ∧ r8 = if 0 ≤ s9 ∧ s9 ≤ 4 then (if 0 ≤ w7 ∧ w7 ≤ 1 then (if cm nK me = 0 then (-100003) else (if w7 = 0 then (pitF nK me ab bl s9 (-1)) else misF nK me ab bl s9 (-1))) else (-100002)) else (-100001)) := by
  refine MR.ofW (cc := cX5_found) (maxL := 3) (ret := (some .int)) (by decide) rfl (Nat.le_of_ble_eq_true rfl) ?_
  intro p e s m below meth c A ls X hK hP hD hA hS hl
  obtain ⟨hx, hb, hml, hr, hts, hown, hlocks⟩ := id X
  have hl : lv_has ls 3 [(0, .ref (q 0)), (1, .int (iI s9)), (2, .int (iI w7))] := hl
  have f_57 := hts (Cond.fieldLink RX5 57 "TwoKeys" "oldOne" "LTwoKeys$OldOne;") (by decide +kernel)
  have f_223 := hts (Cond.fieldLink RX5 223 "TwoKeys$OldOne" "misfitFound" "I") (by decide +kernel)
  have f_220 := hts (Cond.fieldLink RX5 220 "TwoKeys$OldOne" "pitchFound" "I") (by decide +kernel)
  have k_147 := hts (Cond.constant RX5 147 (-100003)) (by decide +kernel)
  have k_65 := hts (Cond.constant RX5 65 (-100002)) (by decide +kernel)
  have k_76 := hts (Cond.constant RX5 76 (-100001)) (by decide +kernel)
  have n_X2 : ∀ w ∈ u_ws RX2 TX2 5, w ∈ wsX5_found := by decide +kernel
  have n_X5 : ∀ w ∈ u_ws RX5 TX5 9, w ∈ wsX5_found := by decide +kernel
  have iK := I.nK
  have cb := cm_b (nK := nK) (me := me) (by omega)
  refine lv_iload_n hx hb dX5_found_0 rfl (lv_at hl 1 rfl) ?_
  refine z_callSi (As := [.int (iI s9)]) (rest := []) X hK hP hD hA hS hl.1 gX5_found_X5_isScale rfl ⟨rfl, rfl⟩ hd_X5_isScale ⟨Nat.le_of_ble_eq_true rfl, Nat.le_of_ble_eq_true rfl⟩ rfl (Nat.le_of_ble_eq_true rfl) ⟨Nat.zero_le _, Nat.zero_le _⟩ rfl dX5_found_1 (c_X5_isScale s9 (by omega)) (fun H locs hP hD hS => ?_)
  refine z_ifp_ne (tgt := 10) hx hb dX5_found_4 (by decide) (fun c_1 => ?_) (fun c_1 => ?_)
  · refine lv_iload_n hx hb dX5_found_10 rfl (lv_at hl 2 rfl) ?_
    refine lv_iconst (v := iI (0)) hx hb dX5_found_11 rfl ?_
    refine lv_iconst (v := iI (1)) hx hb dX5_found_12 rfl ?_
    refine z_callSi (As := [.int (iI w7), .int (iI 0), .int (iI 1)]) (rest := []) X hK hP hD hA hS hl.1 gX5_found_X5_within rfl ⟨rfl, rfl⟩ hd_X5_within ⟨Nat.le_of_ble_eq_true rfl, Nat.le_of_ble_eq_true rfl⟩ rfl (Nat.le_of_ble_eq_true rfl) ⟨Nat.zero_le _, Nat.zero_le _⟩ rfl dX5_found_13 (c_X5_within w7 0 1 (by omega)) (fun H locs hP hD hS => ?_)
    refine z_ifp_ne (tgt := 22) hx hb dX5_found_16 (by decide) (fun c_2 => ?_) (fun c_2 => ?_)
    · refine lv_aload_n hx hb dX5_found_22 rfl (lv_at hl 0 rfl) ?_
      refine va_get (D := D) (ci := 5) (v := .ref (q 18)) (C := RX5) (T := TX5) (N := 9) hx hb hts n_X5 hown hK hP 0 rfl rfl 4 (by decide) f_57 (fun _ h9 => h9) rfl dX5_found_23 ?_
      refine z_callVi (ci := 2) (q0 := 18) (As := []) (rest := []) X hK hP hD hA hS hl.1 gX5_found_X2_countMeasured rfl ⟨rfl, rfl⟩ hd_X2_countMeasured ⟨Nat.le_of_ble_eq_true rfl, Nat.le_of_ble_eq_true rfl⟩ rfl rfl rfl (Nat.le_of_ble_eq_true rfl) ⟨Nat.zero_le _, Nat.zero_le _⟩ rfl dX5_found_26 (c_X2_countMeasured I) (fun H locs hP hD hS => ?_)
      refine lv_iconst (v := iI (1)) hx hb dX5_found_29 rfl ?_
      refine z_icmp_ge (tgt := 36) hx hb dX5_found_30 (by decide) (by omega) (fun c_3 => ?_) (fun c_3 => ?_)
      · refine lv_aload_n hx hb dX5_found_36 rfl (lv_at hl 0 rfl) ?_
        refine va_get (D := D) (ci := 5) (v := .ref (q 18)) (C := RX5) (T := TX5) (N := 9) hx hb hts n_X5 hown hK hP 0 rfl rfl 4 (by decide) f_57 (fun _ h9 => h9) rfl dX5_found_37 ?_
        refine lv_iload_n hx hb dX5_found_40 rfl (lv_at hl 1 rfl) ?_
        refine lv_iconst (v := iI (-1)) hx hb dX5_found_41 rfl ?_
        refine z_callVv (ci := 2) (q0 := 18) (As := [.int (iI s9), .int (iI (-1))]) (rest := []) X hK hP hD hA hS hl.1 gX5_found_X2_seek rfl ⟨rfl, rfl⟩ hd_X2_seek ⟨Nat.le_of_ble_eq_true rfl, Nat.le_of_ble_eq_true rfl⟩ rfl rfl rfl (Nat.le_of_ble_eq_true rfl) ⟨Nat.zero_le _, Nat.zero_le _⟩ rfl dX5_found_42 (c_X2_seek I s9 (-1) (by omega) (by omega)) (fun H locs hP hD hS => ?_)
        refine lv_iload_n hx hb dX5_found_45 rfl (lv_at hl 2 rfl) ?_
        refine z_if_ne (tgt := 59) hx hb dX5_found_46 (by decide) (by omega) (fun c_4 => ?_) (fun c_4 => ?_)
        · refine lv_aload_n hx hb dX5_found_59 rfl (lv_at hl 0 rfl) ?_
          refine va_get (D := D) (ci := 5) (v := .ref (q 18)) (C := RX5) (T := TX5) (N := 9) hx hb hts n_X5 hown hK hP 0 rfl rfl 4 (by decide) f_57 (fun _ h9 => h9) rfl dX5_found_60 ?_
          refine va_get (D := D) (ci := 2) (v := .int (iI (misF nK me ab bl s9 (-1)))) (C := RX2) (T := TX2) (N := 5) hx hb hts n_X2 hown hK hP 18 rfl rfl 4 (by decide) f_223 (fun _ h9 => h9) rfl dX5_found_63 ?_
          exact z_iretR X hK hP hD hS dX5_found_66 (⟨_, _, rfl, by (repeat' split) <;> first | rfl | omega⟩)
        · refine lv_aload_n hx hb dX5_found_49 rfl (lv_at hl 0 rfl) ?_
          refine va_get (D := D) (ci := 5) (v := .ref (q 18)) (C := RX5) (T := TX5) (N := 9) hx hb hts n_X5 hown hK hP 0 rfl rfl 4 (by decide) f_57 (fun _ h9 => h9) rfl dX5_found_50 ?_
          refine va_get (D := D) (ci := 2) (v := .int (iI (pitF nK me ab bl s9 (-1)))) (C := RX2) (T := TX2) (N := 5) hx hb hts n_X2 hown hK hP 18 rfl rfl 3 (by decide) f_220 (fun _ h9 => h9) rfl dX5_found_53 ?_
          refine lv_goto (tgt := 66) hx hb dX5_found_56 (by decide) ?_
          exact z_iretR X hK hP hD hS dX5_found_66 (⟨_, _, rfl, by (repeat' split) <;> first | rfl | omega⟩)
      · refine z_ldc (n := -100003) hx hb hown k_147 (by decide) dX5_found_33 ?_
        exact z_iretR X hK hP hD hS dX5_found_35 (⟨_, _, rfl, by (repeat' split) <;> first | rfl | omega⟩)
    · refine z_ldc (n := -100002) hx hb hown k_65 (by decide) dX5_found_19 ?_
      exact z_iretR X hK hP hD hS dX5_found_21 (⟨_, _, rfl, by (repeat' split) <;> first | rfl | omega⟩)
  · refine z_ldc (n := -100001) hx hb hown k_76 (by decide) dX5_found_7 ?_
    exact z_iretR X hK hP hD hS dX5_found_9 (⟨_, _, rfl, by (repeat' split) <;> first | rfl | omega⟩)

theorem hd_X5_meant : yX5_meant.cls = RX5 ∧ yX5_meant.cls ≠ "java/lang/invoke/MethodHandle" ∧ yX5_meant.cls ≠ "java/lang/invoke/VarHandle" ∧ (parseMethodDescriptor yX5_meant.desc).map (fun d => d.parameters.length) = some 0 := by decide +kernel
set_option maxHeartbeats 4000000 in
set_option maxRecDepth 100000 in
theorem c_X5_meant (I : okS nK st le be te ab bl ka bg ln ns me sc pi re bk)   : MR l D cy yX5_meant wsX5_meant ({ frames := 5, cells := 0, slots := 0, locals := 130 } : Room) [.ref (q 0)] (wT q cy nK st le be te ab bl ka bg ln ns me sc pi re bk pa lz go ss sm pf mf) (fun r8 w8 => ∃ pf2 : Int, ∃ mf2 : Int, w8 = wT q cy nK st le be te ab bl ka bg ln ns me sc pi re bk pa lz go ss sm pf2 mf2 ∧ r8 = if cm nK me = 0 then (-100003) else (am (fun s => misF nK me ab bl s (-1)) 0 5)) := by
  refine MR.ofW (cc := cX5_meant) (maxL := 1) (ret := (some .int)) (by decide) rfl (Nat.le_of_ble_eq_true rfl) ?_
  intro p e s m below meth c A ls X hK hP hD hA hS hl
  obtain ⟨hx, hb, hml, hr, hts, hown, hlocks⟩ := id X
  have hl : lv_has ls 1 [(0, .ref (q 0))] := hl
  have f_57 := hts (Cond.fieldLink RX5 57 "TwoKeys" "oldOne" "LTwoKeys$OldOne;") (by decide +kernel)
  have k_147 := hts (Cond.constant RX5 147 (-100003)) (by decide +kernel)
  have n_X5 : ∀ w ∈ u_ws RX5 TX5 9, w ∈ wsX5_meant := by decide +kernel
  have iK := I.nK
  have cb := cm_b (nK := nK) (me := me) (by omega)
  refine lv_aload_n hx hb dX5_meant_0 rfl (lv_at hl 0 rfl) ?_
  refine va_get (D := D) (ci := 5) (v := .ref (q 18)) (C := RX5) (T := TX5) (N := 9) hx hb hts n_X5 hown hK hP 0 rfl rfl 4 (by decide) f_57 (fun _ h9 => h9) rfl dX5_meant_1 ?_
  refine z_callVi (ci := 2) (q0 := 18) (As := []) (rest := []) X hK hP hD hA hS hl.1 gX5_meant_X2_countMeasured rfl ⟨rfl, rfl⟩ hd_X2_countMeasured ⟨Nat.le_of_ble_eq_true rfl, Nat.le_of_ble_eq_true rfl⟩ rfl rfl rfl (Nat.le_of_ble_eq_true rfl) ⟨Nat.zero_le _, Nat.zero_le _⟩ rfl dX5_meant_4 (c_X2_countMeasured I) (fun H locs hP hD hS => ?_)
  refine lv_iconst (v := iI (1)) hx hb dX5_meant_7 rfl ?_
  refine z_icmp_ge (tgt := 14) hx hb dX5_meant_8 (by decide) (by omega) (fun c_1 => ?_) (fun c_1 => ?_)
  · refine lv_aload_n hx hb dX5_meant_14 rfl (lv_at hl 0 rfl) ?_
    refine va_get (D := D) (ci := 5) (v := .ref (q 18)) (C := RX5) (T := TX5) (N := 9) hx hb hts n_X5 hown hK hP 0 rfl rfl 4 (by decide) f_57 (fun _ h9 => h9) rfl dX5_meant_15 ?_
    refine z_callVi (ci := 2) (q0 := 18) (As := []) (rest := []) X hK hP hD hA hS hl.1 gX5_meant_X2_scaleMeant rfl ⟨rfl, rfl⟩ hd_X2_scaleMeant ⟨Nat.le_of_ble_eq_true rfl, Nat.le_of_ble_eq_true rfl⟩ rfl rfl rfl (Nat.le_of_ble_eq_true rfl) ⟨Nat.zero_le _, Nat.zero_le _⟩ rfl dX5_meant_18 (c_X2_scaleMeant I) (fun H locs hP hD hS => ?_)
    exact z_iretR X hK hP hD hS dX5_meant_21 (⟨_, _, rfl, by (repeat' split) <;> first | rfl | omega⟩)
  · refine z_ldc (n := -100003) hx hb hown k_147 (by decide) dX5_meant_11 ?_
    exact z_iretR X hK hP hD hS dX5_meant_13 (⟨_, _, rfl, by (repeat' split) <;> first | rfl | omega⟩)

theorem hd_X5_added : yX5_added.cls = RX5 ∧ yX5_added.cls ≠ "java/lang/invoke/MethodHandle" ∧ yX5_added.cls ≠ "java/lang/invoke/VarHandle" ∧ (parseMethodDescriptor yX5_added.desc).map (fun d => d.parameters.length) = some 1 := by decide +kernel
set_option maxHeartbeats 4000000 in
set_option maxRecDepth 100000 in
theorem c_X5_added (I : okS nK st le be te ab bl ka bg ln ns me sc pi re bk) (w7 : Int) (h : -2147483648 ≤ w7 ∧ w7 ≤ 2147483647) : MR l D cy yX5_added wsX5_added ({ frames := 6, cells := 0, slots := 0, locals := 154 } : Room) [.ref (q 0), .int (iI w7)] (wT q cy nK st le be te ab bl ka bg ln ns me sc pi re bk pa lz go ss sm pf mf) (fun r8 w8 => ∃ pf2 : Int, ∃ mf2 : Int, w8 = wT q cy nK st le be te ab bl ka bg ln ns me sc pi re bk pa lz go ss sm pf2 mf2 ∧ r8 = if 0 ≤ w7 ∧ w7 ≤ 1 then (if cm nK me < 2 then (-100003) else (if w7 = 0 then am (gk nK me ab bl (am (fun s => misF nK me ab bl s (-1)) 0 5)) 0 nK else (gk nK me ab bl (am (fun s => misF nK me ab bl s (-1)) 0 5)) (am (gk nK me ab bl (am (fun s => misF nK me ab bl s (-1)) 0 5)) 0 nK))) else (-100002)) := by
  refine MR.ofW (cc := cX5_added) (maxL := 3) (ret := (some .int)) (by decide) rfl (Nat.le_of_ble_eq_true rfl) ?_
  intro p e s m below meth c A ls X hK hP hD hA hS hl
  obtain ⟨hx, hb, hml, hr, hts, hown, hlocks⟩ := id X
  have hl : lv_has ls 3 [(0, .ref (q 0)), (1, .int (iI w7))] := hl
  have f_57 := hts (Cond.fieldLink RX5 57 "TwoKeys" "oldOne" "LTwoKeys$OldOne;") (by decide +kernel)
  have f_223 := hts (Cond.fieldLink RX5 223 "TwoKeys$OldOne" "misfitFound" "I") (by decide +kernel)
  have k_147 := hts (Cond.constant RX5 147 (-100003)) (by decide +kernel)
  have k_65 := hts (Cond.constant RX5 65 (-100002)) (by decide +kernel)
  have n_X2 : ∀ w ∈ u_ws RX2 TX2 5, w ∈ wsX5_added := by decide +kernel
  have n_X5 : ∀ w ∈ u_ws RX5 TX5 9, w ∈ wsX5_added := by decide +kernel
  have iK := I.nK
  have cb := cm_b (nK := nK) (me := me) (by omega)
  refine lv_iload_n hx hb dX5_added_0 rfl (lv_at hl 1 rfl) ?_
  refine lv_iconst (v := iI (0)) hx hb dX5_added_1 rfl ?_
  refine lv_iconst (v := iI (1)) hx hb dX5_added_2 rfl ?_
  refine z_callSi (As := [.int (iI w7), .int (iI 0), .int (iI 1)]) (rest := []) X hK hP hD hA hS hl.1 gX5_added_X5_within rfl ⟨rfl, rfl⟩ hd_X5_within ⟨Nat.le_of_ble_eq_true rfl, Nat.le_of_ble_eq_true rfl⟩ rfl (Nat.le_of_ble_eq_true rfl) ⟨Nat.zero_le _, Nat.zero_le _⟩ rfl dX5_added_3 (c_X5_within w7 0 1 (by omega)) (fun H locs hP hD hS => ?_)
  refine z_ifp_ne (tgt := 12) hx hb dX5_added_6 (by decide) (fun c_1 => ?_) (fun c_1 => ?_)
  · refine lv_aload_n hx hb dX5_added_12 rfl (lv_at hl 0 rfl) ?_
    refine va_get (D := D) (ci := 5) (v := .ref (q 18)) (C := RX5) (T := TX5) (N := 9) hx hb hts n_X5 hown hK hP 0 rfl rfl 4 (by decide) f_57 (fun _ h9 => h9) rfl dX5_added_13 ?_
    refine z_callVi (ci := 2) (q0 := 18) (As := []) (rest := []) X hK hP hD hA hS hl.1 gX5_added_X2_countMeasured rfl ⟨rfl, rfl⟩ hd_X2_countMeasured ⟨Nat.le_of_ble_eq_true rfl, Nat.le_of_ble_eq_true rfl⟩ rfl rfl rfl (Nat.le_of_ble_eq_true rfl) ⟨Nat.zero_le _, Nat.zero_le _⟩ rfl dX5_added_16 (c_X2_countMeasured I) (fun H locs hP hD hS => ?_)
    refine lv_iconst (v := iI (2)) hx hb dX5_added_19 rfl ?_
    refine z_icmp_ge (tgt := 26) hx hb dX5_added_20 (by decide) (by omega) (fun c_2 => ?_) (fun c_2 => ?_)
    · refine lv_aload_n hx hb dX5_added_26 rfl (lv_at hl 0 rfl) ?_
      refine va_get (D := D) (ci := 5) (v := .ref (q 18)) (C := RX5) (T := TX5) (N := 9) hx hb hts n_X5 hown hK hP 0 rfl rfl 4 (by decide) f_57 (fun _ h9 => h9) rfl dX5_added_27 ?_
      refine z_callVr (ci := 2) (q0 := 18) (As := []) (rest := []) X hK hP hD hA hS hl.1 gX5_added_X2_keyAdded rfl ⟨rfl, rfl⟩ hd_X2_keyAdded ⟨Nat.le_of_ble_eq_true rfl, Nat.le_of_ble_eq_true rfl⟩ rfl rfl rfl (Nat.le_of_ble_eq_true rfl) ⟨Nat.zero_le _, Nat.zero_le _⟩ rfl dX5_added_30 (c_X2_keyAdded I (by omega)) (fun r8 w8 H locs hΨ hP hD hS => ?_)
      obtain ⟨pf2_3, rfl, rfl⟩ := hΨ
      refine lv_istore_n (lv' := [(2, .int (iI (am (gk nK me ab bl (am (fun s => misF nK me ab bl s (-1)) 0 5)) 0 nK))), (0, .ref (q 0)), (1, .int (iI w7))]) hx hb dX5_added_33 rfl hl (by decide) rfl (fun ls hl => ?_)
      refine lv_iload_n hx hb dX5_added_34 rfl (lv_at hl 2 rfl) ?_
      refine z_if_ne (tgt := 42) hx hb dX5_added_35 (by decide) (by omega) (fun c_4 => ?_) (fun c_4 => ?_)
      · refine lv_aload_n hx hb dX5_added_42 rfl (lv_at hl 1 rfl) ?_
        refine va_get (D := D) (ci := 5) (v := .ref (q 18)) (C := RX5) (T := TX5) (N := 9) hx hb hts n_X5 hown hK hP 0 rfl rfl 4 (by decide) f_57 (fun _ h9 => h9) rfl dX5_added_43 ?_
        refine va_get (D := D) (ci := 2) (v := .int (iI ((gk nK me ab bl (am (fun s => misF nK me ab bl s (-1)) 0 5)) (am (gk nK me ab bl (am (fun s => misF nK me ab bl s (-1)) 0 5)) 0 nK)))) (C := RX2) (T := TX2) (N := 5) hx hb hts n_X2 hown hK hP 18 rfl rfl 4 (by decide) f_223 (fun _ h9 => h9) rfl dX5_added_46 ?_
        exact z_iretR X hK hP hD hS dX5_added_49 (⟨_, _, rfl, by (repeat' split) <;> first | rfl | omega⟩)
      · refine lv_iload_n hx hb dX5_added_38 rfl (lv_at hl 0 rfl) ?_
        refine lv_goto (tgt := 49) hx hb dX5_added_39 (by decide) ?_
        exact z_iretR X hK hP hD hS dX5_added_49 (⟨_, _, rfl, by (repeat' split) <;> first | rfl | omega⟩)
    · refine z_ldc (n := -100003) hx hb hown k_147 (by decide) dX5_added_23 ?_
      exact z_iretR X hK hP hD hS dX5_added_25 (⟨_, _, rfl, by (repeat' split) <;> first | rfl | omega⟩)
  · refine z_ldc (n := -100002) hx hb hown k_65 (by decide) dX5_added_9 ?_
    exact z_iretR X hK hP hD hS dX5_added_11 (⟨_, _, rfl, by (repeat' split) <;> first | rfl | omega⟩)

theorem hd_X5_bentLater : yX5_bentLater.cls = RX5 ∧ yX5_bentLater.cls ≠ "java/lang/invoke/MethodHandle" ∧ yX5_bentLater.cls ≠ "java/lang/invoke/VarHandle" ∧ (parseMethodDescriptor yX5_bentLater.desc).map (fun d => d.parameters.length) = some 2 := by decide +kernel
set_option maxHeartbeats 4000000 in
set_option maxRecDepth 100000 in
theorem c_X5_bentLater (I : okS nK st le be te ab bl ka bg ln ns me sc pi re bk) (b9 : Int) (i9 : Int) (h : -2147483648 ≤ b9 ∧ b9 ≤ 2147483647 ∧ -2147483648 ≤ i9 ∧ i9 ≤ 2147483647) : MR l D cy yX5_bentLater wsX5_bentLater ({ frames := 6, cells := 0, slots := 0, locals := 155 } : Room) [.ref (q 0), .int (iI b9), .int (iI i9)] (wT q cy nK st le be te ab bl ka bg ln ns me sc pi re bk pa lz go ss sm pf mf) (fun r8 w8 => ∃ pf2 : Int, ∃ mf2 : Int, w8 = wT q cy nK st le be te ab bl ka bg ln ns me sc pi re bk pa lz go ss sm pf2 mf2 ∧ r8 = if 0 ≤ b9 ∧ b9 ≤ 400000 then (if cm nK me = 0 then (-100003) else nth (fun k => me k ≠ -100009 ∧ b9 < aZ (gl ab bl (am (fun s => misF nK me ab bl s (-1)) 0 5) (pitF nK me ab bl (am (fun s => misF nK me ab bl s (-1)) 0 5) (-1)) k - me k)) nK i9 (fun k => k)) else (-100002)) := by
  refine MR.ofW (cc := cX5_bentLater) (maxL := 3) (ret := (some .int)) (by decide) rfl (Nat.le_of_ble_eq_true rfl) ?_
  intro p e s m below meth c A ls X hK hP hD hA hS hl
  obtain ⟨hx, hb, hml, hr, hts, hown, hlocks⟩ := id X
  have hl : lv_has ls 3 [(0, .ref (q 0)), (1, .int (iI b9)), (2, .int (iI i9))] := hl
  have k_206 := hts (Cond.constant RX5 206 (400000)) (by decide +kernel)
  have f_57 := hts (Cond.fieldLink RX5 57 "TwoKeys" "oldOne" "LTwoKeys$OldOne;") (by decide +kernel)
  have k_147 := hts (Cond.constant RX5 147 (-100003)) (by decide +kernel)
  have k_65 := hts (Cond.constant RX5 65 (-100002)) (by decide +kernel)
  have n_X5 : ∀ w ∈ u_ws RX5 TX5 9, w ∈ wsX5_bentLater := by decide +kernel
  have iK := I.nK
  have cb := cm_b (nK := nK) (me := me) (by omega)
  refine lv_iload_n hx hb dX5_bentLater_0 rfl (lv_at hl 1 rfl) ?_
  refine lv_iconst (v := iI (0)) hx hb dX5_bentLater_1 rfl ?_
  refine z_ldc (n := 400000) hx hb hown k_206 (by decide) dX5_bentLater_2 ?_
  refine z_callSi (As := [.int (iI b9), .int (iI 0), .int (iI 400000)]) (rest := []) X hK hP hD hA hS hl.1 gX5_bentLater_X5_within rfl ⟨rfl, rfl⟩ hd_X5_within ⟨Nat.le_of_ble_eq_true rfl, Nat.le_of_ble_eq_true rfl⟩ rfl (Nat.le_of_ble_eq_true rfl) ⟨Nat.zero_le _, Nat.zero_le _⟩ rfl dX5_bentLater_4 (c_X5_within b9 0 400000 (by omega)) (fun H locs hP hD hS => ?_)
  refine z_ifp_ne (tgt := 13) hx hb dX5_bentLater_7 (by decide) (fun c_1 => ?_) (fun c_1 => ?_)
  · refine lv_aload_n hx hb dX5_bentLater_13 rfl (lv_at hl 0 rfl) ?_
    refine va_get (D := D) (ci := 5) (v := .ref (q 18)) (C := RX5) (T := TX5) (N := 9) hx hb hts n_X5 hown hK hP 0 rfl rfl 4 (by decide) f_57 (fun _ h9 => h9) rfl dX5_bentLater_14 ?_
    refine z_callVi (ci := 2) (q0 := 18) (As := []) (rest := []) X hK hP hD hA hS hl.1 gX5_bentLater_X2_countMeasured rfl ⟨rfl, rfl⟩ hd_X2_countMeasured ⟨Nat.le_of_ble_eq_true rfl, Nat.le_of_ble_eq_true rfl⟩ rfl rfl rfl (Nat.le_of_ble_eq_true rfl) ⟨Nat.zero_le _, Nat.zero_le _⟩ rfl dX5_bentLater_17 (c_X2_countMeasured I) (fun H locs hP hD hS => ?_)
    refine lv_iconst (v := iI (1)) hx hb dX5_bentLater_20 rfl ?_
    refine z_icmp_ge (tgt := 27) hx hb dX5_bentLater_21 (by decide) (by omega) (fun c_2 => ?_) (fun c_2 => ?_)
    · refine lv_aload_n hx hb dX5_bentLater_27 rfl (lv_at hl 0 rfl) ?_
      refine va_get (D := D) (ci := 5) (v := .ref (q 18)) (C := RX5) (T := TX5) (N := 9) hx hb hts n_X5 hown hK hP 0 rfl rfl 4 (by decide) f_57 (fun _ h9 => h9) rfl dX5_bentLater_28 ?_
      refine lv_iload_n hx hb dX5_bentLater_31 rfl (lv_at hl 1 rfl) ?_
      refine lv_iload_n hx hb dX5_bentLater_32 rfl (lv_at hl 2 rfl) ?_
      refine z_callVi (ci := 2) (q0 := 18) (As := [.int (iI b9), .int (iI i9)]) (rest := []) X hK hP hD hA hS hl.1 gX5_bentLater_X2_keyBentLater rfl ⟨rfl, rfl⟩ hd_X2_keyBentLater ⟨Nat.le_of_ble_eq_true rfl, Nat.le_of_ble_eq_true rfl⟩ rfl rfl rfl (Nat.le_of_ble_eq_true rfl) ⟨Nat.zero_le _, Nat.zero_le _⟩ rfl dX5_bentLater_33 (c_X2_keyBentLater I b9 i9 (by omega) (by omega)) (fun H locs hP hD hS => ?_)
      exact z_iretR X hK hP hD hS dX5_bentLater_36 (⟨_, _, rfl, by (repeat' split) <;> first | rfl | omega⟩)
    · refine z_ldc (n := -100003) hx hb hown k_147 (by decide) dX5_bentLater_24 ?_
      exact z_iretR X hK hP hD hS dX5_bentLater_26 (⟨_, _, rfl, by (repeat' split) <;> first | rfl | omega⟩)
  · refine z_ldc (n := -100002) hx hb hown k_65 (by decide) dX5_bentLater_10 ?_
    exact z_iretR X hK hP hD hS dX5_bentLater_12 (⟨_, _, rfl, by (repeat' split) <;> first | rfl | omega⟩)
