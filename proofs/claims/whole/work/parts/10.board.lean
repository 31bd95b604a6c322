variable {l : Launch} {D : va_G} {cy : ClassId} {q : Nat → Nat} {nK sc pi re bk ss sm pf mf th lo : Int} {st le be te ab bl ka bg ln ns me pa lz go co bs gr : Int → Int}
theorem hd_X5_within : yX5_within.cls ≠ "java/lang/invoke/MethodHandle" ∧ yX5_within.cls ≠ "java/lang/invoke/VarHandle" ∧ (parseMethodDescriptor yX5_within.desc).map (fun d => d.parameters.length) = some 3 := by decide +kernel
set_option maxHeartbeats 4000000 in
set_option maxRecDepth 100000 in
theorem c_X5_within (v : Int) (lo1 : Int) (hi1 : Int) (h : -2147483648 ≤ v ∧ v ≤ 2147483647 ∧ -2147483648 ≤ lo1 ∧ lo1 ≤ 2147483647 ∧ -2147483648 ≤ hi1 ∧ hi1 ≤ 2147483647) : MI l D cy yX5_within wsX5_within ({ frames := 0, cells := 0, slots := 0, locals := 0 } : Room) [.int (iI v), .int (iI lo1), .int (iI hi1)] (wT q cy nK st le be te ab bl ka bg ln ns me sc pi re bk pa lz go ss sm pf mf) (bP (lo1 ≤ v ∧ v ≤ hi1)) (wT q cy nK st le be te ab bl ka bg ln ns me sc pi re bk pa lz go ss sm pf mf) := by
  refine MI.ofW (cc := cX5_within) (maxL := 3) (ret := (some .boolean)) (by decide) rfl (Nat.le_of_ble_eq_true rfl) ?_
  intro p e s m below meth c A ls X hK hP hD hA hS hl
  obtain ⟨hx, hb, hml, hr, hts, hown, hlocks⟩ := id X
  have hl : lv_has ls 3 [(0, .int (iI v)), (1, .int (iI lo1)), (2, .int (iI hi1))] := hl
  refine lv_iload_n hx hb dX5_within_0 rfl (lv_at hl 1 rfl) ?_
  refine lv_iload_n hx hb dX5_within_1 rfl (lv_at hl 0 rfl) ?_
  refine z_icmp_gt (tgt := 14) hx hb dX5_within_2 (by decide) (by omega) (fun c_1 => ?_) (fun c_1 => ?_)
  · refine lv_iconst (v := iI (0)) hx hb dX5_within_14 rfl ?_
    exact z_pret0 X hK hP hD hS dX5_within_15 (by first | rfl | omega | grind)
  · refine lv_iload_n hx hb dX5_within_5 rfl (lv_at hl 0 rfl) ?_
    refine lv_iload_n hx hb dX5_within_6 rfl (lv_at hl 2 rfl) ?_
    refine z_icmp_gt (tgt := 14) hx hb dX5_within_7 (by decide) (by omega) (fun c_2 => ?_) (fun c_2 => ?_)
    · refine lv_iconst (v := iI (0)) hx hb dX5_within_14 rfl ?_
      exact z_pret0 X hK hP hD hS dX5_within_15 (by first | rfl | omega | grind)
    · refine lv_iconst (v := iI (1)) hx hb dX5_within_10 rfl ?_
      refine lv_goto (tgt := 15) hx hb dX5_within_11 (by decide) ?_
      exact z_pret1 X hK hP hD hS dX5_within_15 (by first | rfl | omega | grind)

theorem hd_X5_isString : yX5_isString.cls ≠ "java/lang/invoke/MethodHandle" ∧ yX5_isString.cls ≠ "java/lang/invoke/VarHandle" ∧ (parseMethodDescriptor yX5_isString.desc).map (fun d => d.parameters.length) = some 1 := by decide +kernel
set_option maxHeartbeats 4000000 in
set_option maxRecDepth 100000 in
theorem c_X5_isString (v : Int) (h : -2147483648 ≤ v ∧ v ≤ 2147483647) : MI l D cy yX5_isString wsX5_isString ({ frames := 1, cells := 0, slots := 0, locals := 22 } : Room) [.int (iI v)] (wT q cy nK st le be te ab bl ka bg ln ns me sc pi re bk pa lz go ss sm pf mf) (bP (0 ≤ v ∧ v ≤ 23)) (wT q cy nK st le be te ab bl ka bg ln ns me sc pi re bk pa lz go ss sm pf mf) := by
  refine MI.ofW (cc := cX5_isString) (maxL := 1) (ret := (some .boolean)) (by decide) rfl (Nat.le_of_ble_eq_true rfl) ?_
  intro p e s m below meth c A ls X hK hP hD hA hS hl
  obtain ⟨hx, hb, hml, hr, hts, hown, hlocks⟩ := id X
  have hl : lv_has ls 1 [(0, .int (iI v))] := hl
  refine lv_iload_n hx hb dX5_isString_0 rfl (lv_at hl 0 rfl) ?_
  refine lv_iconst (v := iI (0)) hx hb dX5_isString_1 rfl ?_
  refine lv_bipush (v := iI (23)) hx hb dX5_isString_2 (by decide) ?_
  refine z_callSi (As := [.int (iI v), .int (iI 0), .int (iI 23)]) (rest := []) X hK hP hD hA hS hl.1 gX5_isString_X5_within rfl ⟨rfl, rfl⟩ hd_X5_within ⟨Nat.le_of_ble_eq_true rfl, Nat.le_of_ble_eq_true rfl⟩ rfl (Nat.le_of_ble_eq_true rfl) ⟨Nat.zero_le _, Nat.zero_le _⟩ rfl dX5_isString_4 (c_X5_within v 0 23 (by omega)) (fun H locs hP hD hS => ?_)
  exact z_pretp X hK hP hD hS dX5_isString_7 (Iff.rfl)

theorem hd_X5_isScale : yX5_isScale.cls ≠ "java/lang/invoke/MethodHandle" ∧ yX5_isScale.cls ≠ "java/lang/invoke/VarHandle" ∧ (parseMethodDescriptor yX5_isScale.desc).map (fun d => d.parameters.length) = some 1 := by decide +kernel
set_option maxHeartbeats 4000000 in
set_option maxRecDepth 100000 in
theorem c_X5_isScale (v : Int) (h : -2147483648 ≤ v ∧ v ≤ 2147483647) : MI l D cy yX5_isScale wsX5_isScale ({ frames := 1, cells := 0, slots := 0, locals := 22 } : Room) [.int (iI v)] (wT q cy nK st le be te ab bl ka bg ln ns me sc pi re bk pa lz go ss sm pf mf) (bP (0 ≤ v ∧ v ≤ 4)) (wT q cy nK st le be te ab bl ka bg ln ns me sc pi re bk pa lz go ss sm pf mf) := by
  refine MI.ofW (cc := cX5_isScale) (maxL := 1) (ret := (some .boolean)) (by decide) rfl (Nat.le_of_ble_eq_true rfl) ?_
  intro p e s m below meth c A ls X hK hP hD hA hS hl
  obtain ⟨hx, hb, hml, hr, hts, hown, hlocks⟩ := id X
  have hl : lv_has ls 1 [(0, .int (iI v))] := hl
  refine lv_iload_n hx hb dX5_isScale_0 rfl (lv_at hl 0 rfl) ?_
  refine lv_iconst (v := iI (0)) hx hb dX5_isScale_1 rfl ?_
  refine lv_iconst (v := iI (4)) hx hb dX5_isScale_2 rfl ?_
  refine z_callSi (As := [.int (iI v), .int (iI 0), .int (iI 4)]) (rest := []) X hK hP hD hA hS hl.1 gX5_isScale_X5_within rfl ⟨rfl, rfl⟩ hd_X5_within ⟨Nat.le_of_ble_eq_true rfl, Nat.le_of_ble_eq_true rfl⟩ rfl (Nat.le_of_ble_eq_true rfl) ⟨Nat.zero_le _, Nat.zero_le _⟩ rfl dX5_isScale_3 (c_X5_within v 0 4 (by omega)) (fun H locs hP hD hS => ?_)
  exact z_pretp X hK hP hD hS dX5_isScale_6 (Iff.rfl)

theorem hd_X5_isStep : yX5_isStep.cls ≠ "java/lang/invoke/MethodHandle" ∧ yX5_isStep.cls ≠ "java/lang/invoke/VarHandle" ∧ (parseMethodDescriptor yX5_isStep.desc).map (fun d => d.parameters.length) = some 1 := by decide +kernel
set_option maxHeartbeats 4000000 in
set_option maxRecDepth 100000 in
theorem c_X5_isStep (v : Int) (h : -2147483648 ≤ v ∧ v ≤ 2147483647) : MI l D cy yX5_isStep wsX5_isStep ({ frames := 1, cells := 0, slots := 0, locals := 22 } : Room) [.int (iI v)] (wT q cy nK st le be te ab bl ka bg ln ns me sc pi re bk pa lz go ss sm pf mf) (bP (0 ≤ v ∧ v ≤ 11)) (wT q cy nK st le be te ab bl ka bg ln ns me sc pi re bk pa lz go ss sm pf mf) := by
  refine MI.ofW (cc := cX5_isStep) (maxL := 1) (ret := (some .boolean)) (by decide) rfl (Nat.le_of_ble_eq_true rfl) ?_
  intro p e s m below meth c A ls X hK hP hD hA hS hl
  obtain ⟨hx, hb, hml, hr, hts, hown, hlocks⟩ := id X
  have hl : lv_has ls 1 [(0, .int (iI v))] := hl
  refine lv_iload_n hx hb dX5_isStep_0 rfl (lv_at hl 0 rfl) ?_
  refine lv_iconst (v := iI (0)) hx hb dX5_isStep_1 rfl ?_
  refine lv_bipush (v := iI (11)) hx hb dX5_isStep_2 (by decide) ?_
  refine z_callSi (As := [.int (iI v), .int (iI 0), .int (iI 11)]) (rest := []) X hK hP hD hA hS hl.1 gX5_isStep_X5_within rfl ⟨rfl, rfl⟩ hd_X5_within ⟨Nat.le_of_ble_eq_true rfl, Nat.le_of_ble_eq_true rfl⟩ rfl (Nat.le_of_ble_eq_true rfl) ⟨Nat.zero_le _, Nat.zero_le _⟩ rfl dX5_isStep_4 (c_X5_within v 0 11 (by omega)) (fun H locs hP hD hS => ?_)
  exact z_pretp X hK hP hD hS dX5_isStep_7 (Iff.rfl)

theorem hd_X5_isPiece : yX5_isPiece.cls ≠ "java/lang/invoke/MethodHandle" ∧ yX5_isPiece.cls ≠ "java/lang/invoke/VarHandle" ∧ (parseMethodDescriptor yX5_isPiece.desc).map (fun d => d.parameters.length) = some 1 := by decide +kernel
set_option maxHeartbeats 4000000 in
set_option maxRecDepth 100000 in
theorem c_X5_isPiece (v : Int) (h : -2147483648 ≤ v ∧ v ≤ 2147483647) : MI l D cy yX5_isPiece wsX5_isPiece ({ frames := 1, cells := 0, slots := 0, locals := 22 } : Room) [.int (iI v)] (wT q cy nK st le be te ab bl ka bg ln ns me sc pi re bk pa lz go ss sm pf mf) (bP (0 ≤ v ∧ v ≤ 3)) (wT q cy nK st le be te ab bl ka bg ln ns me sc pi re bk pa lz go ss sm pf mf) := by
  refine MI.ofW (cc := cX5_isPiece) (maxL := 1) (ret := (some .boolean)) (by decide) rfl (Nat.le_of_ble_eq_true rfl) ?_
  intro p e s m below meth c A ls X hK hP hD hA hS hl
  obtain ⟨hx, hb, hml, hr, hts, hown, hlocks⟩ := id X
  have hl : lv_has ls 1 [(0, .int (iI v))] := hl
  refine lv_iload_n hx hb dX5_isPiece_0 rfl (lv_at hl 0 rfl) ?_
  refine lv_iconst (v := iI (0)) hx hb dX5_isPiece_1 rfl ?_
  refine lv_iconst (v := iI (3)) hx hb dX5_isPiece_2 rfl ?_
  refine z_callSi (As := [.int (iI v), .int (iI 0), .int (iI 3)]) (rest := []) X hK hP hD hA hS hl.1 gX5_isPiece_X5_within rfl ⟨rfl, rfl⟩ hd_X5_within ⟨Nat.le_of_ble_eq_true rfl, Nat.le_of_ble_eq_true rfl⟩ rfl (Nat.le_of_ble_eq_true rfl) ⟨Nat.zero_le _, Nat.zero_le _⟩ rfl dX5_isPiece_3 (c_X5_within v 0 3 (by omega)) (fun H locs hP hD hS => ?_)
  exact z_pretp X hK hP hD hS dX5_isPiece_6 (Iff.rfl)

theorem hd_X5_isPitch : yX5_isPitch.cls ≠ "java/lang/invoke/MethodHandle" ∧ yX5_isPitch.cls ≠ "java/lang/invoke/VarHandle" ∧ (parseMethodDescriptor yX5_isPitch.desc).map (fun d => d.parameters.length) = some 1 := by decide +kernel
set_option maxHeartbeats 4000000 in
set_option maxRecDepth 100000 in
theorem c_X5_isPitch (v : Int) (h : -2147483648 ≤ v ∧ v ≤ 2147483647) : MI l D cy yX5_isPitch wsX5_isPitch ({ frames := 1, cells := 0, slots := 0, locals := 22 } : Room) [.int (iI v)] (wT q cy nK st le be te ab bl ka bg ln ns me sc pi re bk pa lz go ss sm pf mf) (bP (1000 ≤ v ∧ v ≤ 200000)) (wT q cy nK st le be te ab bl ka bg ln ns me sc pi re bk pa lz go ss sm pf mf) := by
  refine MI.ofW (cc := cX5_isPitch) (maxL := 1) (ret := (some .boolean)) (by decide) rfl (Nat.le_of_ble_eq_true rfl) ?_
  intro p e s m below meth c A ls X hK hP hD hA hS hl
  obtain ⟨hx, hb, hml, hr, hts, hown, hlocks⟩ := id X
  have hl : lv_has ls 1 [(0, .int (iI v))] := hl
  have k_264 := hts (Cond.constant RX5 264 (200000)) (by decide +kernel)
  refine lv_iload_n hx hb dX5_isPitch_0 rfl (lv_at hl 0 rfl) ?_
  refine lv_sipush (v := iI (1000)) hx hb dX5_isPitch_1 (by decide) ?_
  refine z_ldcw (n := 200000) hx hb hown k_264 (by decide) dX5_isPitch_4 ?_
  refine z_callSi (As := [.int (iI v), .int (iI 1000), .int (iI 200000)]) (rest := []) X hK hP hD hA hS hl.1 gX5_isPitch_X5_within rfl ⟨rfl, rfl⟩ hd_X5_within ⟨Nat.le_of_ble_eq_true rfl, Nat.le_of_ble_eq_true rfl⟩ rfl (Nat.le_of_ble_eq_true rfl) ⟨Nat.zero_le _, Nat.zero_le _⟩ rfl dX5_isPitch_7 (c_X5_within v 1000 200000 (by omega)) (fun H locs hP hD hS => ?_)
  exact z_pretp X hK hP hD hS dX5_isPitch_10 (Iff.rfl)

theorem hd_X5_isMost : yX5_isMost.cls ≠ "java/lang/invoke/MethodHandle" ∧ yX5_isMost.cls ≠ "java/lang/invoke/VarHandle" ∧ (parseMethodDescriptor yX5_isMost.desc).map (fun d => d.parameters.length) = some 1 := by decide +kernel
set_option maxHeartbeats 4000000 in
set_option maxRecDepth 100000 in
theorem c_X5_isMost (v : Int) (h : -2147483648 ≤ v ∧ v ≤ 2147483647) : MI l D cy yX5_isMost wsX5_isMost ({ frames := 1, cells := 0, slots := 0, locals := 22 } : Room) [.int (iI v)] (wT q cy nK st le be te ab bl ka bg ln ns me sc pi re bk pa lz go ss sm pf mf) (bP (1 ≤ v ∧ v ≤ 6)) (wT q cy nK st le be te ab bl ka bg ln ns me sc pi re bk pa lz go ss sm pf mf) := by
  refine MI.ofW (cc := cX5_isMost) (maxL := 1) (ret := (some .boolean)) (by decide) rfl (Nat.le_of_ble_eq_true rfl) ?_
  intro p e s m below meth c A ls X hK hP hD hA hS hl
  obtain ⟨hx, hb, hml, hr, hts, hown, hlocks⟩ := id X
  have hl : lv_has ls 1 [(0, .int (iI v))] := hl
  refine lv_iload_n hx hb dX5_isMost_0 rfl (lv_at hl 0 rfl) ?_
  refine lv_iconst (v := iI (1)) hx hb dX5_isMost_1 rfl ?_
  refine lv_bipush (v := iI (6)) hx hb dX5_isMost_2 (by decide) ?_
  refine z_callSi (As := [.int (iI v), .int (iI 1), .int (iI 6)]) (rest := []) X hK hP hD hA hS hl.1 gX5_isMost_X5_within rfl ⟨rfl, rfl⟩ hd_X5_within ⟨Nat.le_of_ble_eq_true rfl, Nat.le_of_ble_eq_true rfl⟩ rfl (Nat.le_of_ble_eq_true rfl) ⟨Nat.zero_le _, Nat.zero_le _⟩ rfl dX5_isMost_4 (c_X5_within v 1 6 (by omega)) (fun H locs hP hD hS => ?_)
  exact z_pretp X hK hP hD hS dX5_isMost_7 (Iff.rfl)

theorem hd_X5_asNumber : yX5_asNumber.cls ≠ "java/lang/invoke/MethodHandle" ∧ yX5_asNumber.cls ≠ "java/lang/invoke/VarHandle" ∧ (parseMethodDescriptor yX5_asNumber.desc).map (fun d => d.parameters.length) = some 1 := by decide +kernel
set_option maxHeartbeats 4000000 in
set_option maxRecDepth 100000 in
theorem c_X5_asNumber (z : Int) (h : 0 ≤ z ∧ z ≤ 1) : MI l D cy yX5_asNumber wsX5_asNumber ({ frames := 0, cells := 0, slots := 0, locals := 0 } : Room) [.int (iI z)] (wT q cy nK st le be te ab bl ka bg ln ns me sc pi re bk pa lz go ss sm pf mf) z (wT q cy nK st le be te ab bl ka bg ln ns me sc pi re bk pa lz go ss sm pf mf) := by
  refine MI.ofW (cc := cX5_asNumber) (maxL := 1) (ret := (some .int)) (by decide) rfl (Nat.le_of_ble_eq_true rfl) ?_
  intro p e s m below meth c A ls X hK hP hD hA hS hl
  obtain ⟨hx, hb, hml, hr, hts, hown, hlocks⟩ := id X
  have hl : lv_has ls 1 [(0, .int (iI z))] := hl
  refine lv_iload_n hx hb dX5_asNumber_0 rfl (lv_at hl 0 rfl) ?_
  refine z_if_eq (tgt := 8) hx hb dX5_asNumber_1 (by decide) (by omega) (fun c_1 => ?_) (fun c_1 => ?_)
  · refine lv_iconst (v := iI (0)) hx hb dX5_asNumber_8 rfl ?_
    exact z_iret X hK hP hD hS dX5_asNumber_9 (by first | rfl | omega | grind)
  · refine lv_iconst (v := iI (1)) hx hb dX5_asNumber_4 rfl ?_
    refine lv_goto (tgt := 9) hx hb dX5_asNumber_5 (by decide) ?_
    exact z_iret X hK hP hD hS dX5_asNumber_9 (by first | rfl | omega | grind)

theorem hd_X0_has : yX0_has.cls = RX0 ∧ yX0_has.cls ≠ "java/lang/invoke/MethodHandle" ∧ yX0_has.cls ≠ "java/lang/invoke/VarHandle" ∧ (parseMethodDescriptor yX0_has.desc).map (fun d => d.parameters.length) = some 1 := by decide +kernel
set_option maxHeartbeats 4000000 in
set_option maxRecDepth 100000 in
theorem c_X0_has (I : okS nK st le be te ab bl ka bg ln ns me sc pi re bk) (k : Int) (h : -2147483648 ≤ k ∧ k ≤ 2147483647) : MI l D cy yX0_has wsX0_has ({ frames := 0, cells := 0, slots := 0, locals := 0 } : Room) [.ref (q 1), .int (iI k)] (wT q cy nK st le be te ab bl ka bg ln ns me sc pi re bk pa lz go ss sm pf mf) (bP (0 ≤ k ∧ k < nK)) (wT q cy nK st le be te ab bl ka bg ln ns me sc pi re bk pa lz go ss sm pf mf) := by
  refine MI.ofW (cc := cX0_has) (maxL := 2) (ret := (some .boolean)) (by decide) rfl (Nat.le_of_ble_eq_true rfl) ?_
  intro p e s m below meth c A ls X hK hP hD hA hS hl
  obtain ⟨hx, hb, hml, hr, hts, hown, hlocks⟩ := id X
  have hl : lv_has ls 2 [(0, .ref (q 1)), (1, .int (iI k))] := hl
  have f_9 := hts (Cond.fieldLink RX0 9 "TwoKeys$Board" "size" "I") (by decide +kernel)
  have n_X0 : ∀ w ∈ u_ws RX0 TX0 5, w ∈ wsX0_has := by decide +kernel
  have iK := I.nK
  refine lv_iconst (v := iI (0)) hx hb dX0_has_0 rfl ?_
  refine lv_iload_n hx hb dX0_has_1 rfl (lv_at hl 1 rfl) ?_
  refine z_icmp_gt (tgt := 17) hx hb dX0_has_2 (by decide) (by omega) (fun c_1 => ?_) (fun c_1 => ?_)
  · refine lv_iconst (v := iI (0)) hx hb dX0_has_17 rfl ?_
    exact z_pret0 X hK hP hD hS dX0_has_18 (by first | rfl | omega | grind)
  · refine lv_iload_n hx hb dX0_has_5 rfl (lv_at hl 1 rfl) ?_
    refine lv_aload_n hx hb dX0_has_6 rfl (lv_at hl 0 rfl) ?_
    refine va_get (D := D) (ci := 0) (v := .int (iI nK)) (C := RX0) (T := TX0) (N := 5) hx hb hts n_X0 hown hK hP 1 rfl rfl 0 (by decide) f_9 (fun _ h9 => h9) rfl dX0_has_7 ?_
    refine z_icmp_ge (tgt := 17) hx hb dX0_has_10 (by decide) (by omega) (fun c_2 => ?_) (fun c_2 => ?_)
    · refine lv_iconst (v := iI (0)) hx hb dX0_has_17 rfl ?_
      exact z_pret0 X hK hP hD hS dX0_has_18 (by first | rfl | omega | grind)
    · refine lv_iconst (v := iI (1)) hx hb dX0_has_13 rfl ?_
      refine lv_goto (tgt := 18) hx hb dX0_has_14 (by decide) ?_
      exact z_pret1 X hK hP hD hS dX0_has_18 (by first | rfl | omega | grind)

theorem hd_X0_soundingLength : yX0_soundingLength.cls = RX0 ∧ yX0_soundingLength.cls ≠ "java/lang/invoke/MethodHandle" ∧ yX0_soundingLength.cls ≠ "java/lang/invoke/VarHandle" ∧ (parseMethodDescriptor yX0_soundingLength.desc).map (fun d => d.parameters.length) = some 1 := by decide +kernel
set_option maxHeartbeats 4000000 in
set_option maxRecDepth 100000 in
theorem c_X0_soundingLength (I : okS nK st le be te ab bl ka bg ln ns me sc pi re bk) (k : Int) (h : 0 ≤ k ∧ k < 24) : MI l D cy yX0_soundingLength wsX0_soundingLength ({ frames := 0, cells := 0, slots := 0, locals := 0 } : Room) [.ref (q 1), .int (iI k)] (wT q cy nK st le be te ab bl ka bg ln ns me sc pi re bk pa lz go ss sm pf mf) (le k + be k) (wT q cy nK st le be te ab bl ka bg ln ns me sc pi re bk pa lz go ss sm pf mf) := by
  refine MI.ofW (cc := cX0_soundingLength) (maxL := 2) (ret := (some .int)) (by decide) rfl (Nat.le_of_ble_eq_true rfl) ?_
  intro p e s m below meth c A ls X hK hP hD hA hS hl
  obtain ⟨hx, hb, hml, hr, hts, hown, hlocks⟩ := id X
  have hl : lv_has ls 2 [(0, .ref (q 1)), (1, .int (iI k))] := hl
  have f_19 := hts (Cond.fieldLink RX0 19 "TwoKeys$Board" "lengths" "[I") (by decide +kernel)
  have f_22 := hts (Cond.fieldLink RX0 22 "TwoKeys$Board" "bends" "[I") (by decide +kernel)
  have n_X0 : ∀ w ∈ u_ws RX0 TX0 5, w ∈ wsX0_soundingLength := by decide +kernel
  have iK := I.nK
  refine lv_aload_n hx hb dX0_soundingLength_0 rfl (lv_at hl 0 rfl) ?_
  refine va_get (D := D) (ci := 0) (v := .ref (q 3)) (C := RX0) (T := TX0) (N := 5) hx hb hts n_X0 hown hK hP 1 rfl rfl 2 (by decide) f_19 (fun _ h9 => h9) rfl dX0_soundingLength_1 ?_
  refine lv_iload_n hx hb dX0_soundingLength_4 rfl (lv_at hl 1 rfl) ?_
  refine z_iald hx hb hK hP 3 0 rfl rfl (by omega) dX0_soundingLength_5 ?_
  have b_1 := I.le k
  refine lv_aload_n hx hb dX0_soundingLength_6 rfl (lv_at hl 0 rfl) ?_
  refine va_get (D := D) (ci := 0) (v := .ref (q 4)) (C := RX0) (T := TX0) (N := 5) hx hb hts n_X0 hown hK hP 1 rfl rfl 3 (by decide) f_22 (fun _ h9 => h9) rfl dX0_soundingLength_7 ?_
  refine lv_iload_n hx hb dX0_soundingLength_10 rfl (lv_at hl 1 rfl) ?_
  refine z_iald hx hb hK hP 4 0 rfl rfl (by omega) dX0_soundingLength_11 ?_
  have b_2 := I.be k
  refine z_iadd hx hb dX0_soundingLength_12 ?_
  exact z_iret X hK hP hD hS dX0_soundingLength_13 (by first | rfl | omega | grind)

theorem hd_X0_toneBent : yX0_toneBent.cls = RX0 ∧ yX0_toneBent.cls ≠ "java/lang/invoke/MethodHandle" ∧ yX0_toneBent.cls ≠ "java/lang/invoke/VarHandle" ∧ (parseMethodDescriptor yX0_toneBent.desc).map (fun d => d.parameters.length) = some 2 := by decide +kernel
set_option maxHeartbeats 4000000 in
set_option maxRecDepth 100000 in
theorem c_X0_toneBent (I : okS nK st le be te ab bl ka bg ln ns me sc pi re bk) (k : Int) (b : Int) (h : 0 ≤ k ∧ k < 24) (h2 : -40 ≤ b ∧ b ≤ 40) : MI l D cy yX0_toneBent wsX0_toneBent ({ frames := 0, cells := 0, slots := 0, locals := 0 } : Room) [.ref (q 1), .int (iI k), .int (iI b)] (wT q cy nK st le be te ab bl ka bg ln ns me sc pi re bk pa lz go ss sm pf mf) (te (st k) * 10000 / (le k + b)) (wT q cy nK st le be te ab bl ka bg ln ns me sc pi re bk pa lz go ss sm pf mf) := by
  refine MI.ofW (cc := cX0_toneBent) (maxL := 4) (ret := (some .int)) (by decide) rfl (Nat.le_of_ble_eq_true rfl) ?_
  intro p e s m below meth c A ls X hK hP hD hA hS hl
  obtain ⟨hx, hb, hml, hr, hts, hown, hlocks⟩ := id X
  have hl : lv_has ls 4 [(0, .ref (q 1)), (1, .int (iI k)), (2, .int (iI b))] := hl
  have f_19 := hts (Cond.fieldLink RX0 19 "TwoKeys$Board" "lengths" "[I") (by decide +kernel)
  have f_25 := hts (Cond.fieldLink RX0 25 "TwoKeys$Board" "tensions" "[I") (by decide +kernel)
  have f_15 := hts (Cond.fieldLink RX0 15 "TwoKeys$Board" "struck" "[I") (by decide +kernel)
  have n_X0 : ∀ w ∈ u_ws RX0 TX0 5, w ∈ wsX0_toneBent := by decide +kernel
  have iK := I.nK
  refine lv_aload_n hx hb dX0_toneBent_0 rfl (lv_at hl 0 rfl) ?_
  refine va_get (D := D) (ci := 0) (v := .ref (q 3)) (C := RX0) (T := TX0) (N := 5) hx hb hts n_X0 hown hK hP 1 rfl rfl 2 (by decide) f_19 (fun _ h9 => h9) rfl dX0_toneBent_1 ?_
  refine lv_iload_n hx hb dX0_toneBent_4 rfl (lv_at hl 1 rfl) ?_
  refine z_iald hx hb hK hP 3 0 rfl rfl (by omega) dX0_toneBent_5 ?_
  have b_1 := I.le k
  refine lv_iload_n hx hb dX0_toneBent_6 rfl (lv_at hl 2 rfl) ?_
  refine z_iadd hx hb dX0_toneBent_7 ?_
  refine lv_istore_n (lv' := [(3, .int (iI ((le k) + b))), (0, .ref (q 1)), (1, .int (iI k)), (2, .int (iI b))]) hx hb dX0_toneBent_8 rfl hl (by decide) rfl (fun ls hl => ?_)
  refine lv_iload_n hx hb dX0_toneBent_9 rfl (lv_at hl 0 rfl) ?_
  refine lv_iconst (v := iI (1)) hx hb dX0_toneBent_10 rfl ?_
  refine z_icmp_ge (tgt := 18) hx hb dX0_toneBent_11 (by decide) (by omega) (fun c_2 => ?_) (fun c_2 => ?_)
  · refine lv_aload_n hx hb dX0_toneBent_18 rfl (lv_at hl 1 rfl) ?_
    refine va_get (D := D) (ci := 0) (v := .ref (q 5)) (C := RX0) (T := TX0) (N := 5) hx hb hts n_X0 hown hK hP 1 rfl rfl 4 (by decide) f_25 (fun _ h9 => h9) rfl dX0_toneBent_19 ?_
    refine lv_aload_n hx hb dX0_toneBent_22 rfl (lv_at hl 1 rfl) ?_
    refine va_get (D := D) (ci := 0) (v := .ref (q 2)) (C := RX0) (T := TX0) (N := 5) hx hb hts n_X0 hown hK hP 1 rfl rfl 1 (by decide) f_15 (fun _ h9 => h9) rfl dX0_toneBent_23 ?_
    refine lv_iload_n hx hb dX0_toneBent_26 rfl (lv_at hl 2 rfl) ?_
    refine z_iald hx hb hK hP 2 0 rfl rfl (by omega) dX0_toneBent_27 ?_
    have b_3 := I.st k
    refine z_iald hx hb hK hP 5 0 rfl rfl (by omega) dX0_toneBent_28 ?_
    have b_4 := I.te (st k)
    refine lv_sipush (v := iI (10000)) hx hb dX0_toneBent_29 (by decide) ?_
    refine z_imul hx hb dX0_toneBent_32 ?_
    refine lv_iload_n hx hb dX0_toneBent_33 rfl (lv_at hl 0 rfl) ?_
    refine z_idiv hx hb dX0_toneBent_34 (by omega) ?_
    exact z_iret X hK hP hD hS dX0_toneBent_35 (by first | rfl | omega | grind)
  · refine lv_iconst (v := iI (0)) hx hb dX0_toneBent_14 rfl ?_
    refine lv_goto (tgt := 35) hx hb dX0_toneBent_15 (by decide) ?_
    exact z_iret X hK hP hD hS dX0_toneBent_35 (by first | rfl | omega | grind)

theorem hd_X0_toneOf : yX0_toneOf.cls = RX0 ∧ yX0_toneOf.cls ≠ "java/lang/invoke/MethodHandle" ∧ yX0_toneOf.cls ≠ "java/lang/invoke/VarHandle" ∧ (parseMethodDescriptor yX0_toneOf.desc).map (fun d => d.parameters.length) = some 1 := by decide +kernel
set_option maxHeartbeats 4000000 in
set_option maxRecDepth 100000 in
theorem c_X0_toneOf (I : okS nK st le be te ab bl ka bg ln ns me sc pi re bk) (k : Int) (h : 0 ≤ k ∧ k < 24) : MI l D cy yX0_toneOf wsX0_toneOf ({ frames := 1, cells := 0, slots := 0, locals := 23 } : Room) [.ref (q 1), .int (iI k)] (wT q cy nK st le be te ab bl ka bg ln ns me sc pi re bk pa lz go ss sm pf mf) (te (st k) * 10000 / (le k + be k)) (wT q cy nK st le be te ab bl ka bg ln ns me sc pi re bk pa lz go ss sm pf mf) := by
  refine MI.ofW (cc := cX0_toneOf) (maxL := 2) (ret := (some .int)) (by decide) rfl (Nat.le_of_ble_eq_true rfl) ?_
  intro p e s m below meth c A ls X hK hP hD hA hS hl
  obtain ⟨hx, hb, hml, hr, hts, hown, hlocks⟩ := id X
  have hl : lv_has ls 2 [(0, .ref (q 1)), (1, .int (iI k))] := hl
  have f_22 := hts (Cond.fieldLink RX0 22 "TwoKeys$Board" "bends" "[I") (by decide +kernel)
  have n_X0 : ∀ w ∈ u_ws RX0 TX0 5, w ∈ wsX0_toneOf := by decide +kernel
  have iK := I.nK
  refine lv_aload_n hx hb dX0_toneOf_0 rfl (lv_at hl 0 rfl) ?_
  refine lv_iload_n hx hb dX0_toneOf_1 rfl (lv_at hl 1 rfl) ?_
  refine lv_aload_n hx hb dX0_toneOf_2 rfl (lv_at hl 0 rfl) ?_
  refine va_get (D := D) (ci := 0) (v := .ref (q 4)) (C := RX0) (T := TX0) (N := 5) hx hb hts n_X0 hown hK hP 1 rfl rfl 3 (by decide) f_22 (fun _ h9 => h9) rfl dX0_toneOf_3 ?_
  refine lv_iload_n hx hb dX0_toneOf_6 rfl (lv_at hl 1 rfl) ?_
  refine z_iald hx hb hK hP 4 0 rfl rfl (by omega) dX0_toneOf_7 ?_
  have b_1 := I.be k
  refine z_callVi (ci := 0) (q0 := 1) (As := [.int (iI k), .int (iI (be k))]) (rest := []) X hK hP hD hA hS hl.1 gX0_toneOf_X0_toneBent rfl ⟨rfl, rfl⟩ hd_X0_toneBent ⟨Nat.le_of_ble_eq_true rfl, Nat.le_of_ble_eq_true rfl⟩ rfl rfl rfl (Nat.le_of_ble_eq_true rfl) ⟨Nat.zero_le _, Nat.zero_le _⟩ rfl dX0_toneOf_8 (c_X0_toneBent I k (be k) (by omega) (by omega)) (fun H locs hP hD hS => ?_)
  exact z_iret X hK hP hD hS dX0_toneOf_11 (by first | rfl | omega | grind)

theorem hd_X0_strikes : yX0_strikes.cls = RX0 ∧ yX0_strikes.cls ≠ "java/lang/invoke/MethodHandle" ∧ yX0_strikes.cls ≠ "java/lang/invoke/VarHandle" ∧ (parseMethodDescriptor yX0_strikes.desc).map (fun d => d.parameters.length) = some 2 := by decide +kernel
set_option maxHeartbeats 4000000 in
set_option maxRecDepth 100000 in
theorem c_X0_strikes (I : okS nK st le be te ab bl ka bg ln ns me sc pi re bk) (k : Int) (s9 : Int) (h : -2147483648 ≤ k ∧ k ≤ 2147483647 ∧ -2147483648 ≤ s9 ∧ s9 ≤ 2147483647) : MI l D cy yX0_strikes wsX0_strikes ({ frames := 1, cells := 0, slots := 0, locals := 21 } : Room) [.ref (q 1), .int (iI k), .int (iI s9)] (wT q cy nK st le be te ab bl ka bg ln ns me sc pi re bk pa lz go ss sm pf mf) (bP ((0 ≤ k ∧ k < nK) ∧ st k = s9)) (wT q cy nK st le be te ab bl ka bg ln ns me sc pi re bk pa lz go ss sm pf mf) := by
  refine MI.ofW (cc := cX0_strikes) (maxL := 3) (ret := (some .boolean)) (by decide) rfl (Nat.le_of_ble_eq_true rfl) ?_
  intro p e s m below meth c A ls X hK hP hD hA hS hl
  obtain ⟨hx, hb, hml, hr, hts, hown, hlocks⟩ := id X
  have hl : lv_has ls 3 [(0, .ref (q 1)), (1, .int (iI k)), (2, .int (iI s9))] := hl
  have f_15 := hts (Cond.fieldLink RX0 15 "TwoKeys$Board" "struck" "[I") (by decide +kernel)
  have n_X0 : ∀ w ∈ u_ws RX0 TX0 5, w ∈ wsX0_strikes := by decide +kernel
  have iK := I.nK
  refine lv_aload_n hx hb dX0_strikes_0 rfl (lv_at hl 0 rfl) ?_
  refine lv_iload_n hx hb dX0_strikes_1 rfl (lv_at hl 1 rfl) ?_
  refine z_callVi (ci := 0) (q0 := 1) (As := [.int (iI k)]) (rest := []) X hK hP hD hA hS hl.1 gX0_strikes_X0_has rfl ⟨rfl, rfl⟩ hd_X0_has ⟨Nat.le_of_ble_eq_true rfl, Nat.le_of_ble_eq_true rfl⟩ rfl rfl rfl (Nat.le_of_ble_eq_true rfl) ⟨Nat.zero_le _, Nat.zero_le _⟩ rfl dX0_strikes_2 (c_X0_has I k (by omega)) (fun H locs hP hD hS => ?_)
  refine z_ifp_eq (tgt := 22) hx hb dX0_strikes_5 (by decide) (fun c_1 => ?_) (fun c_1 => ?_)
  · refine lv_iconst (v := iI (0)) hx hb dX0_strikes_22 rfl ?_
    exact z_pret0 X hK hP hD hS dX0_strikes_23 (by first | rfl | omega | grind)
  · refine lv_aload_n hx hb dX0_strikes_8 rfl (lv_at hl 0 rfl) ?_
    refine va_get (D := D) (ci := 0) (v := .ref (q 2)) (C := RX0) (T := TX0) (N := 5) hx hb hts n_X0 hown hK hP 1 rfl rfl 1 (by decide) f_15 (fun _ h9 => h9) rfl dX0_strikes_9 ?_
    refine lv_iload_n hx hb dX0_strikes_12 rfl (lv_at hl 1 rfl) ?_
    refine z_iald hx hb hK hP 2 0 rfl rfl (by omega) dX0_strikes_13 ?_
    have b_2 := I.st k
    refine lv_iload_n hx hb dX0_strikes_14 rfl (lv_at hl 2 rfl) ?_
    refine z_icmp_ne (tgt := 22) hx hb dX0_strikes_15 (by decide) (by omega) (fun c_3 => ?_) (fun c_3 => ?_)
    · refine lv_iconst (v := iI (0)) hx hb dX0_strikes_22 rfl ?_
      exact z_pret0 X hK hP hD hS dX0_strikes_23 (by first | rfl | omega | grind)
    · refine lv_iconst (v := iI (1)) hx hb dX0_strikes_18 rfl ?_
      refine lv_goto (tgt := 23) hx hb dX0_strikes_19 (by decide) ?_
      exact z_pret1 X hK hP hD hS dX0_strikes_23 (by first | rfl | omega | grind)

theorem hd_X0_doShare : yX0_doShare.cls = RX0 ∧ yX0_doShare.cls ≠ "java/lang/invoke/MethodHandle" ∧ yX0_doShare.cls ≠ "java/lang/invoke/VarHandle" ∧ (parseMethodDescriptor yX0_doShare.desc).map (fun d => d.parameters.length) = some 2 := by decide +kernel
set_option maxHeartbeats 4000000 in
set_option maxRecDepth 100000 in
theorem c_X0_doShare (I : okS nK st le be te ab bl ka bg ln ns me sc pi re bk) (a : Int) (b : Int) (h : -2147483648 ≤ a ∧ a ≤ 2147483647 ∧ -2147483648 ≤ b ∧ b ≤ 2147483647) : MI l D cy yX0_doShare wsX0_doShare ({ frames := 1, cells := 0, slots := 0, locals := 21 } : Room) [.ref (q 1), .int (iI a), .int (iI b)] (wT q cy nK st le be te ab bl ka bg ln ns me sc pi re bk pa lz go ss sm pf mf) (bP (a ≠ b ∧ (0 ≤ a ∧ a < nK) ∧ (0 ≤ b ∧ b < nK) ∧ st a = st b)) (wT q cy nK st le be te ab bl ka bg ln ns me sc pi re bk pa lz go ss sm pf mf) := by
  refine MI.ofW (cc := cX0_doShare) (maxL := 3) (ret := (some .boolean)) (by decide) rfl (Nat.le_of_ble_eq_true rfl) ?_
  intro p e s m below meth c A ls X hK hP hD hA hS hl
  obtain ⟨hx, hb, hml, hr, hts, hown, hlocks⟩ := id X
  have hl : lv_has ls 3 [(0, .ref (q 1)), (1, .int (iI a)), (2, .int (iI b))] := hl
  have f_15 := hts (Cond.fieldLink RX0 15 "TwoKeys$Board" "struck" "[I") (by decide +kernel)
  have n_X0 : ∀ w ∈ u_ws RX0 TX0 5, w ∈ wsX0_doShare := by decide +kernel
  have iK := I.nK
  refine lv_iload_n hx hb dX0_doShare_0 rfl (lv_at hl 1 rfl) ?_
  refine lv_iload_n hx hb dX0_doShare_1 rfl (lv_at hl 2 rfl) ?_
  refine z_icmp_eq (tgt := 40) hx hb dX0_doShare_2 (by decide) (by omega) (fun c_1 => ?_) (fun c_1 => ?_)
  · refine lv_iconst (v := iI (0)) hx hb dX0_doShare_40 rfl ?_
    exact z_pret0 X hK hP hD hS dX0_doShare_41 (by first | rfl | omega | grind)
  · refine lv_aload_n hx hb dX0_doShare_5 rfl (lv_at hl 0 rfl) ?_
    refine lv_iload_n hx hb dX0_doShare_6 rfl (lv_at hl 1 rfl) ?_
    refine z_callVi (ci := 0) (q0 := 1) (As := [.int (iI a)]) (rest := []) X hK hP hD hA hS hl.1 gX0_doShare_X0_has rfl ⟨rfl, rfl⟩ hd_X0_has ⟨Nat.le_of_ble_eq_true rfl, Nat.le_of_ble_eq_true rfl⟩ rfl rfl rfl (Nat.le_of_ble_eq_true rfl) ⟨Nat.zero_le _, Nat.zero_le _⟩ rfl dX0_doShare_7 (c_X0_has I a (by omega)) (fun H locs hP hD hS => ?_)
    refine z_ifp_eq (tgt := 40) hx hb dX0_doShare_10 (by decide) (fun c_2 => ?_) (fun c_2 => ?_)
    · refine lv_iconst (v := iI (0)) hx hb dX0_doShare_40 rfl ?_
      exact z_pret0 X hK hP hD hS dX0_doShare_41 (by first | rfl | omega | grind)
    · refine lv_aload_n hx hb dX0_doShare_13 rfl (lv_at hl 0 rfl) ?_
      refine lv_iload_n hx hb dX0_doShare_14 rfl (lv_at hl 2 rfl) ?_
      refine z_callVi (ci := 0) (q0 := 1) (As := [.int (iI b)]) (rest := []) X hK hP hD hA hS hl.1 gX0_doShare_X0_has rfl ⟨rfl, rfl⟩ hd_X0_has ⟨Nat.le_of_ble_eq_true rfl, Nat.le_of_ble_eq_true rfl⟩ rfl rfl rfl (Nat.le_of_ble_eq_true rfl) ⟨Nat.zero_le _, Nat.zero_le _⟩ rfl dX0_doShare_15 (c_X0_has I b (by omega)) (fun H locs hP hD hS => ?_)
      refine z_ifp_eq (tgt := 40) hx hb dX0_doShare_18 (by decide) (fun c_3 => ?_) (fun c_3 => ?_)
      · refine lv_iconst (v := iI (0)) hx hb dX0_doShare_40 rfl ?_
        exact z_pret0 X hK hP hD hS dX0_doShare_41 (by first | rfl | omega | grind)
      · refine lv_aload_n hx hb dX0_doShare_21 rfl (lv_at hl 0 rfl) ?_
        refine va_get (D := D) (ci := 0) (v := .ref (q 2)) (C := RX0) (T := TX0) (N := 5) hx hb hts n_X0 hown hK hP 1 rfl rfl 1 (by decide) f_15 (fun _ h9 => h9) rfl dX0_doShare_22 ?_
        refine lv_iload_n hx hb dX0_doShare_25 rfl (lv_at hl 1 rfl) ?_
        refine z_iald hx hb hK hP 2 0 rfl rfl (by omega) dX0_doShare_26 ?_
        have b_4 := I.st a
        refine lv_aload_n hx hb dX0_doShare_27 rfl (lv_at hl 0 rfl) ?_
        refine va_get (D := D) (ci := 0) (v := .ref (q 2)) (C := RX0) (T := TX0) (N := 5) hx hb hts n_X0 hown hK hP 1 rfl rfl 1 (by decide) f_15 (fun _ h9 => h9) rfl dX0_doShare_28 ?_
        refine lv_iload_n hx hb dX0_doShare_31 rfl (lv_at hl 2 rfl) ?_
        refine z_iald hx hb hK hP 2 0 rfl rfl (by omega) dX0_doShare_32 ?_
        have b_5 := I.st b
        refine z_icmp_ne (tgt := 40) hx hb dX0_doShare_33 (by decide) (by omega) (fun c_6 => ?_) (fun c_6 => ?_)
        · refine lv_iconst (v := iI (0)) hx hb dX0_doShare_40 rfl ?_
          exact z_pret0 X hK hP hD hS dX0_doShare_41 (by first | rfl | omega | grind)
        · refine lv_iconst (v := iI (1)) hx hb dX0_doShare_36 rfl ?_
          refine lv_goto (tgt := 41) hx hb dX0_doShare_37 (by decide) ?_
          exact z_pret1 X hK hP hD hS dX0_doShare_41 (by first | rfl | omega | grind)

theorem hd_X0_strikersOf : yX0_strikersOf.cls = RX0 ∧ yX0_strikersOf.cls ≠ "java/lang/invoke/MethodHandle" ∧ yX0_strikersOf.cls ≠ "java/lang/invoke/VarHandle" ∧ (parseMethodDescriptor yX0_strikersOf.desc).map (fun d => d.parameters.length) = some 1 := by decide +kernel
set_option maxHeartbeats 4000000 in
set_option maxRecDepth 100000 in
theorem c_X0_strikersOf (I : okS nK st le be te ab bl ka bg ln ns me sc pi re bk) (s9 : Int) (h : -2147483648 ≤ s9 ∧ s9 ≤ 2147483647) : MI l D cy yX0_strikersOf wsX0_strikersOf ({ frames := 0, cells := 0, slots := 0, locals := 0 } : Room) [.ref (q 1), .int (iI s9)] (wT q cy nK st le be te ab bl ka bg ln ns me sc pi re bk pa lz go ss sm pf mf) (sZ (fun k => if st k = s9 then 1 else 0) 0 nK) (wT q cy nK st le be te ab bl ka bg ln ns me sc pi re bk pa lz go ss sm pf mf) := by
  refine MI.ofW (cc := cX0_strikersOf) (maxL := 4) (ret := (some .int)) (by decide) rfl (Nat.le_of_ble_eq_true rfl) ?_
  intro p e s m below meth c A ls X hK hP hD hA hS hl
  obtain ⟨hx, hb, hml, hr, hts, hown, hlocks⟩ := id X
  have hl : lv_has ls 4 [(0, .ref (q 1)), (1, .int (iI s9))] := hl
  have f_9 := hts (Cond.fieldLink RX0 9 "TwoKeys$Board" "size" "I") (by decide +kernel)
  have f_15 := hts (Cond.fieldLink RX0 15 "TwoKeys$Board" "struck" "[I") (by decide +kernel)
  have n_X0 : ∀ w ∈ u_ws RX0 TX0 5, w ∈ wsX0_strikersOf := by decide +kernel
  have iK := I.nK
  refine lv_iconst (v := iI (0)) hx hb dX0_strikersOf_0 rfl ?_
  refine lv_istore_n (lv' := [(2, .int (iI 0)), (0, .ref (q 1)), (1, .int (iI s9))]) hx hb dX0_strikersOf_1 rfl hl (by decide) rfl (fun ls hl => ?_)
  refine lv_iconst (v := iI (0)) hx hb dX0_strikersOf_2 rfl ?_
  refine lv_istore_n (lv' := [(3, .int (iI 0)), (2, .int (iI 0)), (0, .ref (q 1)), (1, .int (iI s9))]) hx hb dX0_strikersOf_3 rfl hl (by decide) rfl (fun ls hl => ?_)
  have L_4 : ∀ (n : Nat) (acc : Int) (k : Int), (h0 : 0 ≤ k ∧ k ≤ nK) → (hf : nK - k < n) → (hr : acc = sZ (fun k => if st k = s9 then 1 else 0) 0 k) → ∀ (H : Heap) (locs : List Loc) (ls : Array Slot), va_P D vwCl (wT q cy nK st le be te ab bl ka bg ln ns me sc pi re bk pa lz go ss sm pf mf) H → va_D A (wT q cy nK st le be te ab bl ka bg ln ns me sc pi re bk pa lz go ss sm pf mf) → va_S A s.heap H locs → lv_has ls 4 [(3, .int (iI k)), (2, .int (iI acc)), (0, .ref (q 1)), (1, .int (iI s9))] → W p l e ({ frames := 0, cells := 0, slots := 0, locals := 0 } : Room) s m [.ref (q 1), .int (iI s9)].toArray below meth c H locs 0 0 (MQ below (zQi D cy (wT q cy nK st le be te ab bl ka bg ln ns me sc pi re bk pa lz go ss sm pf mf) A (sZ (fun k => if st k = s9 then 1 else 0) 0 nK)) [.ref (q 1), .int (iI s9)].toArray s 0 0 A) (F0 m 4 ls []) := by
    intro n
    induction n with
    | zero =>
      intro acc k h0 hf hr
      exfalso; omega
    | succ n ih_4 =>
      intro acc k h0 hf hr H locs ls hP hD hS hl
      refine lv_iload_n hx hb dX0_strikersOf_4 rfl (lv_at hl 0 rfl) ?_
      refine lv_aload_n hx hb dX0_strikersOf_5 rfl (lv_at hl 2 rfl) ?_
      refine va_get (D := D) (ci := 0) (v := .int (iI nK)) (C := RX0) (T := TX0) (N := 5) hx hb hts n_X0 hown hK hP 1 rfl rfl 0 (by decide) f_9 (fun _ h9 => h9) rfl dX0_strikersOf_6 ?_
      refine z_icmp_ge (tgt := 31) hx hb dX0_strikersOf_9 (by decide) (by omega) (fun c_1 => ?_) (fun c_1 => ?_)
      · refine lv_iload_n hx hb dX0_strikersOf_31 rfl (lv_at hl 1 rfl) ?_
        exact z_iret X hK hP hD hS dX0_strikersOf_32 (by rw [hr, show k = nK by omega])
      · refine lv_aload_n hx hb dX0_strikersOf_12 rfl (lv_at hl 2 rfl) ?_
        refine va_get (D := D) (ci := 0) (v := .ref (q 2)) (C := RX0) (T := TX0) (N := 5) hx hb hts n_X0 hown hK hP 1 rfl rfl 1 (by decide) f_15 (fun _ h9 => h9) rfl dX0_strikersOf_13 ?_
        refine lv_iload_n hx hb dX0_strikersOf_16 rfl (lv_at hl 0 rfl) ?_
        refine z_iald hx hb hK hP 2 0 rfl rfl (by omega) dX0_strikersOf_17 ?_
        have b_2 := I.st k
        refine lv_iload_n hx hb dX0_strikersOf_18 rfl (lv_at hl 3 rfl) ?_
        refine z_icmp_ne (tgt := 25) hx hb dX0_strikersOf_19 (by decide) (by omega) (fun c_3 => ?_) (fun c_3 => ?_)
        · refine lv_iinc (v := iI (k + 1)) (lv' := [(3, .int (iI (k + 1))), (2, .int (iI acc)), (0, .ref (q 1)), (1, .int (iI s9))]) hx hb dX0_strikersOf_25 hl (k := 0) rfl (iI_add _ _) (by decide) rfl (fun ls hl => ?_)
          refine lv_goto (tgt := 4) hx hb dX0_strikersOf_28 (by decide) ?_
          exact ih_4 acc (k + 1) (by omega) (by omega) (by rw [sZ_step (by omega), ← hr]; (try dsimp only); split <;> omega) _ _ _ hP hD hS (lv_sub hl [0, 1, 2, 3] rfl)
        · refine lv_iinc (v := iI (acc + 1)) (lv' := [(2, .int (iI (acc + 1))), (3, .int (iI k)), (0, .ref (q 1)), (1, .int (iI s9))]) hx hb dX0_strikersOf_22 hl (k := 1) rfl (iI_add _ _) (by decide) rfl (fun ls hl => ?_)
          refine lv_iinc (v := iI (k + 1)) (lv' := [(3, .int (iI (k + 1))), (2, .int (iI (acc + 1))), (0, .ref (q 1)), (1, .int (iI s9))]) hx hb dX0_strikersOf_25 hl (k := 1) rfl (iI_add _ _) (by decide) rfl (fun ls hl => ?_)
          refine lv_goto (tgt := 4) hx hb dX0_strikersOf_28 (by decide) ?_
          exact ih_4 (acc + 1) (k + 1) (by omega) (by omega) (by rw [sZ_step (by omega), ← hr]; (try dsimp only); split <;> omega) _ _ _ hP hD hS (lv_sub hl [0, 1, 2, 3] rfl)
  exact L_4 25 0 0 (by omega) (by omega) ((sZ_nil (by omega)).symm) _ _ _ hP hD hS (lv_sub hl [0, 1, 2, 3] rfl)

theorem hd_X0_isInOrder : yX0_isInOrder.cls = RX0 ∧ yX0_isInOrder.cls ≠ "java/lang/invoke/MethodHandle" ∧ yX0_isInOrder.cls ≠ "java/lang/invoke/VarHandle" ∧ (parseMethodDescriptor yX0_isInOrder.desc).map (fun d => d.parameters.length) = some 0 := by decide +kernel
set_option maxHeartbeats 4000000 in
set_option maxRecDepth 100000 in
theorem c_X0_isInOrder (I : okS nK st le be te ab bl ka bg ln ns me sc pi re bk)   : MI l D cy yX0_isInOrder wsX0_isInOrder ({ frames := 2, cells := 0, slots := 0, locals := 43 } : Room) [.ref (q 1)] (wT q cy nK st le be te ab bl ka bg ln ns me sc pi re bk pa lz go ss sm pf mf) (bP (∀ a b, 0 ≤ a → a < b → b < nK → st a = st b → le b + be b < le a + be a)) (wT q cy nK st le be te ab bl ka bg ln ns me sc pi re bk pa lz go ss sm pf mf) := by
  refine MI.ofW (cc := cX0_isInOrder) (maxL := 3) (ret := (some .boolean)) (by decide) rfl (Nat.le_of_ble_eq_true rfl) ?_
  intro p e s m below meth c A ls X hK hP hD hA hS hl
  obtain ⟨hx, hb, hml, hr, hts, hown, hlocks⟩ := id X
  have hl : lv_has ls 3 [(0, .ref (q 1))] := hl
  have f_9 := hts (Cond.fieldLink RX0 9 "TwoKeys$Board" "size" "I") (by decide +kernel)
  have n_X0 : ∀ w ∈ u_ws RX0 TX0 5, w ∈ wsX0_isInOrder := by decide +kernel
  have iK := I.nK
  have iB := I.be
  have iL := I.le
  refine lv_iconst (v := iI (1)) hx hb dX0_isInOrder_0 rfl ?_
  refine lv_istore_n (lv' := [(1, .int (iI 1)), (0, .ref (q 1))]) hx hb dX0_isInOrder_1 rfl hl (by decide) rfl (fun ls hl => ?_)
  have L_2 : ∀ (n : Nat) (u : Int), (h0 : 1 ≤ u ∧ u ≤ nK) → (hf : nK - u < n) → (hr : ∀ a b, 0 ≤ a → a < b → b < u → st a = st b → le b + be b < le a + be a) → ∀ (H : Heap) (locs : List Loc) (ls : Array Slot), va_P D vwCl (wT q cy nK st le be te ab bl ka bg ln ns me sc pi re bk pa lz go ss sm pf mf) H → va_D A (wT q cy nK st le be te ab bl ka bg ln ns me sc pi re bk pa lz go ss sm pf mf) → va_S A s.heap H locs → lv_has ls 3 [(1, .int (iI u)), (0, .ref (q 1))] → W p l e ({ frames := 2, cells := 0, slots := 0, locals := 43 } : Room) s m [.ref (q 1)].toArray below meth c H locs 0 0 (MQ below (zQi D cy (wT q cy nK st le be te ab bl ka bg ln ns me sc pi re bk pa lz go ss sm pf mf) A (bP (∀ a b, 0 ≤ a → a < b → b < nK → st a = st b → le b + be b < le a + be a))) [.ref (q 1)].toArray s 0 0 A) (F0 m 2 ls []) := by
    intro n
    induction n with
    | zero =>
      intro u h0 hf hr
      exfalso; omega
    | succ n ih_2 =>
      intro u h0 hf hr H locs ls hP hD hS hl
      refine lv_iload_n hx hb dX0_isInOrder_2 rfl (lv_at hl 0 rfl) ?_
      refine lv_aload_n hx hb dX0_isInOrder_3 rfl (lv_at hl 1 rfl) ?_
      refine va_get (D := D) (ci := 0) (v := .int (iI nK)) (C := RX0) (T := TX0) (N := 5) hx hb hts n_X0 hown hK hP 1 rfl rfl 0 (by decide) f_9 (fun _ h9 => h9) rfl dX0_isInOrder_4 ?_
      refine z_icmp_ge (tgt := 53) hx hb dX0_isInOrder_7 (by decide) (by omega) (fun c_1 => ?_) (fun c_1 => ?_)
      · refine lv_iconst (v := iI (1)) hx hb dX0_isInOrder_53 rfl ?_
        exact z_pret1 X hK hP hD hS dX0_isInOrder_54 (fun a b h1 h2 h3 h4 => hr a b h1 h2 (by omega) h4)
      · refine lv_iconst (v := iI (0)) hx hb dX0_isInOrder_10 rfl ?_
        refine lv_istore_n (lv' := [(2, .int (iI 0)), (1, .int (iI u)), (0, .ref (q 1))]) hx hb dX0_isInOrder_11 rfl hl (by decide) rfl (fun ls hl => ?_)
        have L_12 : ∀ (n : Nat) (v : Int), (h2 : 0 ≤ v ∧ v ≤ u) → (hf2 : u - v < n) → (hr2 : ∀ a, 0 ≤ a → a < v → st a = st u → le u + be u < le a + be a) → ∀ (H : Heap) (locs : List Loc) (ls : Array Slot), va_P D vwCl (wT q cy nK st le be te ab bl ka bg ln ns me sc pi re bk pa lz go ss sm pf mf) H → va_D A (wT q cy nK st le be te ab bl ka bg ln ns me sc pi re bk pa lz go ss sm pf mf) → va_S A s.heap H locs → lv_has ls 3 [(2, .int (iI v)), (1, .int (iI u)), (0, .ref (q 1))] → W p l e ({ frames := 2, cells := 0, slots := 0, locals := 43 } : Room) s m [.ref (q 1)].toArray below meth c H locs 0 0 (MQ below (zQi D cy (wT q cy nK st le be te ab bl ka bg ln ns me sc pi re bk pa lz go ss sm pf mf) A (bP (∀ a b, 0 ≤ a → a < b → b < nK → st a = st b → le b + be b < le a + be a))) [.ref (q 1)].toArray s 0 0 A) (F0 m 12 ls []) := by
          intro n
          induction n with
          | zero =>
            intro v h2 hf2 hr2
            exfalso; omega
          | succ n ih_12 =>
            intro v h2 hf2 hr2 H locs ls hP hD hS hl
            refine lv_iload_n hx hb dX0_isInOrder_12 rfl (lv_at hl 0 rfl) ?_
            refine lv_iload_n hx hb dX0_isInOrder_13 rfl (lv_at hl 1 rfl) ?_
            refine z_icmp_ge (tgt := 47) hx hb dX0_isInOrder_14 (by decide) (by omega) (fun c_2 => ?_) (fun c_2 => ?_)
            · refine lv_iinc (v := iI (u + 1)) (lv' := [(1, .int (iI (u + 1))), (2, .int (iI v)), (0, .ref (q 1))]) hx hb dX0_isInOrder_47 hl (k := 1) rfl (iI_add _ _) (by decide) rfl (fun ls hl => ?_)
              refine lv_goto (tgt := 2) hx hb dX0_isInOrder_50 (by decide) ?_
              exact ih_2 (u + 1) (by omega) (by omega) (fun a b h1 h2 h3 h4 => by rcases (show b < u ∨ b = u by omega) with g | g; exact hr a b h1 h2 g h4; subst g; exact hr2 a h1 (by omega) h4) _ _ _ hP hD hS (lv_sub hl [0, 2] rfl)
            · refine lv_aload_n hx hb dX0_isInOrder_17 rfl (lv_at hl 2 rfl) ?_
              refine lv_iload_n hx hb dX0_isInOrder_18 rfl (lv_at hl 0 rfl) ?_
              refine lv_iload_n hx hb dX0_isInOrder_19 rfl (lv_at hl 1 rfl) ?_
              refine z_callVi (ci := 0) (q0 := 1) (As := [.int (iI v), .int (iI u)]) (rest := []) X hK hP hD hA hS hl.1 gX0_isInOrder_X0_doShare rfl ⟨rfl, rfl⟩ hd_X0_doShare ⟨Nat.le_of_ble_eq_true rfl, Nat.le_of_ble_eq_true rfl⟩ rfl rfl rfl (Nat.le_of_ble_eq_true rfl) ⟨Nat.zero_le _, Nat.zero_le _⟩ rfl dX0_isInOrder_20 (c_X0_doShare I v u (by omega)) (fun H locs hP hD hS => ?_)
              refine z_ifp_eq (tgt := 41) hx hb dX0_isInOrder_23 (by decide) (fun c_3 => ?_) (fun c_3 => ?_)
              · refine lv_iinc (v := iI (v + 1)) (lv' := [(2, .int (iI (v + 1))), (1, .int (iI u)), (0, .ref (q 1))]) hx hb dX0_isInOrder_41 hl (k := 0) rfl (iI_add _ _) (by decide) rfl (fun ls hl => ?_)
                refine lv_goto (tgt := 12) hx hb dX0_isInOrder_44 (by decide) ?_
                exact ih_12 (v + 1) (by omega) (by omega) (fun a h1 h2 h3 => by rcases (show a < v ∨ a = v by omega) with g | g; exact hr2 a h1 g h3; subst g; first | omega | (exfalso; omega)) _ _ _ hP hD hS (lv_sub hl [0, 1, 2] rfl)
              · refine lv_aload_n hx hb dX0_isInOrder_26 rfl (lv_at hl 2 rfl) ?_
                refine lv_iload_n hx hb dX0_isInOrder_27 rfl (lv_at hl 0 rfl) ?_
                refine z_callVi (ci := 0) (q0 := 1) (As := [.int (iI v)]) (rest := []) X hK hP hD hA hS hl.1 gX0_isInOrder_X0_soundingLength rfl ⟨rfl, rfl⟩ hd_X0_soundingLength ⟨Nat.le_of_ble_eq_true rfl, Nat.le_of_ble_eq_true rfl⟩ rfl rfl rfl (Nat.le_of_ble_eq_true rfl) ⟨Nat.zero_le _, Nat.zero_le _⟩ rfl dX0_isInOrder_28 (c_X0_soundingLength I v (by omega)) (fun H locs hP hD hS => ?_)
                refine lv_aload_n hx hb dX0_isInOrder_31 rfl (lv_at hl 2 rfl) ?_
                refine lv_iload_n hx hb dX0_isInOrder_32 rfl (lv_at hl 1 rfl) ?_
                refine z_callVi (ci := 0) (q0 := 1) (As := [.int (iI u)]) (rest := [.int (iI (le v + be v))]) X hK hP hD hA hS hl.1 gX0_isInOrder_X0_soundingLength rfl ⟨rfl, rfl⟩ hd_X0_soundingLength ⟨Nat.le_of_ble_eq_true rfl, Nat.le_of_ble_eq_true rfl⟩ rfl rfl rfl (Nat.le_of_ble_eq_true rfl) ⟨Nat.zero_le _, Nat.zero_le _⟩ rfl dX0_isInOrder_33 (c_X0_soundingLength I u (by omega)) (fun H locs hP hD hS => ?_)
                have := I.le v
                have := I.be v
                have := I.le u
                have := I.be u
                refine z_icmp_gt (tgt := 41) hx hb dX0_isInOrder_36 (by decide) (by omega) (fun c_4 => ?_) (fun c_4 => ?_)
                · refine lv_iinc (v := iI (v + 1)) (lv' := [(2, .int (iI (v + 1))), (1, .int (iI u)), (0, .ref (q 1))]) hx hb dX0_isInOrder_41 hl (k := 0) rfl (iI_add _ _) (by decide) rfl (fun ls hl => ?_)
                  refine lv_goto (tgt := 12) hx hb dX0_isInOrder_44 (by decide) ?_
                  exact ih_12 (v + 1) (by omega) (by omega) (fun a h1 h2 h3 => by rcases (show a < v ∨ a = v by omega) with g | g; exact hr2 a h1 g h3; subst g; first | omega | (exfalso; omega)) _ _ _ hP hD hS (lv_sub hl [0, 1, 2] rfl)
                · refine lv_iconst (v := iI (0)) hx hb dX0_isInOrder_39 rfl ?_
                  exact z_pret0 X hK hP hD hS dX0_isInOrder_40 (fun z => by have := z v u (by omega) (by omega) (by omega) (by omega); omega)
        exact L_12 26 0 (by omega) (by omega) (fun a _ _ _ => by omega) _ _ _ hP hD hS (lv_sub hl [0, 1, 2] rfl)
  exact L_2 25 1 (by omega) (by omega) (fun a b _ _ _ _ => by omega) _ _ _ hP hD hS (lv_sub hl [0, 1] rfl)

theorem hd_X0_stopsNearer : yX0_stopsNearer.cls = RX0 ∧ yX0_stopsNearer.cls ≠ "java/lang/invoke/MethodHandle" ∧ yX0_stopsNearer.cls ≠ "java/lang/invoke/VarHandle" ∧ (parseMethodDescriptor yX0_stopsNearer.desc).map (fun d => d.parameters.length) = some 2 := by decide +kernel
set_option maxHeartbeats 4000000 in
set_option maxRecDepth 100000 in
theorem c_X0_stopsNearer (I : okS nK st le be te ab bl ka bg ln ns me sc pi re bk) (a : Int) (b : Int) (h : 0 ≤ a ∧ a < 24) (h2 : 0 ≤ b ∧ b < 24) : MI l D cy yX0_stopsNearer wsX0_stopsNearer ({ frames := 1, cells := 0, slots := 0, locals := 21 } : Room) [.ref (q 1), .int (iI a), .int (iI b)] (wT q cy nK st le be te ab bl ka bg ln ns me sc pi re bk pa lz go ss sm pf mf) (bP (le a + be a < le b + be b ∨ (le a + be a = le b + be b ∧ a < b))) (wT q cy nK st le be te ab bl ka bg ln ns me sc pi re bk pa lz go ss sm pf mf) := by
  refine MI.ofW (cc := cX0_stopsNearer) (maxL := 5) (ret := (some .boolean)) (by decide) rfl (Nat.le_of_ble_eq_true rfl) ?_
  intro p e s m below meth c A ls X hK hP hD hA hS hl
  obtain ⟨hx, hb, hml, hr, hts, hown, hlocks⟩ := id X
  have hl : lv_has ls 5 [(0, .ref (q 1)), (1, .int (iI a)), (2, .int (iI b))] := hl
  have iK := I.nK
  have := I.le a
  have := I.be a
  have := I.le b
  have := I.be b
  refine lv_aload_n hx hb dX0_stopsNearer_0 rfl (lv_at hl 0 rfl) ?_
  refine lv_iload_n hx hb dX0_stopsNearer_1 rfl (lv_at hl 1 rfl) ?_
  refine z_callVi (ci := 0) (q0 := 1) (As := [.int (iI a)]) (rest := []) X hK hP hD hA hS hl.1 gX0_stopsNearer_X0_soundingLength rfl ⟨rfl, rfl⟩ hd_X0_soundingLength ⟨Nat.le_of_ble_eq_true rfl, Nat.le_of_ble_eq_true rfl⟩ rfl rfl rfl (Nat.le_of_ble_eq_true rfl) ⟨Nat.zero_le _, Nat.zero_le _⟩ rfl dX0_stopsNearer_2 (c_X0_soundingLength I a (by omega)) (fun H locs hP hD hS => ?_)
  refine lv_istore_n (lv' := [(3, .int (iI (le a + be a))), (0, .ref (q 1)), (1, .int (iI a)), (2, .int (iI b))]) hx hb dX0_stopsNearer_5 rfl hl (by decide) rfl (fun ls hl => ?_)
  refine lv_aload_n hx hb dX0_stopsNearer_6 rfl (lv_at hl 1 rfl) ?_
  refine lv_iload_n hx hb dX0_stopsNearer_7 rfl (lv_at hl 3 rfl) ?_
  refine z_callVi (ci := 0) (q0 := 1) (As := [.int (iI b)]) (rest := []) X hK hP hD hA hS hl.1 gX0_stopsNearer_X0_soundingLength rfl ⟨rfl, rfl⟩ hd_X0_soundingLength ⟨Nat.le_of_ble_eq_true rfl, Nat.le_of_ble_eq_true rfl⟩ rfl rfl rfl (Nat.le_of_ble_eq_true rfl) ⟨Nat.zero_le _, Nat.zero_le _⟩ rfl dX0_stopsNearer_8 (c_X0_soundingLength I b (by omega)) (fun H locs hP hD hS => ?_)
  refine lv_istore (lv' := [(4, .int (iI (le b + be b))), (3, .int (iI (le a + be a))), (0, .ref (q 1)), (1, .int (iI a)), (2, .int (iI b))]) hx hb dX0_stopsNearer_11 hl (by decide) rfl (fun ls hl => ?_)
  refine lv_iload_n hx hb dX0_stopsNearer_13 rfl (lv_at hl 1 rfl) ?_
  refine lv_iload hx hb dX0_stopsNearer_14 (lv_at hl 0 rfl) ?_
  refine z_icmp_lt (tgt := 30) hx hb dX0_stopsNearer_16 (by decide) (by omega) (fun c_1 => ?_) (fun c_1 => ?_)
  · refine lv_iconst (v := iI (1)) hx hb dX0_stopsNearer_30 rfl ?_
    refine lv_goto (tgt := 35) hx hb dX0_stopsNearer_31 (by decide) ?_
    exact z_pret1 X hK hP hD hS dX0_stopsNearer_35 (by first | rfl | omega | grind)
  · refine lv_iload_n hx hb dX0_stopsNearer_19 rfl (lv_at hl 1 rfl) ?_
    refine lv_iload hx hb dX0_stopsNearer_20 (lv_at hl 0 rfl) ?_
    refine z_icmp_ne (tgt := 34) hx hb dX0_stopsNearer_22 (by decide) (by omega) (fun c_2 => ?_) (fun c_2 => ?_)
    · refine lv_iconst (v := iI (0)) hx hb dX0_stopsNearer_34 rfl ?_
      exact z_pret0 X hK hP hD hS dX0_stopsNearer_35 (by first | rfl | omega | grind)
    · refine lv_iload_n hx hb dX0_stopsNearer_25 rfl (lv_at hl 3 rfl) ?_
      refine lv_iload_n hx hb dX0_stopsNearer_26 rfl (lv_at hl 4 rfl) ?_
      refine z_icmp_ge (tgt := 34) hx hb dX0_stopsNearer_27 (by decide) (by omega) (fun c_3 => ?_) (fun c_3 => ?_)
      · refine lv_iconst (v := iI (0)) hx hb dX0_stopsNearer_34 rfl ?_
        exact z_pret0 X hK hP hD hS dX0_stopsNearer_35 (by first | rfl | omega | grind)
      · refine lv_iconst (v := iI (1)) hx hb dX0_stopsNearer_30 rfl ?_
        refine lv_goto (tgt := 35) hx hb dX0_stopsNearer_31 (by decide) ?_
        exact z_pret1 X hK hP hD hS dX0_stopsNearer_35 (by first | rfl | omega | grind)

theorem hd_X0_countStruck : yX0_countStruck.cls = RX0 ∧ yX0_countStruck.cls ≠ "java/lang/invoke/MethodHandle" ∧ yX0_countStruck.cls ≠ "java/lang/invoke/VarHandle" ∧ (parseMethodDescriptor yX0_countStruck.desc).map (fun d => d.parameters.length) = some 0 := by decide +kernel
set_option maxHeartbeats 4000000 in
set_option maxRecDepth 100000 in
theorem c_X0_countStruck (I : okS nK st le be te ab bl ka bg ln ns me sc pi re bk)   : MI l D cy yX0_countStruck wsX0_countStruck ({ frames := 1, cells := 0, slots := 0, locals := 23 } : Room) [.ref (q 1)] (wT q cy nK st le be te ab bl ka bg ln ns me sc pi re bk pa lz go ss sm pf mf) (sZ (fun s9 => if 0 < sZ (fun k => if st k = s9 then 1 else 0) 0 nK then 1 else 0) 0 24) (wT q cy nK st le be te ab bl ka bg ln ns me sc pi re bk pa lz go ss sm pf mf) := by
  refine MI.ofW (cc := cX0_countStruck) (maxL := 3) (ret := (some .int)) (by decide) rfl (Nat.le_of_ble_eq_true rfl) ?_
  intro p e s m below meth c A ls X hK hP hD hA hS hl
  obtain ⟨hx, hb, hml, hr, hts, hown, hlocks⟩ := id X
  have hl : lv_has ls 3 [(0, .ref (q 1))] := hl
  have iK := I.nK
  refine lv_iconst (v := iI (0)) hx hb dX0_countStruck_0 rfl ?_
  refine lv_istore_n (lv' := [(1, .int (iI 0)), (0, .ref (q 1))]) hx hb dX0_countStruck_1 rfl hl (by decide) rfl (fun ls hl => ?_)
  refine lv_iconst (v := iI (0)) hx hb dX0_countStruck_2 rfl ?_
  refine lv_istore_n (lv' := [(2, .int (iI 0)), (1, .int (iI 0)), (0, .ref (q 1))]) hx hb dX0_countStruck_3 rfl hl (by decide) rfl (fun ls hl => ?_)
  have L_4 : ∀ (n : Nat) (acc : Int) (s9 : Int), (h0 : 0 ≤ s9 ∧ s9 ≤ 24) → (hf : 24 - s9 < n) → (hr : acc = sZ (fun s9 => if 0 < sZ (fun k => if st k = s9 then 1 else 0) 0 nK then 1 else 0) 0 s9) → ∀ (H : Heap) (locs : List Loc) (ls : Array Slot), va_P D vwCl (wT q cy nK st le be te ab bl ka bg ln ns me sc pi re bk pa lz go ss sm pf mf) H → va_D A (wT q cy nK st le be te ab bl ka bg ln ns me sc pi re bk pa lz go ss sm pf mf) → va_S A s.heap H locs → lv_has ls 3 [(2, .int (iI s9)), (1, .int (iI acc)), (0, .ref (q 1))] → W p l e ({ frames := 1, cells := 0, slots := 0, locals := 23 } : Room) s m [.ref (q 1)].toArray below meth c H locs 0 0 (MQ below (zQi D cy (wT q cy nK st le be te ab bl ka bg ln ns me sc pi re bk pa lz go ss sm pf mf) A (sZ (fun s9 => if 0 < sZ (fun k => if st k = s9 then 1 else 0) 0 nK then 1 else 0) 0 24)) [.ref (q 1)].toArray s 0 0 A) (F0 m 4 ls []) := by
    intro n
    induction n with
    | zero =>
      intro acc s9 h0 hf hr
      exfalso; omega
    | succ n ih_4 =>
      intro acc s9 h0 hf hr H locs ls hP hD hS hl
      refine lv_iload_n hx hb dX0_countStruck_4 rfl (lv_at hl 0 rfl) ?_
      refine lv_bipush (v := iI (24)) hx hb dX0_countStruck_5 (by decide) ?_
      refine z_icmp_ge (tgt := 27) hx hb dX0_countStruck_7 (by decide) (by omega) (fun c_1 => ?_) (fun c_1 => ?_)
      · refine lv_iload_n hx hb dX0_countStruck_27 rfl (lv_at hl 1 rfl) ?_
        exact z_iret X hK hP hD hS dX0_countStruck_28 (by rw [hr, show s9 = 24 by omega])
      · refine lv_aload_n hx hb dX0_countStruck_10 rfl (lv_at hl 2 rfl) ?_
        refine lv_iload_n hx hb dX0_countStruck_11 rfl (lv_at hl 0 rfl) ?_
        refine z_callVi (ci := 0) (q0 := 1) (As := [.int (iI s9)]) (rest := []) X hK hP hD hA hS hl.1 gX0_countStruck_X0_strikersOf rfl ⟨rfl, rfl⟩ hd_X0_strikersOf ⟨Nat.le_of_ble_eq_true rfl, Nat.le_of_ble_eq_true rfl⟩ rfl rfl rfl (Nat.le_of_ble_eq_true rfl) ⟨Nat.zero_le _, Nat.zero_le _⟩ rfl dX0_countStruck_12 (c_X0_strikersOf I s9 (by omega)) (fun H locs hP hD hS => ?_)
        have b9 := sZ_c (f := fun k => if st k = s9 then 1 else 0) (lo := 0) (hi := nK) (by omega) (fun j => by (try dsimp only); split <;> omega)
        refine z_if_le (tgt := 21) hx hb dX0_countStruck_15 (by decide) (by omega) (fun c_2 => ?_) (fun c_2 => ?_)
        · refine lv_iinc (v := iI (s9 + 1)) (lv' := [(2, .int (iI (s9 + 1))), (1, .int (iI acc)), (0, .ref (q 1))]) hx hb dX0_countStruck_21 hl (k := 0) rfl (iI_add _ _) (by decide) rfl (fun ls hl => ?_)
          refine lv_goto (tgt := 4) hx hb dX0_countStruck_24 (by decide) ?_
          exact ih_4 acc (s9 + 1) (by omega) (by omega) (by rw [sZ_step (by omega), ← hr]; (try dsimp only); split <;> omega) _ _ _ hP hD hS (lv_sub hl [0, 1, 2] rfl)
        · refine lv_iinc (v := iI (acc + 1)) (lv' := [(1, .int (iI (acc + 1))), (2, .int (iI s9)), (0, .ref (q 1))]) hx hb dX0_countStruck_18 hl (k := 1) rfl (iI_add _ _) (by decide) rfl (fun ls hl => ?_)
          refine lv_iinc (v := iI (s9 + 1)) (lv' := [(2, .int (iI (s9 + 1))), (1, .int (iI (acc + 1))), (0, .ref (q 1))]) hx hb dX0_countStruck_21 hl (k := 1) rfl (iI_add _ _) (by decide) rfl (fun ls hl => ?_)
          refine lv_goto (tgt := 4) hx hb dX0_countStruck_24 (by decide) ?_
          exact ih_4 (acc + 1) (s9 + 1) (by omega) (by omega) (by rw [sZ_step (by omega), ← hr]; (try dsimp only); split <;> omega) _ _ _ hP hD hS (lv_sub hl [0, 1, 2] rfl)
  exact L_4 25 0 0 (by omega) (by omega) ((sZ_nil (by omega)).symm) _ _ _ hP hD hS (lv_sub hl [0, 1, 2] rfl)

theorem hd_X0_countBent : yX0_countBent.cls = RX0 ∧ yX0_countBent.cls ≠ "java/lang/invoke/MethodHandle" ∧ yX0_countBent.cls ≠ "java/lang/invoke/VarHandle" ∧ (parseMethodDescriptor yX0_countBent.desc).map (fun d => d.parameters.length) = some 0 := by decide +kernel
set_option maxHeartbeats 4000000 in
set_option maxRecDepth 100000 in
theorem c_X0_countBent (I : okS nK st le be te ab bl ka bg ln ns me sc pi re bk)   : MI l D cy yX0_countBent wsX0_countBent ({ frames := 0, cells := 0, slots := 0, locals := 0 } : Room) [.ref (q 1)] (wT q cy nK st le be te ab bl ka bg ln ns me sc pi re bk pa lz go ss sm pf mf) (sZ (fun k => if be k = 0 then 0 else 1) 0 nK) (wT q cy nK st le be te ab bl ka bg ln ns me sc pi re bk pa lz go ss sm pf mf) := by
  refine MI.ofW (cc := cX0_countBent) (maxL := 3) (ret := (some .int)) (by decide) rfl (Nat.le_of_ble_eq_true rfl) ?_
  intro p e s m below meth c A ls X hK hP hD hA hS hl
  obtain ⟨hx, hb, hml, hr, hts, hown, hlocks⟩ := id X
  have hl : lv_has ls 3 [(0, .ref (q 1))] := hl
  have f_9 := hts (Cond.fieldLink RX0 9 "TwoKeys$Board" "size" "I") (by decide +kernel)
  have f_22 := hts (Cond.fieldLink RX0 22 "TwoKeys$Board" "bends" "[I") (by decide +kernel)
  have n_X0 : ∀ w ∈ u_ws RX0 TX0 5, w ∈ wsX0_countBent := by decide +kernel
  have iK := I.nK
  refine lv_iconst (v := iI (0)) hx hb dX0_countBent_0 rfl ?_
  refine lv_istore_n (lv' := [(1, .int (iI 0)), (0, .ref (q 1))]) hx hb dX0_countBent_1 rfl hl (by decide) rfl (fun ls hl => ?_)
  refine lv_iconst (v := iI (0)) hx hb dX0_countBent_2 rfl ?_
  refine lv_istore_n (lv' := [(2, .int (iI 0)), (1, .int (iI 0)), (0, .ref (q 1))]) hx hb dX0_countBent_3 rfl hl (by decide) rfl (fun ls hl => ?_)
  have L_4 : ∀ (n : Nat) (acc : Int) (k : Int), (h0 : 0 ≤ k ∧ k ≤ nK) → (hf : nK - k < n) → (hr : acc = sZ (fun k => if be k = 0 then 0 else 1) 0 k) → ∀ (H : Heap) (locs : List Loc) (ls : Array Slot), va_P D vwCl (wT q cy nK st le be te ab bl ka bg ln ns me sc pi re bk pa lz go ss sm pf mf) H → va_D A (wT q cy nK st le be te ab bl ka bg ln ns me sc pi re bk pa lz go ss sm pf mf) → va_S A s.heap H locs → lv_has ls 3 [(2, .int (iI k)), (1, .int (iI acc)), (0, .ref (q 1))] → W p l e ({ frames := 0, cells := 0, slots := 0, locals := 0 } : Room) s m [.ref (q 1)].toArray below meth c H locs 0 0 (MQ below (zQi D cy (wT q cy nK st le be te ab bl ka bg ln ns me sc pi re bk pa lz go ss sm pf mf) A (sZ (fun k => if be k = 0 then 0 else 1) 0 nK)) [.ref (q 1)].toArray s 0 0 A) (F0 m 4 ls []) := by
    intro n
    induction n with
    | zero =>
      intro acc k h0 hf hr
      exfalso; omega
    | succ n ih_4 =>
      intro acc k h0 hf hr H locs ls hP hD hS hl
      refine lv_iload_n hx hb dX0_countBent_4 rfl (lv_at hl 0 rfl) ?_
      refine lv_aload_n hx hb dX0_countBent_5 rfl (lv_at hl 2 rfl) ?_
      refine va_get (D := D) (ci := 0) (v := .int (iI nK)) (C := RX0) (T := TX0) (N := 5) hx hb hts n_X0 hown hK hP 1 rfl rfl 0 (by decide) f_9 (fun _ h9 => h9) rfl dX0_countBent_6 ?_
      refine z_icmp_ge (tgt := 30) hx hb dX0_countBent_9 (by decide) (by omega) (fun c_1 => ?_) (fun c_1 => ?_)
      · refine lv_iload_n hx hb dX0_countBent_30 rfl (lv_at hl 1 rfl) ?_
        exact z_iret X hK hP hD hS dX0_countBent_31 (by rw [hr, show k = nK by omega])
      · refine lv_aload_n hx hb dX0_countBent_12 rfl (lv_at hl 2 rfl) ?_
        refine va_get (D := D) (ci := 0) (v := .ref (q 4)) (C := RX0) (T := TX0) (N := 5) hx hb hts n_X0 hown hK hP 1 rfl rfl 3 (by decide) f_22 (fun _ h9 => h9) rfl dX0_countBent_13 ?_
        refine lv_iload_n hx hb dX0_countBent_16 rfl (lv_at hl 0 rfl) ?_
        refine z_iald hx hb hK hP 4 0 rfl rfl (by omega) dX0_countBent_17 ?_
        have b_2 := I.be k
        refine z_if_eq (tgt := 24) hx hb dX0_countBent_18 (by decide) (by omega) (fun c_3 => ?_) (fun c_3 => ?_)
        · refine lv_iinc (v := iI (k + 1)) (lv' := [(2, .int (iI (k + 1))), (1, .int (iI acc)), (0, .ref (q 1))]) hx hb dX0_countBent_24 hl (k := 0) rfl (iI_add _ _) (by decide) rfl (fun ls hl => ?_)
          refine lv_goto (tgt := 4) hx hb dX0_countBent_27 (by decide) ?_
          exact ih_4 acc (k + 1) (by omega) (by omega) (by rw [sZ_step (by omega), ← hr]; (try dsimp only); split <;> omega) _ _ _ hP hD hS (lv_sub hl [0, 1, 2] rfl)
        · refine lv_iinc (v := iI (acc + 1)) (lv' := [(1, .int (iI (acc + 1))), (2, .int (iI k)), (0, .ref (q 1))]) hx hb dX0_countBent_21 hl (k := 1) rfl (iI_add _ _) (by decide) rfl (fun ls hl => ?_)
          refine lv_iinc (v := iI (k + 1)) (lv' := [(2, .int (iI (k + 1))), (1, .int (iI (acc + 1))), (0, .ref (q 1))]) hx hb dX0_countBent_24 hl (k := 1) rfl (iI_add _ _) (by decide) rfl (fun ls hl => ?_)
          refine lv_goto (tgt := 4) hx hb dX0_countBent_27 (by decide) ?_
          exact ih_4 (acc + 1) (k + 1) (by omega) (by omega) (by rw [sZ_step (by omega), ← hr]; (try dsimp only); split <;> omega) _ _ _ hP hD hS (lv_sub hl [0, 1, 2] rfl)
  exact L_4 25 0 0 (by omega) (by omega) ((sZ_nil (by omega)).symm) _ _ _ hP hD hS (lv_sub hl [0, 1, 2] rfl)
