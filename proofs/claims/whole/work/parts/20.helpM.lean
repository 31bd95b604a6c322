variable {l : Launch} {D : va_G} {cy : ClassId} {q : Nat → Nat} {nK sc pi re bk ss sm pf mf th lo : Int} {st le be te ab bl ka bg ln ns me pa lz go co bs gr : Int → Int}
theorem hd_X6_in : yX6_in.cls ≠ "java/lang/invoke/MethodHandle" ∧ yX6_in.cls ≠ "java/lang/invoke/VarHandle" ∧ (parseMethodDescriptor yX6_in.desc).map (fun d => d.parameters.length) = some 3 := by decide +kernel
set_option maxHeartbeats 4000000 in
set_option maxRecDepth 100000 in
theorem c_X6_in (v : Int) (lo1 : Int) (hi1 : Int) (h : -2147483648 ≤ v ∧ v ≤ 2147483647 ∧ -2147483648 ≤ lo1 ∧ lo1 ≤ 2147483647 ∧ -2147483648 ≤ hi1 ∧ hi1 ≤ 2147483647) : MI l D cy yX6_in wsX6_in ({ frames := 0, cells := 0, slots := 0, locals := 0 } : Room) [.long (lI v), .long (lI lo1), .long (lI hi1)] (wM q cy nK st le be te ab bl ka bg ln ns me sc pi re bk th co bs gr lo) (bP (lo1 ≤ v ∧ v ≤ hi1)) (wM q cy nK st le be te ab bl ka bg ln ns me sc pi re bk th co bs gr lo) := by
  refine MI.ofW (cc := cX6_in) (maxL := 6) (ret := (some .boolean)) (by decide) rfl (Nat.le_of_ble_eq_true rfl) ?_
  intro p e s m below meth c A ls X hK hP hD hA hS hl
  obtain ⟨hx, hb, hml, hr, hts, hown, hlocks⟩ := id X
  have hl : lv_has ls 6 [(0, .long (lI v)), (2, .long (lI lo1)), (4, .long (lI hi1))] := hl
  refine lv_lload_n hx hb dX6_in_0 rfl (lv_at hl 0 rfl) ?_
  refine lv_lload_n hx hb dX6_in_1 rfl (lv_at hl 1 rfl) ?_
  refine z_lcmp hx hb dX6_in_2 (by omega) ?_
  have b1 := cmZ_b v lo1
  refine z_if_lt (tgt := 17) hx hb dX6_in_3 (by decide) (by omega) (fun c_1 => ?_) (fun c_1 => ?_)
  · refine lv_iconst (v := iI (0)) hx hb dX6_in_17 rfl ?_
    exact z_pret0 X hK hP hD hS dX6_in_18 (by first | rfl | omega | grind)
  · refine lv_lload_n hx hb dX6_in_6 rfl (lv_at hl 0 rfl) ?_
    refine lv_lload hx hb dX6_in_7 (lv_at hl 2 rfl) ?_
    refine z_lcmp hx hb dX6_in_9 (by omega) ?_
    have b2 := cmZ_b v hi1
    refine z_if_gt (tgt := 17) hx hb dX6_in_10 (by decide) (by omega) (fun c_2 => ?_) (fun c_2 => ?_)
    · refine lv_iconst (v := iI (0)) hx hb dX6_in_17 rfl ?_
      exact z_pret0 X hK hP hD hS dX6_in_18 (by first | rfl | omega | grind)
    · refine lv_iconst (v := iI (1)) hx hb dX6_in_13 rfl ?_
      refine lv_goto (tgt := 18) hx hb dX6_in_14 (by decide) ?_
      exact z_pret1 X hK hP hD hS dX6_in_18 (by first | rfl | omega | grind)

theorem hd_X6_size : yX6_size.cls ≠ "java/lang/invoke/MethodHandle" ∧ yX6_size.cls ≠ "java/lang/invoke/VarHandle" ∧ (parseMethodDescriptor yX6_size.desc).map (fun d => d.parameters.length) = some 1 := by decide +kernel
set_option maxHeartbeats 4000000 in
set_option maxRecDepth 100000 in
theorem c_X6_size (v : Int) (h : -2147483648 ≤ v ∧ v ≤ 2147483647) : MI l D cy yX6_size wsX6_size ({ frames := 0, cells := 0, slots := 0, locals := 0 } : Room) [.int (iI v)] (wM q cy nK st le be te ab bl ka bg ln ns me sc pi re bk th co bs gr lo) (aZ v) (wM q cy nK st le be te ab bl ka bg ln ns me sc pi re bk th co bs gr lo) := by
  refine MI.ofW (cc := cX6_size) (maxL := 1) (ret := (some .int)) (by decide) rfl (Nat.le_of_ble_eq_true rfl) ?_
  intro p e s m below meth c A ls X hK hP hD hA hS hl
  obtain ⟨hx, hb, hml, hr, hts, hown, hlocks⟩ := id X
  have hl : lv_has ls 1 [(0, .int (iI v))] := hl
  refine lv_iload_n hx hb dX6_size_0 rfl (lv_at hl 0 rfl) ?_
  refine z_if_ge (tgt := 9) hx hb dX6_size_1 (by decide) (by omega) (fun c_1 => ?_) (fun c_1 => ?_)
  · refine lv_iload_n hx hb dX6_size_9 rfl (lv_at hl 0 rfl) ?_
    exact z_iret X hK hP hD hS dX6_size_10 (by unfold aZ; first | rw [if_pos (by omega)] | rw [if_neg (by omega)])
  · refine lv_iload_n hx hb dX6_size_4 rfl (lv_at hl 0 rfl) ?_
    refine z_ineg hx hb dX6_size_5 ?_
    refine lv_goto (tgt := 10) hx hb dX6_size_6 (by decide) ?_
    exact z_iret X hK hP hD hS dX6_size_10 (by unfold aZ; first | rw [if_pos (by omega)] | rw [if_neg (by omega)])

theorem hd_X6_noKey : yX6_noKey.cls = RX6 ∧ yX6_noKey.cls ≠ "java/lang/invoke/MethodHandle" ∧ yX6_noKey.cls ≠ "java/lang/invoke/VarHandle" ∧ (parseMethodDescriptor yX6_noKey.desc).map (fun d => d.parameters.length) = some 1 := by decide +kernel
set_option maxHeartbeats 4000000 in
set_option maxRecDepth 100000 in
theorem c_X6_noKey (I : okS nK st le be te ab bl ka bg ln ns me sc pi re bk) (k : Int) (h : -2147483648 ≤ k ∧ k ≤ 2147483647) : MI l D cy yX6_noKey wsX6_noKey ({ frames := 1, cells := 0, slots := 0, locals := 25 } : Room) [.ref (q 0), .int (iI k)] (wM q cy nK st le be te ab bl ka bg ln ns me sc pi re bk th co bs gr lo) (bP (¬ (0 ≤ k ∧ k < nK))) (wM q cy nK st le be te ab bl ka bg ln ns me sc pi re bk th co bs gr lo) := by
  refine MI.ofW (cc := cX6_noKey) (maxL := 2) (ret := (some .boolean)) (by decide) rfl (Nat.le_of_ble_eq_true rfl) ?_
  intro p e s m below meth c A ls X hK hP hD hA hS hl
  obtain ⟨hx, hb, hml, hr, hts, hown, hlocks⟩ := id X
  have hl : lv_has ls 2 [(0, .ref (q 0)), (1, .int (iI k))] := hl
  have f_7 := hts (Cond.fieldLink RX6 7 "TwoKeysModel" "keys" "I") (by decide +kernel)
  have n_X6 : ∀ w ∈ u_ws RX6 TX6 21, w ∈ wsX6_noKey := by decide +kernel
  have iK := I.nK
  refine lv_iload_n hx hb dX6_noKey_0 rfl (lv_at hl 1 rfl) ?_
  refine z_i2l hx hb dX6_noKey_1 (by omega) ?_
  refine lv_lconst (v := lI (0)) hx hb dX6_noKey_2 (by decide) ?_
  refine lv_aload_n hx hb dX6_noKey_3 rfl (lv_at hl 0 rfl) ?_
  refine va_get (D := D) (ci := 6) (v := .int (iI nK)) (C := RX6) (T := TX6) (N := 21) hx hb hts n_X6 hown hK hP 0 rfl rfl 1 (by decide) f_7 (fun _ h9 => h9) rfl dX6_noKey_4 ?_
  refine lv_iconst (v := iI (1)) hx hb dX6_noKey_7 rfl ?_
  refine z_isub hx hb dX6_noKey_8 ?_
  refine z_i2l hx hb dX6_noKey_9 (by omega) ?_
  refine z_callSi (As := [.long (lI k), .long (lI 0), .long (lI (nK - 1))]) (rest := []) X hK hP hD hA hS hl.1 gX6_noKey_X6_in rfl ⟨rfl, rfl⟩ hd_X6_in ⟨Nat.le_of_ble_eq_true rfl, Nat.le_of_ble_eq_true rfl⟩ rfl (Nat.le_of_ble_eq_true rfl) ⟨Nat.zero_le _, Nat.zero_le _⟩ rfl dX6_noKey_10 (c_X6_in k 0 (nK - 1) (by omega)) (fun H locs hP hD hS => ?_)
  refine z_ifp_ne (tgt := 20) hx hb dX6_noKey_13 (by decide) (fun c_1 => ?_) (fun c_1 => ?_)
  · refine lv_iconst (v := iI (0)) hx hb dX6_noKey_20 rfl ?_
    exact z_pret0 X hK hP hD hS dX6_noKey_21 (by first | rfl | omega | grind)
  · refine lv_iconst (v := iI (1)) hx hb dX6_noKey_16 rfl ?_
    refine lv_goto (tgt := 21) hx hb dX6_noKey_17 (by decide) ?_
    exact z_pret1 X hK hP hD hS dX6_noKey_21 (by first | rfl | omega | grind)

theorem hd_X6_noString : yX6_noString.cls ≠ "java/lang/invoke/MethodHandle" ∧ yX6_noString.cls ≠ "java/lang/invoke/VarHandle" ∧ (parseMethodDescriptor yX6_noString.desc).map (fun d => d.parameters.length) = some 1 := by decide +kernel
set_option maxHeartbeats 4000000 in
set_option maxRecDepth 100000 in
theorem c_X6_noString (v : Int) (h : -2147483648 ≤ v ∧ v ≤ 2147483647) : MI l D cy yX6_noString wsX6_noString ({ frames := 1, cells := 0, slots := 0, locals := 25 } : Room) [.int (iI v)] (wM q cy nK st le be te ab bl ka bg ln ns me sc pi re bk th co bs gr lo) (bP (¬ (0 ≤ v ∧ v ≤ 23))) (wM q cy nK st le be te ab bl ka bg ln ns me sc pi re bk th co bs gr lo) := by
  refine MI.ofW (cc := cX6_noString) (maxL := 1) (ret := (some .boolean)) (by decide) rfl (Nat.le_of_ble_eq_true rfl) ?_
  intro p e s m below meth c A ls X hK hP hD hA hS hl
  obtain ⟨hx, hb, hml, hr, hts, hown, hlocks⟩ := id X
  have hl : lv_has ls 1 [(0, .int (iI v))] := hl
  have K_70 := hts (Cond.constantLong RX6 70 (23)) (by decide +kernel)
  refine lv_iload_n hx hb dX6_noString_0 rfl (lv_at hl 0 rfl) ?_
  refine z_i2l hx hb dX6_noString_1 (by omega) ?_
  refine lv_lconst (v := lI (0)) hx hb dX6_noString_2 (by decide) ?_
  refine z_ldc2 (n := 23) hx hb hown K_70 (by decide) dX6_noString_3 ?_
  refine z_callSi (As := [.long (lI v), .long (lI 0), .long (lI 23)]) (rest := []) X hK hP hD hA hS hl.1 gX6_noString_X6_in rfl ⟨rfl, rfl⟩ hd_X6_in ⟨Nat.le_of_ble_eq_true rfl, Nat.le_of_ble_eq_true rfl⟩ rfl (Nat.le_of_ble_eq_true rfl) ⟨Nat.zero_le _, Nat.zero_le _⟩ rfl dX6_noString_6 (c_X6_in v 0 23 (by omega)) (fun H locs hP hD hS => ?_)
  refine z_ifp_ne (tgt := 16) hx hb dX6_noString_9 (by decide) (fun c_1 => ?_) (fun c_1 => ?_)
  · refine lv_iconst (v := iI (0)) hx hb dX6_noString_16 rfl ?_
    exact z_pret0 X hK hP hD hS dX6_noString_17 (by first | rfl | omega | grind)
  · refine lv_iconst (v := iI (1)) hx hb dX6_noString_12 rfl ?_
    refine lv_goto (tgt := 17) hx hb dX6_noString_13 (by decide) ?_
    exact z_pret1 X hK hP hD hS dX6_noString_17 (by first | rfl | omega | grind)

theorem hd_X6_noScale : yX6_noScale.cls ≠ "java/lang/invoke/MethodHandle" ∧ yX6_noScale.cls ≠ "java/lang/invoke/VarHandle" ∧ (parseMethodDescriptor yX6_noScale.desc).map (fun d => d.parameters.length) = some 1 := by decide +kernel
set_option maxHeartbeats 4000000 in
set_option maxRecDepth 100000 in
theorem c_X6_noScale (v : Int) (h : -2147483648 ≤ v ∧ v ≤ 2147483647) : MI l D cy yX6_noScale wsX6_noScale ({ frames := 1, cells := 0, slots := 0, locals := 25 } : Room) [.int (iI v)] (wM q cy nK st le be te ab bl ka bg ln ns me sc pi re bk th co bs gr lo) (bP (¬ (0 ≤ v ∧ v ≤ 4))) (wM q cy nK st le be te ab bl ka bg ln ns me sc pi re bk th co bs gr lo) := by
  refine MI.ofW (cc := cX6_noScale) (maxL := 1) (ret := (some .boolean)) (by decide) rfl (Nat.le_of_ble_eq_true rfl) ?_
  intro p e s m below meth c A ls X hK hP hD hA hS hl
  obtain ⟨hx, hb, hml, hr, hts, hown, hlocks⟩ := id X
  have hl : lv_has ls 1 [(0, .int (iI v))] := hl
  have K_72 := hts (Cond.constantLong RX6 72 (4)) (by decide +kernel)
  refine lv_iload_n hx hb dX6_noScale_0 rfl (lv_at hl 0 rfl) ?_
  refine z_i2l hx hb dX6_noScale_1 (by omega) ?_
  refine lv_lconst (v := lI (0)) hx hb dX6_noScale_2 (by decide) ?_
  refine z_ldc2 (n := 4) hx hb hown K_72 (by decide) dX6_noScale_3 ?_
  refine z_callSi (As := [.long (lI v), .long (lI 0), .long (lI 4)]) (rest := []) X hK hP hD hA hS hl.1 gX6_noScale_X6_in rfl ⟨rfl, rfl⟩ hd_X6_in ⟨Nat.le_of_ble_eq_true rfl, Nat.le_of_ble_eq_true rfl⟩ rfl (Nat.le_of_ble_eq_true rfl) ⟨Nat.zero_le _, Nat.zero_le _⟩ rfl dX6_noScale_6 (c_X6_in v 0 4 (by omega)) (fun H locs hP hD hS => ?_)
  refine z_ifp_ne (tgt := 16) hx hb dX6_noScale_9 (by decide) (fun c_1 => ?_) (fun c_1 => ?_)
  · refine lv_iconst (v := iI (0)) hx hb dX6_noScale_16 rfl ?_
    exact z_pret0 X hK hP hD hS dX6_noScale_17 (by first | rfl | omega | grind)
  · refine lv_iconst (v := iI (1)) hx hb dX6_noScale_12 rfl ?_
    refine lv_goto (tgt := 17) hx hb dX6_noScale_13 (by decide) ?_
    exact z_pret1 X hK hP hD hS dX6_noScale_17 (by first | rfl | omega | grind)

theorem hd_X6_noPiece : yX6_noPiece.cls ≠ "java/lang/invoke/MethodHandle" ∧ yX6_noPiece.cls ≠ "java/lang/invoke/VarHandle" ∧ (parseMethodDescriptor yX6_noPiece.desc).map (fun d => d.parameters.length) = some 1 := by decide +kernel
set_option maxHeartbeats 4000000 in
set_option maxRecDepth 100000 in
theorem c_X6_noPiece (v : Int) (h : -2147483648 ≤ v ∧ v ≤ 2147483647) : MI l D cy yX6_noPiece wsX6_noPiece ({ frames := 1, cells := 0, slots := 0, locals := 25 } : Room) [.int (iI v)] (wM q cy nK st le be te ab bl ka bg ln ns me sc pi re bk th co bs gr lo) (bP (¬ (0 ≤ v ∧ v ≤ 3))) (wM q cy nK st le be te ab bl ka bg ln ns me sc pi re bk th co bs gr lo) := by
  refine MI.ofW (cc := cX6_noPiece) (maxL := 1) (ret := (some .boolean)) (by decide) rfl (Nat.le_of_ble_eq_true rfl) ?_
  intro p e s m below meth c A ls X hK hP hD hA hS hl
  obtain ⟨hx, hb, hml, hr, hts, hown, hlocks⟩ := id X
  have hl : lv_has ls 1 [(0, .int (iI v))] := hl
  have K_74 := hts (Cond.constantLong RX6 74 (3)) (by decide +kernel)
  refine lv_iload_n hx hb dX6_noPiece_0 rfl (lv_at hl 0 rfl) ?_
  refine z_i2l hx hb dX6_noPiece_1 (by omega) ?_
  refine lv_lconst (v := lI (0)) hx hb dX6_noPiece_2 (by decide) ?_
  refine z_ldc2 (n := 3) hx hb hown K_74 (by decide) dX6_noPiece_3 ?_
  refine z_callSi (As := [.long (lI v), .long (lI 0), .long (lI 3)]) (rest := []) X hK hP hD hA hS hl.1 gX6_noPiece_X6_in rfl ⟨rfl, rfl⟩ hd_X6_in ⟨Nat.le_of_ble_eq_true rfl, Nat.le_of_ble_eq_true rfl⟩ rfl (Nat.le_of_ble_eq_true rfl) ⟨Nat.zero_le _, Nat.zero_le _⟩ rfl dX6_noPiece_6 (c_X6_in v 0 3 (by omega)) (fun H locs hP hD hS => ?_)
  refine z_ifp_ne (tgt := 16) hx hb dX6_noPiece_9 (by decide) (fun c_1 => ?_) (fun c_1 => ?_)
  · refine lv_iconst (v := iI (0)) hx hb dX6_noPiece_16 rfl ?_
    exact z_pret0 X hK hP hD hS dX6_noPiece_17 (by first | rfl | omega | grind)
  · refine lv_iconst (v := iI (1)) hx hb dX6_noPiece_12 rfl ?_
    refine lv_goto (tgt := 17) hx hb dX6_noPiece_13 (by decide) ?_
    exact z_pret1 X hK hP hD hS dX6_noPiece_17 (by first | rfl | omega | grind)

theorem hd_X6_soundsOf : yX6_soundsOf.cls = RX6 ∧ yX6_soundsOf.cls ≠ "java/lang/invoke/MethodHandle" ∧ yX6_soundsOf.cls ≠ "java/lang/invoke/VarHandle" ∧ (parseMethodDescriptor yX6_soundsOf.desc).map (fun d => d.parameters.length) = some 1 := by decide +kernel
set_option maxHeartbeats 4000000 in
set_option maxRecDepth 100000 in
theorem c_X6_soundsOf (I : okS nK st le be te ab bl ka bg ln ns me sc pi re bk) (k : Int) (h : 0 ≤ k ∧ k < 24) : MI l D cy yX6_soundsOf wsX6_soundsOf ({ frames := 0, cells := 0, slots := 0, locals := 0 } : Room) [.ref (q 0), .int (iI k)] (wM q cy nK st le be te ab bl ka bg ln ns me sc pi re bk th co bs gr lo) (le k + be k) (wM q cy nK st le be te ab bl ka bg ln ns me sc pi re bk th co bs gr lo) := by
  refine MI.ofW (cc := cX6_soundsOf) (maxL := 2) (ret := (some .int)) (by decide) rfl (Nat.le_of_ble_eq_true rfl) ?_
  intro p e s m below meth c A ls X hK hP hD hA hS hl
  obtain ⟨hx, hb, hml, hr, hts, hown, hlocks⟩ := id X
  have hl : lv_has ls 2 [(0, .ref (q 0)), (1, .int (iI k))] := hl
  have f_17 := hts (Cond.fieldLink RX6 17 "TwoKeysModel" "length" "[I") (by decide +kernel)
  have f_20 := hts (Cond.fieldLink RX6 20 "TwoKeysModel" "bent" "[I") (by decide +kernel)
  have n_X6 : ∀ w ∈ u_ws RX6 TX6 21, w ∈ wsX6_soundsOf := by decide +kernel
  have iK := I.nK
  refine lv_aload_n hx hb dX6_soundsOf_0 rfl (lv_at hl 0 rfl) ?_
  refine va_get (D := D) (ci := 6) (v := .ref (q 2)) (C := RX6) (T := TX6) (N := 21) hx hb hts n_X6 hown hK hP 0 rfl rfl 3 (by decide) f_17 (fun _ h9 => h9) rfl dX6_soundsOf_1 ?_
  refine lv_iload_n hx hb dX6_soundsOf_4 rfl (lv_at hl 1 rfl) ?_
  refine z_iald hx hb hK hP 2 0 rfl rfl (by omega) dX6_soundsOf_5 ?_
  have b_1 := I.le k
  refine lv_aload_n hx hb dX6_soundsOf_6 rfl (lv_at hl 0 rfl) ?_
  refine va_get (D := D) (ci := 6) (v := .ref (q 3)) (C := RX6) (T := TX6) (N := 21) hx hb hts n_X6 hown hK hP 0 rfl rfl 4 (by decide) f_20 (fun _ h9 => h9) rfl dX6_soundsOf_7 ?_
  refine lv_iload_n hx hb dX6_soundsOf_10 rfl (lv_at hl 1 rfl) ?_
  refine z_iald hx hb hK hP 3 0 rfl rfl (by omega) dX6_soundsOf_11 ?_
  have b_2 := I.be k
  refine z_iadd hx hb dX6_soundsOf_12 ?_
  exact z_iret X hK hP hD hS dX6_soundsOf_13 (by first | rfl | omega | grind)

theorem hd_X6_toneOf : yX6_toneOf.cls = RX6 ∧ yX6_toneOf.cls ≠ "java/lang/invoke/MethodHandle" ∧ yX6_toneOf.cls ≠ "java/lang/invoke/VarHandle" ∧ (parseMethodDescriptor yX6_toneOf.desc).map (fun d => d.parameters.length) = some 1 := by decide +kernel
set_option maxHeartbeats 4000000 in
set_option maxRecDepth 100000 in
theorem c_X6_toneOf (I : okS nK st le be te ab bl ka bg ln ns me sc pi re bk) (k : Int) (h : 0 ≤ k ∧ k < 24) : MI l D cy yX6_toneOf wsX6_toneOf ({ frames := 1, cells := 0, slots := 0, locals := 21 } : Room) [.ref (q 0), .int (iI k)] (wM q cy nK st le be te ab bl ka bg ln ns me sc pi re bk th co bs gr lo) (te (st k) * 10000 / (le k + be k)) (wM q cy nK st le be te ab bl ka bg ln ns me sc pi re bk th co bs gr lo) := by
  refine MI.ofW (cc := cX6_toneOf) (maxL := 2) (ret := (some .int)) (by decide) rfl (Nat.le_of_ble_eq_true rfl) ?_
  intro p e s m below meth c A ls X hK hP hD hA hS hl
  obtain ⟨hx, hb, hml, hr, hts, hown, hlocks⟩ := id X
  have hl : lv_has ls 2 [(0, .ref (q 0)), (1, .int (iI k))] := hl
  have f_23 := hts (Cond.fieldLink RX6 23 "TwoKeysModel" "tension" "[I") (by decide +kernel)
  have f_13 := hts (Cond.fieldLink RX6 13 "TwoKeysModel" "string" "[I") (by decide +kernel)
  have n_X6 : ∀ w ∈ u_ws RX6 TX6 21, w ∈ wsX6_toneOf := by decide +kernel
  have iK := I.nK
  have := I.le k
  have := I.be k
  refine lv_aload_n hx hb dX6_toneOf_0 rfl (lv_at hl 0 rfl) ?_
  refine va_get (D := D) (ci := 6) (v := .ref (q 4)) (C := RX6) (T := TX6) (N := 21) hx hb hts n_X6 hown hK hP 0 rfl rfl 5 (by decide) f_23 (fun _ h9 => h9) rfl dX6_toneOf_1 ?_
  refine lv_aload_n hx hb dX6_toneOf_4 rfl (lv_at hl 0 rfl) ?_
  refine va_get (D := D) (ci := 6) (v := .ref (q 1)) (C := RX6) (T := TX6) (N := 21) hx hb hts n_X6 hown hK hP 0 rfl rfl 2 (by decide) f_13 (fun _ h9 => h9) rfl dX6_toneOf_5 ?_
  refine lv_iload_n hx hb dX6_toneOf_8 rfl (lv_at hl 1 rfl) ?_
  refine z_iald hx hb hK hP 1 0 rfl rfl (by omega) dX6_toneOf_9 ?_
  have b_1 := I.st k
  refine z_iald hx hb hK hP 4 0 rfl rfl (by omega) dX6_toneOf_10 ?_
  have b_2 := I.te (st k)
  refine lv_sipush (v := iI (10000)) hx hb dX6_toneOf_11 (by decide) ?_
  refine z_imul hx hb dX6_toneOf_14 ?_
  refine lv_aload_n hx hb dX6_toneOf_15 rfl (lv_at hl 0 rfl) ?_
  refine lv_iload_n hx hb dX6_toneOf_16 rfl (lv_at hl 1 rfl) ?_
  refine z_callVi (ci := 6) (q0 := 0) (As := [.int (iI k)]) (rest := [.int (iI ((te (st k)) * 10000))]) X hK hP hD hA hS hl.1 gX6_toneOf_X6_soundsOf rfl ⟨rfl, rfl⟩ hd_X6_soundsOf ⟨Nat.le_of_ble_eq_true rfl, Nat.le_of_ble_eq_true rfl⟩ rfl rfl rfl (Nat.le_of_ble_eq_true rfl) ⟨Nat.zero_le _, Nat.zero_le _⟩ rfl dX6_toneOf_17 (c_X6_soundsOf I k (by omega)) (fun H locs hP hD hS => ?_)
  refine z_idiv hx hb dX6_toneOf_20 (by omega) ?_
  exact z_iret X hK hP hD hS dX6_toneOf_21 (by first | rfl | omega | grind)

theorem hd_X6_goalOf : yX6_goalOf.cls = RX6 ∧ yX6_goalOf.cls ≠ "java/lang/invoke/MethodHandle" ∧ yX6_goalOf.cls ≠ "java/lang/invoke/VarHandle" ∧ (parseMethodDescriptor yX6_goalOf.desc).map (fun d => d.parameters.length) = some 3 := by decide +kernel
set_option maxHeartbeats 4000000 in
set_option maxRecDepth 100000 in
theorem c_X6_goalOf (I : okS nK st le be te ab bl ka bg ln ns me sc pi re bk) (k : Int) (s9 : Int) (p9 : Int) (h3 : 0 ≤ k ∧ k < 24) (h : 0 ≤ s9 ∧ s9 ≤ 4) (h2 : 0 ≤ p9 ∧ p9 ≤ 200000) : MI l D cy yX6_goalOf wsX6_goalOf ({ frames := 0, cells := 0, slots := 0, locals := 0 } : Room) [.ref (q 0), .int (iI k), .int (iI s9), .int (iI p9)] (wM q cy nK st le be te ab bl ka bg ln ns me sc pi re bk th co bs gr lo) (gl ab bl s9 p9 k) (wM q cy nK st le be te ab bl ka bg ln ns me sc pi re bk th co bs gr lo) := by
  refine MI.ofW (cc := cX6_goalOf) (maxL := 4) (ret := (some .int)) (by decide) rfl (Nat.le_of_ble_eq_true rfl) ?_
  intro p e s m below meth c A ls X hK hP hD hA hS hl
  obtain ⟨hx, hb, hml, hr, hts, hown, hlocks⟩ := id X
  have hl : lv_has ls 4 [(0, .ref (q 0)), (1, .int (iI k)), (2, .int (iI s9)), (3, .int (iI p9))] := hl
  have f_26 := hts (Cond.fieldLink RX6 26 "TwoKeysModel" "above" "[I") (by decide +kernel)
  have f_29 := hts (Cond.fieldLink RX6 29 "TwoKeysModel" "below" "[I") (by decide +kernel)
  have n_X6 : ∀ w ∈ u_ws RX6 TX6 21, w ∈ wsX6_goalOf := by decide +kernel
  have iK := I.nK
  have i1 := I.ab (12 * s9 + k % 12)
  have b8 := mul_b (show 0 ≤ p9 * 1 by omega) (show p9 * 1 ≤ 200000 by omega) (show 0 ≤ ab (12 * s9 + k % 12) by omega) (show ab (12 * s9 + k % 12) ≤ 999 by omega)
  have b9 := mul_b (show 0 ≤ p9 * 2 by omega) (show p9 * 2 ≤ 400000 by omega) (show 0 ≤ ab (12 * s9 + k % 12) by omega) (show ab (12 * s9 + k % 12) ≤ 999 by omega)
  refine lv_iload_n hx hb dX6_goalOf_0 rfl (lv_at hl 3 rfl) ?_
  refine lv_iload_n hx hb dX6_goalOf_1 rfl (lv_at hl 1 rfl) ?_
  refine lv_bipush (v := iI (12)) hx hb dX6_goalOf_2 (by decide) ?_
  refine z_icmp_ge (tgt := 11) hx hb dX6_goalOf_4 (by decide) (by omega) (fun c_1 => ?_) (fun c_1 => ?_)
  · refine lv_iconst (v := iI (2)) hx hb dX6_goalOf_11 rfl ?_
    refine z_imul hx hb dX6_goalOf_12 ?_
    refine lv_aload_n hx hb dX6_goalOf_13 rfl (lv_at hl 0 rfl) ?_
    refine va_get (D := D) (ci := 6) (v := .ref (q 5)) (C := RX6) (T := TX6) (N := 21) hx hb hts n_X6 hown hK hP 0 rfl rfl 6 (by decide) f_26 (fun _ h9 => h9) rfl dX6_goalOf_14 ?_
    refine lv_bipush (v := iI (12)) hx hb dX6_goalOf_17 (by decide) ?_
    refine lv_iload_n hx hb dX6_goalOf_19 rfl (lv_at hl 2 rfl) ?_
    refine z_imul hx hb dX6_goalOf_20 ?_
    refine lv_iload_n hx hb dX6_goalOf_21 rfl (lv_at hl 1 rfl) ?_
    refine lv_bipush (v := iI (12)) hx hb dX6_goalOf_22 (by decide) ?_
    refine z_irem hx hb dX6_goalOf_24 (by omega) ?_
    refine z_iadd hx hb dX6_goalOf_25 ?_
    refine z_iald hx hb hK hP 5 0 rfl rfl (by omega) dX6_goalOf_26 ?_
    have b_2 := I.ab ((12 * s9) + (k % 12))
    refine z_imul hx hb dX6_goalOf_27 ?_
    refine lv_aload_n hx hb dX6_goalOf_28 rfl (lv_at hl 0 rfl) ?_
    refine va_get (D := D) (ci := 6) (v := .ref (q 6)) (C := RX6) (T := TX6) (N := 21) hx hb hts n_X6 hown hK hP 0 rfl rfl 7 (by decide) f_29 (fun _ h9 => h9) rfl dX6_goalOf_29 ?_
    refine lv_bipush (v := iI (12)) hx hb dX6_goalOf_32 (by decide) ?_
    refine lv_iload_n hx hb dX6_goalOf_34 rfl (lv_at hl 2 rfl) ?_
    refine z_imul hx hb dX6_goalOf_35 ?_
    refine lv_iload_n hx hb dX6_goalOf_36 rfl (lv_at hl 1 rfl) ?_
    refine lv_bipush (v := iI (12)) hx hb dX6_goalOf_37 (by decide) ?_
    refine z_irem hx hb dX6_goalOf_39 (by omega) ?_
    refine z_iadd hx hb dX6_goalOf_40 ?_
    refine z_iald hx hb hK hP 6 0 rfl rfl (by omega) dX6_goalOf_41 ?_
    have b_3 := I.bl ((12 * s9) + (k % 12))
    refine z_idiv hx hb dX6_goalOf_42 (by omega) ?_
    exact z_iret X hK hP hD hS dX6_goalOf_43 (by unfold gl; first | rw [if_pos (by omega)] | rw [if_neg (by omega)])
  · refine lv_iconst (v := iI (1)) hx hb dX6_goalOf_7 rfl ?_
    refine lv_goto (tgt := 12) hx hb dX6_goalOf_8 (by decide) ?_
    refine z_imul hx hb dX6_goalOf_12 ?_
    refine lv_aload_n hx hb dX6_goalOf_13 rfl (lv_at hl 0 rfl) ?_
    refine va_get (D := D) (ci := 6) (v := .ref (q 5)) (C := RX6) (T := TX6) (N := 21) hx hb hts n_X6 hown hK hP 0 rfl rfl 6 (by decide) f_26 (fun _ h9 => h9) rfl dX6_goalOf_14 ?_
    refine lv_bipush (v := iI (12)) hx hb dX6_goalOf_17 (by decide) ?_
    refine lv_iload_n hx hb dX6_goalOf_19 rfl (lv_at hl 2 rfl) ?_
    refine z_imul hx hb dX6_goalOf_20 ?_
    refine lv_iload_n hx hb dX6_goalOf_21 rfl (lv_at hl 1 rfl) ?_
    refine lv_bipush (v := iI (12)) hx hb dX6_goalOf_22 (by decide) ?_
    refine z_irem hx hb dX6_goalOf_24 (by omega) ?_
    refine z_iadd hx hb dX6_goalOf_25 ?_
    refine z_iald hx hb hK hP 5 0 rfl rfl (by omega) dX6_goalOf_26 ?_
    have b_4 := I.ab ((12 * s9) + (k % 12))
    refine z_imul hx hb dX6_goalOf_27 ?_
    refine lv_aload_n hx hb dX6_goalOf_28 rfl (lv_at hl 0 rfl) ?_
    refine va_get (D := D) (ci := 6) (v := .ref (q 6)) (C := RX6) (T := TX6) (N := 21) hx hb hts n_X6 hown hK hP 0 rfl rfl 7 (by decide) f_29 (fun _ h9 => h9) rfl dX6_goalOf_29 ?_
    refine lv_bipush (v := iI (12)) hx hb dX6_goalOf_32 (by decide) ?_
    refine lv_iload_n hx hb dX6_goalOf_34 rfl (lv_at hl 2 rfl) ?_
    refine z_imul hx hb dX6_goalOf_35 ?_
    refine lv_iload_n hx hb dX6_goalOf_36 rfl (lv_at hl 1 rfl) ?_
    refine lv_bipush (v := iI (12)) hx hb dX6_goalOf_37 (by decide) ?_
    refine z_irem hx hb dX6_goalOf_39 (by omega) ?_
    refine z_iadd hx hb dX6_goalOf_40 ?_
    refine z_iald hx hb hK hP 6 0 rfl rfl (by omega) dX6_goalOf_41 ?_
    have b_5 := I.bl ((12 * s9) + (k % 12))
    refine z_idiv hx hb dX6_goalOf_42 (by omega) ?_
    exact z_iret X hK hP hD hS dX6_goalOf_43 (by unfold gl; first | rw [if_pos (by omega)] | rw [if_neg (by omega)])

theorem hd_X6_errorOf : yX6_errorOf.cls = RX6 ∧ yX6_errorOf.cls ≠ "java/lang/invoke/MethodHandle" ∧ yX6_errorOf.cls ≠ "java/lang/invoke/VarHandle" ∧ (parseMethodDescriptor yX6_errorOf.desc).map (fun d => d.parameters.length) = some 1 := by decide +kernel
set_option maxHeartbeats 4000000 in
set_option maxRecDepth 100000 in
theorem c_X6_errorOf (I : okS nK st le be te ab bl ka bg ln ns me sc pi re bk) (k : Int) (h : 0 ≤ k ∧ k < 24) : MI l D cy yX6_errorOf wsX6_errorOf ({ frames := 2, cells := 0, slots := 0, locals := 42 } : Room) [.ref (q 0), .int (iI k)] (wM q cy nK st le be te ab bl ka bg ln ns me sc pi re bk th co bs gr lo) (er st le be te ab bl sc pi k) (wM q cy nK st le be te ab bl ka bg ln ns me sc pi re bk th co bs gr lo) := by
  refine MI.ofW (cc := cX6_errorOf) (maxL := 2) (ret := (some .int)) (by decide) rfl (Nat.le_of_ble_eq_true rfl) ?_
  intro p e s m below meth c A ls X hK hP hD hA hS hl
  obtain ⟨hx, hb, hml, hr, hts, hown, hlocks⟩ := id X
  have hl : lv_has ls 2 [(0, .ref (q 0)), (1, .int (iI k))] := hl
  have f_106 := hts (Cond.fieldLink RX6 106 "TwoKeysModel" "scale" "I") (by decide +kernel)
  have f_32 := hts (Cond.fieldLink RX6 32 "TwoKeysModel" "pitch" "I") (by decide +kernel)
  have n_X6 : ∀ w ∈ u_ws RX6 TX6 21, w ∈ wsX6_errorOf := by decide +kernel
  have iK := I.nK
  have i1 := I.sc
  have i2 := I.pi
  refine lv_aload_n hx hb dX6_errorOf_0 rfl (lv_at hl 0 rfl) ?_
  refine lv_iload_n hx hb dX6_errorOf_1 rfl (lv_at hl 1 rfl) ?_
  refine z_callVi (ci := 6) (q0 := 0) (As := [.int (iI k)]) (rest := []) X hK hP hD hA hS hl.1 gX6_errorOf_X6_toneOf rfl ⟨rfl, rfl⟩ hd_X6_toneOf ⟨Nat.le_of_ble_eq_true rfl, Nat.le_of_ble_eq_true rfl⟩ rfl rfl rfl (Nat.le_of_ble_eq_true rfl) ⟨Nat.zero_le _, Nat.zero_le _⟩ rfl dX6_errorOf_2 (c_X6_toneOf I k (by omega)) (fun H locs hP hD hS => ?_)
  refine lv_aload_n hx hb dX6_errorOf_5 rfl (lv_at hl 0 rfl) ?_
  refine lv_iload_n hx hb dX6_errorOf_6 rfl (lv_at hl 1 rfl) ?_
  refine lv_aload_n hx hb dX6_errorOf_7 rfl (lv_at hl 0 rfl) ?_
  refine va_get (D := D) (ci := 6) (v := .int (iI sc)) (C := RX6) (T := TX6) (N := 21) hx hb hts n_X6 hown hK hP 0 rfl rfl 8 (by decide) f_106 (fun _ h9 => h9) rfl dX6_errorOf_8 ?_
  refine lv_aload_n hx hb dX6_errorOf_11 rfl (lv_at hl 0 rfl) ?_
  refine va_get (D := D) (ci := 6) (v := .int (iI pi)) (C := RX6) (T := TX6) (N := 21) hx hb hts n_X6 hown hK hP 0 rfl rfl 9 (by decide) f_32 (fun _ h9 => h9) rfl dX6_errorOf_12 ?_
  refine z_callVi (ci := 6) (q0 := 0) (As := [.int (iI k), .int (iI sc), .int (iI pi)]) (rest := [.int (iI (te (st k) * 10000 / (le k + be k)))]) X hK hP hD hA hS hl.1 gX6_errorOf_X6_goalOf rfl ⟨rfl, rfl⟩ hd_X6_goalOf ⟨Nat.le_of_ble_eq_true rfl, Nat.le_of_ble_eq_true rfl⟩ rfl rfl rfl (Nat.le_of_ble_eq_true rfl) ⟨Nat.zero_le _, Nat.zero_le _⟩ rfl dX6_errorOf_15 (c_X6_goalOf I k sc pi (by omega) (by omega) (by omega)) (fun H locs hP hD hS => ?_)
  refine z_isub hx hb dX6_errorOf_18 ?_
  exact z_iret X hK hP hD hS dX6_errorOf_19 (by first | rfl | omega | grind)

theorem hd_X6_onString : yX6_onString.cls = RX6 ∧ yX6_onString.cls ≠ "java/lang/invoke/MethodHandle" ∧ yX6_onString.cls ≠ "java/lang/invoke/VarHandle" ∧ (parseMethodDescriptor yX6_onString.desc).map (fun d => d.parameters.length) = some 1 := by decide +kernel
set_option maxHeartbeats 4000000 in
set_option maxRecDepth 100000 in
theorem c_X6_onString (I : okS nK st le be te ab bl ka bg ln ns me sc pi re bk) (s9 : Int) (h : -2147483648 ≤ s9 ∧ s9 ≤ 2147483647) : MI l D cy yX6_onString wsX6_onString ({ frames := 0, cells := 0, slots := 0, locals := 0 } : Room) [.ref (q 0), .int (iI s9)] (wM q cy nK st le be te ab bl ka bg ln ns me sc pi re bk th co bs gr lo) (sZ (fun k => if st k = s9 then 1 else 0) 0 nK) (wM q cy nK st le be te ab bl ka bg ln ns me sc pi re bk th co bs gr lo) := by
  refine MI.ofW (cc := cX6_onString) (maxL := 4) (ret := (some .int)) (by decide) rfl (Nat.le_of_ble_eq_true rfl) ?_
  intro p e s m below meth c A ls X hK hP hD hA hS hl
  obtain ⟨hx, hb, hml, hr, hts, hown, hlocks⟩ := id X
  have hl : lv_has ls 4 [(0, .ref (q 0)), (1, .int (iI s9))] := hl
  have f_7 := hts (Cond.fieldLink RX6 7 "TwoKeysModel" "keys" "I") (by decide +kernel)
  have f_13 := hts (Cond.fieldLink RX6 13 "TwoKeysModel" "string" "[I") (by decide +kernel)
  have n_X6 : ∀ w ∈ u_ws RX6 TX6 21, w ∈ wsX6_onString := by decide +kernel
  have iK := I.nK
  refine lv_iconst (v := iI (0)) hx hb dX6_onString_0 rfl ?_
  refine lv_istore_n (lv' := [(2, .int (iI 0)), (0, .ref (q 0)), (1, .int (iI s9))]) hx hb dX6_onString_1 rfl hl (by decide) rfl (fun ls hl => ?_)
  refine lv_iconst (v := iI (0)) hx hb dX6_onString_2 rfl ?_
  refine lv_istore_n (lv' := [(3, .int (iI 0)), (2, .int (iI 0)), (0, .ref (q 0)), (1, .int (iI s9))]) hx hb dX6_onString_3 rfl hl (by decide) rfl (fun ls hl => ?_)
  have L_4 : ∀ (n : Nat) (acc : Int) (k : Int), (h0 : 0 ≤ k ∧ k ≤ nK) → (hf : nK - k < n) → (hr : acc = sZ (fun k => if st k = s9 then 1 else 0) 0 k) → ∀ (H : Heap) (locs : List Loc) (ls : Array Slot), va_P D vwCl (wM q cy nK st le be te ab bl ka bg ln ns me sc pi re bk th co bs gr lo) H → va_D A (wM q cy nK st le be te ab bl ka bg ln ns me sc pi re bk th co bs gr lo) → va_S A s.heap H locs → lv_has ls 4 [(3, .int (iI k)), (2, .int (iI acc)), (0, .ref (q 0)), (1, .int (iI s9))] → W p l e ({ frames := 0, cells := 0, slots := 0, locals := 0 } : Room) s m [.ref (q 0), .int (iI s9)].toArray below meth c H locs 0 0 (MQ below (zQi D cy (wM q cy nK st le be te ab bl ka bg ln ns me sc pi re bk th co bs gr lo) A (sZ (fun k => if st k = s9 then 1 else 0) 0 nK)) [.ref (q 0), .int (iI s9)].toArray s 0 0 A) (F0 m 4 ls []) := by
    intro n
    induction n with
    | zero =>
      intro acc k h0 hf hr
      exfalso; omega
    | succ n ih_4 =>
      intro acc k h0 hf hr H locs ls hP hD hS hl
      refine lv_iload_n hx hb dX6_onString_4 rfl (lv_at hl 0 rfl) ?_
      refine lv_aload_n hx hb dX6_onString_5 rfl (lv_at hl 2 rfl) ?_
      refine va_get (D := D) (ci := 6) (v := .int (iI nK)) (C := RX6) (T := TX6) (N := 21) hx hb hts n_X6 hown hK hP 0 rfl rfl 1 (by decide) f_7 (fun _ h9 => h9) rfl dX6_onString_6 ?_
      refine z_icmp_ge (tgt := 36) hx hb dX6_onString_9 (by decide) (by omega) (fun c_1 => ?_) (fun c_1 => ?_)
      · refine lv_iload_n hx hb dX6_onString_36 rfl (lv_at hl 1 rfl) ?_
        exact z_iret X hK hP hD hS dX6_onString_37 (by rw [hr, show k = nK by omega])
      · refine lv_iload_n hx hb dX6_onString_12 rfl (lv_at hl 1 rfl) ?_
        refine lv_aload_n hx hb dX6_onString_13 rfl (lv_at hl 2 rfl) ?_
        refine va_get (D := D) (ci := 6) (v := .ref (q 1)) (C := RX6) (T := TX6) (N := 21) hx hb hts n_X6 hown hK hP 0 rfl rfl 2 (by decide) f_13 (fun _ h9 => h9) rfl dX6_onString_14 ?_
        refine lv_iload_n hx hb dX6_onString_17 rfl (lv_at hl 0 rfl) ?_
        refine z_iald hx hb hK hP 1 0 rfl rfl (by omega) dX6_onString_18 ?_
        have b_2 := I.st k
        refine lv_iload_n hx hb dX6_onString_19 rfl (lv_at hl 3 rfl) ?_
        refine z_icmp_ne (tgt := 27) hx hb dX6_onString_20 (by decide) (by omega) (fun c_3 => ?_) (fun c_3 => ?_)
        · refine lv_iconst (v := iI (0)) hx hb dX6_onString_27 rfl ?_
          refine z_iadd hx hb dX6_onString_28 ?_
          refine lv_istore_n (lv' := [(2, .int (iI (acc + 0))), (3, .int (iI k)), (0, .ref (q 0)), (1, .int (iI s9))]) hx hb dX6_onString_29 rfl hl (by decide) rfl (fun ls hl => ?_)
          refine lv_iinc (v := iI (k + 1)) (lv' := [(3, .int (iI (k + 1))), (2, .int (iI (acc + 0))), (0, .ref (q 0)), (1, .int (iI s9))]) hx hb dX6_onString_30 hl (k := 1) rfl (iI_add _ _) (by decide) rfl (fun ls hl => ?_)
          refine lv_goto (tgt := 4) hx hb dX6_onString_33 (by decide) ?_
          exact ih_4 (acc + 0) (k + 1) (by omega) (by omega) (by rw [sZ_step (by omega), ← hr]; (try dsimp only); split <;> omega) _ _ _ hP hD hS (lv_sub hl [0, 1, 2, 3] rfl)
        · refine lv_iconst (v := iI (1)) hx hb dX6_onString_23 rfl ?_
          refine lv_goto (tgt := 28) hx hb dX6_onString_24 (by decide) ?_
          refine z_iadd hx hb dX6_onString_28 ?_
          refine lv_istore_n (lv' := [(2, .int (iI (acc + 1))), (3, .int (iI k)), (0, .ref (q 0)), (1, .int (iI s9))]) hx hb dX6_onString_29 rfl hl (by decide) rfl (fun ls hl => ?_)
          refine lv_iinc (v := iI (k + 1)) (lv' := [(3, .int (iI (k + 1))), (2, .int (iI (acc + 1))), (0, .ref (q 0)), (1, .int (iI s9))]) hx hb dX6_onString_30 hl (k := 1) rfl (iI_add _ _) (by decide) rfl (fun ls hl => ?_)
          refine lv_goto (tgt := 4) hx hb dX6_onString_33 (by decide) ?_
          exact ih_4 (acc + 1) (k + 1) (by omega) (by omega) (by rw [sZ_step (by omega), ← hr]; (try dsimp only); split <;> omega) _ _ _ hP hD hS (lv_sub hl [0, 1, 2, 3] rfl)
  exact L_4 25 0 0 (by omega) (by omega) ((sZ_nil (by omega)).symm) _ _ _ hP hD hS (lv_sub hl [0, 1, 2, 3] rfl)

theorem hd_X6_allWrong : yX6_allWrong.cls = RX6 ∧ yX6_allWrong.cls ≠ "java/lang/invoke/MethodHandle" ∧ yX6_allWrong.cls ≠ "java/lang/invoke/VarHandle" ∧ (parseMethodDescriptor yX6_allWrong.desc).map (fun d => d.parameters.length) = some 0 := by decide +kernel
set_option maxHeartbeats 4000000 in
set_option maxRecDepth 100000 in
theorem c_X6_allWrong (I : okS nK st le be te ab bl ka bg ln ns me sc pi re bk)   : MI l D cy yX6_allWrong wsX6_allWrong ({ frames := 3, cells := 0, slots := 0, locals := 63 } : Room) [.ref (q 0)] (wM q cy nK st le be te ab bl ka bg ln ns me sc pi re bk th co bs gr lo) (sZ (fun k => aZ (er st le be te ab bl sc pi k)) 0 nK) (wM q cy nK st le be te ab bl ka bg ln ns me sc pi re bk th co bs gr lo) := by
  refine MI.ofW (cc := cX6_allWrong) (maxL := 3) (ret := (some .int)) (by decide) rfl (Nat.le_of_ble_eq_true rfl) ?_
  intro p e s m below meth c A ls X hK hP hD hA hS hl
  obtain ⟨hx, hb, hml, hr, hts, hown, hlocks⟩ := id X
  have hl : lv_has ls 3 [(0, .ref (q 0))] := hl
  have f_7 := hts (Cond.fieldLink RX6 7 "TwoKeysModel" "keys" "I") (by decide +kernel)
  have n_X6 : ∀ w ∈ u_ws RX6 TX6 21, w ∈ wsX6_allWrong := by decide +kernel
  have iK := I.nK
  have i2 := I.pi
  refine lv_iconst (v := iI (0)) hx hb dX6_allWrong_0 rfl ?_
  refine lv_istore_n (lv' := [(1, .int (iI 0)), (0, .ref (q 0))]) hx hb dX6_allWrong_1 rfl hl (by decide) rfl (fun ls hl => ?_)
  refine lv_iconst (v := iI (0)) hx hb dX6_allWrong_2 rfl ?_
  refine lv_istore_n (lv' := [(2, .int (iI 0)), (1, .int (iI 0)), (0, .ref (q 0))]) hx hb dX6_allWrong_3 rfl hl (by decide) rfl (fun ls hl => ?_)
  have L_4 : ∀ (n : Nat) (acc : Int) (k : Int), (h0 : 0 ≤ k ∧ k ≤ nK) → (hf : nK - k < n) → (hr : acc = sZ (fun k => aZ (er st le be te ab bl sc pi k)) 0 k) → ∀ (H : Heap) (locs : List Loc) (ls : Array Slot), va_P D vwCl (wM q cy nK st le be te ab bl ka bg ln ns me sc pi re bk th co bs gr lo) H → va_D A (wM q cy nK st le be te ab bl ka bg ln ns me sc pi re bk th co bs gr lo) → va_S A s.heap H locs → lv_has ls 3 [(2, .int (iI k)), (1, .int (iI acc)), (0, .ref (q 0))] → W p l e ({ frames := 3, cells := 0, slots := 0, locals := 63 } : Room) s m [.ref (q 0)].toArray below meth c H locs 0 0 (MQ below (zQi D cy (wM q cy nK st le be te ab bl ka bg ln ns me sc pi re bk th co bs gr lo) A (sZ (fun k => aZ (er st le be te ab bl sc pi k)) 0 nK)) [.ref (q 0)].toArray s 0 0 A) (F0 m 4 ls []) := by
    intro n
    induction n with
    | zero =>
      intro acc k h0 hf hr
      exfalso; omega
    | succ n ih_4 =>
      intro acc k h0 hf hr H locs ls hP hD hS hl
      refine lv_iload_n hx hb dX6_allWrong_4 rfl (lv_at hl 0 rfl) ?_
      refine lv_aload_n hx hb dX6_allWrong_5 rfl (lv_at hl 2 rfl) ?_
      refine va_get (D := D) (ci := 6) (v := .int (iI nK)) (C := RX6) (T := TX6) (N := 21) hx hb hts n_X6 hown hK hP 0 rfl rfl 1 (by decide) f_7 (fun _ h9 => h9) rfl dX6_allWrong_6 ?_
      refine z_icmp_ge (tgt := 29) hx hb dX6_allWrong_9 (by decide) (by omega) (fun c_1 => ?_) (fun c_1 => ?_)
      · refine lv_iload_n hx hb dX6_allWrong_29 rfl (lv_at hl 1 rfl) ?_
        exact z_iret X hK hP hD hS dX6_allWrong_30 (by rw [hr, show k = nK by omega])
      · refine lv_iload_n hx hb dX6_allWrong_12 rfl (lv_at hl 1 rfl) ?_
        refine lv_aload_n hx hb dX6_allWrong_13 rfl (lv_at hl 2 rfl) ?_
        refine lv_iload_n hx hb dX6_allWrong_14 rfl (lv_at hl 0 rfl) ?_
        refine z_callVi (ci := 6) (q0 := 0) (As := [.int (iI k)]) (rest := [.int (iI acc)]) X hK hP hD hA hS hl.1 gX6_allWrong_X6_errorOf rfl ⟨rfl, rfl⟩ hd_X6_errorOf ⟨Nat.le_of_ble_eq_true rfl, Nat.le_of_ble_eq_true rfl⟩ rfl rfl rfl (Nat.le_of_ble_eq_true rfl) ⟨Nat.zero_le _, Nat.zero_le _⟩ rfl dX6_allWrong_15 (c_X6_errorOf I k (by omega)) (fun H locs hP hD hS => ?_)
        have b7 := er_b I k
        refine z_callSi (As := [.int (iI (er st le be te ab bl sc pi k))]) (rest := [.int (iI acc)]) X hK hP hD hA hS hl.1 gX6_allWrong_X6_size rfl ⟨rfl, rfl⟩ hd_X6_size ⟨Nat.le_of_ble_eq_true rfl, Nat.le_of_ble_eq_true rfl⟩ rfl (Nat.le_of_ble_eq_true rfl) ⟨Nat.zero_le _, Nat.zero_le _⟩ rfl dX6_allWrong_18 (c_X6_size (er st le be te ab bl sc pi k) (by omega)) (fun H locs hP hD hS => ?_)
        refine z_iadd hx hb dX6_allWrong_21 ?_
        refine lv_istore_n (lv' := [(1, .int (iI (acc + (aZ (er st le be te ab bl sc pi k))))), (2, .int (iI k)), (0, .ref (q 0))]) hx hb dX6_allWrong_22 rfl hl (by decide) rfl (fun ls hl => ?_)
        refine lv_iinc (v := iI (k + 1)) (lv' := [(2, .int (iI (k + 1))), (1, .int (iI (acc + (aZ (er st le be te ab bl sc pi k))))), (0, .ref (q 0))]) hx hb dX6_allWrong_23 hl (k := 1) rfl (iI_add _ _) (by decide) rfl (fun ls hl => ?_)
        refine lv_goto (tgt := 4) hx hb dX6_allWrong_26 (by decide) ?_
        exact ih_4 (acc + (aZ (er st le be te ab bl sc pi k))) (k + 1) (by omega) (by omega) (by rw [sZ_step (by omega), ← hr]) _ _ _ hP hD hS (lv_sub hl [0, 1, 2] rfl)
  exact L_4 25 0 0 (by omega) (by omega) ((sZ_nil (by omega)).symm) _ _ _ hP hD hS (lv_sub hl [0, 1, 2] rfl)

theorem hd_X6_meet : yX6_meet.cls = RX6 ∧ yX6_meet.cls ≠ "java/lang/invoke/MethodHandle" ∧ yX6_meet.cls ≠ "java/lang/invoke/VarHandle" ∧ (parseMethodDescriptor yX6_meet.desc).map (fun d => d.parameters.length) = some 2 := by decide +kernel
set_option maxHeartbeats 4000000 in
set_option maxRecDepth 100000 in
theorem c_X6_meet (I : okS nK st le be te ab bl ka bg ln ns me sc pi re bk) (a : Int) (b : Int) (h : 0 ≤ a ∧ a < 160) (h2 : 0 ≤ b ∧ b < 160) : MI l D cy yX6_meet wsX6_meet ({ frames := 0, cells := 0, slots := 0, locals := 0 } : Room) [.ref (q 0), .int (iI a), .int (iI b)] (wM q cy nK st le be te ab bl ka bg ln ns me sc pi re bk th co bs gr lo) (bP (onP bg ln a b)) (wM q cy nK st le be te ab bl ka bg ln ns me sc pi re bk th co bs gr lo) := by
  refine MI.ofW (cc := cX6_meet) (maxL := 3) (ret := (some .boolean)) (by decide) rfl (Nat.le_of_ble_eq_true rfl) ?_
  intro p e s m below meth c A ls X hK hP hD hA hS hl
  obtain ⟨hx, hb, hml, hr, hts, hown, hlocks⟩ := id X
  have hl : lv_has ls 3 [(0, .ref (q 0)), (1, .int (iI a)), (2, .int (iI b))] := hl
  have f_41 := hts (Cond.fieldLink RX6 41 "TwoKeysModel" "begin" "[I") (by decide +kernel)
  have f_44 := hts (Cond.fieldLink RX6 44 "TwoKeysModel" "lasts" "[I") (by decide +kernel)
  have n_X6 : ∀ w ∈ u_ws RX6 TX6 21, w ∈ wsX6_meet := by decide +kernel
  have iK := I.nK
  refine lv_aload_n hx hb dX6_meet_0 rfl (lv_at hl 0 rfl) ?_
  refine va_get (D := D) (ci := 6) (v := .ref (q 9)) (C := RX6) (T := TX6) (N := 21) hx hb hts n_X6 hown hK hP 0 rfl rfl 12 (by decide) f_41 (fun _ h9 => h9) rfl dX6_meet_1 ?_
  refine lv_iload_n hx hb dX6_meet_4 rfl (lv_at hl 1 rfl) ?_
  refine z_iald hx hb hK hP 9 0 rfl rfl (by omega) dX6_meet_5 ?_
  have b_1 := I.bg a
  refine lv_aload_n hx hb dX6_meet_6 rfl (lv_at hl 0 rfl) ?_
  refine va_get (D := D) (ci := 6) (v := .ref (q 9)) (C := RX6) (T := TX6) (N := 21) hx hb hts n_X6 hown hK hP 0 rfl rfl 12 (by decide) f_41 (fun _ h9 => h9) rfl dX6_meet_7 ?_
  refine lv_iload_n hx hb dX6_meet_10 rfl (lv_at hl 2 rfl) ?_
  refine z_iald hx hb hK hP 9 0 rfl rfl (by omega) dX6_meet_11 ?_
  have b_2 := I.bg b
  refine lv_aload_n hx hb dX6_meet_12 rfl (lv_at hl 0 rfl) ?_
  refine va_get (D := D) (ci := 6) (v := .ref (q 10)) (C := RX6) (T := TX6) (N := 21) hx hb hts n_X6 hown hK hP 0 rfl rfl 13 (by decide) f_44 (fun _ h9 => h9) rfl dX6_meet_13 ?_
  refine lv_iload_n hx hb dX6_meet_16 rfl (lv_at hl 2 rfl) ?_
  refine z_iald hx hb hK hP 10 0 rfl rfl (by omega) dX6_meet_17 ?_
  have b_3 := I.ln b
  refine z_iadd hx hb dX6_meet_18 ?_
  refine z_icmp_ge (tgt := 48) hx hb dX6_meet_19 (by decide) (by omega) (fun c_4 => ?_) (fun c_4 => ?_)
  · refine lv_iconst (v := iI (0)) hx hb dX6_meet_48 rfl ?_
    exact z_pret0 X hK hP hD hS dX6_meet_49 (by first | rfl | omega | grind)
  · refine lv_aload_n hx hb dX6_meet_22 rfl (lv_at hl 0 rfl) ?_
    refine va_get (D := D) (ci := 6) (v := .ref (q 9)) (C := RX6) (T := TX6) (N := 21) hx hb hts n_X6 hown hK hP 0 rfl rfl 12 (by decide) f_41 (fun _ h9 => h9) rfl dX6_meet_23 ?_
    refine lv_iload_n hx hb dX6_meet_26 rfl (lv_at hl 2 rfl) ?_
    refine z_iald hx hb hK hP 9 0 rfl rfl (by omega) dX6_meet_27 ?_
    have b_5 := I.bg b
    refine lv_aload_n hx hb dX6_meet_28 rfl (lv_at hl 0 rfl) ?_
    refine va_get (D := D) (ci := 6) (v := .ref (q 9)) (C := RX6) (T := TX6) (N := 21) hx hb hts n_X6 hown hK hP 0 rfl rfl 12 (by decide) f_41 (fun _ h9 => h9) rfl dX6_meet_29 ?_
    refine lv_iload_n hx hb dX6_meet_32 rfl (lv_at hl 1 rfl) ?_
    refine z_iald hx hb hK hP 9 0 rfl rfl (by omega) dX6_meet_33 ?_
    have b_6 := I.bg a
    refine lv_aload_n hx hb dX6_meet_34 rfl (lv_at hl 0 rfl) ?_
    refine va_get (D := D) (ci := 6) (v := .ref (q 10)) (C := RX6) (T := TX6) (N := 21) hx hb hts n_X6 hown hK hP 0 rfl rfl 13 (by decide) f_44 (fun _ h9 => h9) rfl dX6_meet_35 ?_
    refine lv_iload_n hx hb dX6_meet_38 rfl (lv_at hl 1 rfl) ?_
    refine z_iald hx hb hK hP 10 0 rfl rfl (by omega) dX6_meet_39 ?_
    have b_7 := I.ln a
    refine z_iadd hx hb dX6_meet_40 ?_
    refine z_icmp_ge (tgt := 48) hx hb dX6_meet_41 (by decide) (by omega) (fun c_8 => ?_) (fun c_8 => ?_)
    · refine lv_iconst (v := iI (0)) hx hb dX6_meet_48 rfl ?_
      exact z_pret0 X hK hP hD hS dX6_meet_49 (by first | rfl | omega | grind)
    · refine lv_iconst (v := iI (1)) hx hb dX6_meet_44 rfl ?_
      refine lv_goto (tgt := 49) hx hb dX6_meet_45 (by decide) ?_
      exact z_pret1 X hK hP hD hS dX6_meet_49 (by first | rfl | omega | grind)

theorem hd_X6_shares : yX6_shares.cls = RX6 ∧ yX6_shares.cls ≠ "java/lang/invoke/MethodHandle" ∧ yX6_shares.cls ≠ "java/lang/invoke/VarHandle" ∧ (parseMethodDescriptor yX6_shares.desc).map (fun d => d.parameters.length) = some 2 := by decide +kernel
set_option maxHeartbeats 4000000 in
set_option maxRecDepth 100000 in
theorem c_X6_shares (I : okS nK st le be te ab bl ka bg ln ns me sc pi re bk) (a : Int) (b : Int) (h : 0 ≤ a ∧ a < 160) (h2 : 0 ≤ b ∧ b < 160) : MI l D cy yX6_shares wsX6_shares ({ frames := 0, cells := 0, slots := 0, locals := 0 } : Room) [.ref (q 0), .int (iI a), .int (iI b)] (wM q cy nK st le be te ab bl ka bg ln ns me sc pi re bk th co bs gr lo) (bP (shP nK st (ka a) (ka b))) (wM q cy nK st le be te ab bl ka bg ln ns me sc pi re bk th co bs gr lo) := by
  refine MI.ofW (cc := cX6_shares) (maxL := 5) (ret := (some .boolean)) (by decide) rfl (Nat.le_of_ble_eq_true rfl) ?_
  intro p e s m below meth c A ls X hK hP hD hA hS hl
  obtain ⟨hx, hb, hml, hr, hts, hown, hlocks⟩ := id X
  have hl : lv_has ls 5 [(0, .ref (q 0)), (1, .int (iI a)), (2, .int (iI b))] := hl
  have f_38 := hts (Cond.fieldLink RX6 38 "TwoKeysModel" "noteKey" "[I") (by decide +kernel)
  have f_7 := hts (Cond.fieldLink RX6 7 "TwoKeysModel" "keys" "I") (by decide +kernel)
  have f_13 := hts (Cond.fieldLink RX6 13 "TwoKeysModel" "string" "[I") (by decide +kernel)
  have n_X6 : ∀ w ∈ u_ws RX6 TX6 21, w ∈ wsX6_shares := by decide +kernel
  have iK := I.nK
  refine lv_aload_n hx hb dX6_shares_0 rfl (lv_at hl 0 rfl) ?_
  refine va_get (D := D) (ci := 6) (v := .ref (q 8)) (C := RX6) (T := TX6) (N := 21) hx hb hts n_X6 hown hK hP 0 rfl rfl 11 (by decide) f_38 (fun _ h9 => h9) rfl dX6_shares_1 ?_
  refine lv_iload_n hx hb dX6_shares_4 rfl (lv_at hl 1 rfl) ?_
  refine z_iald hx hb hK hP 8 0 rfl rfl (by omega) dX6_shares_5 ?_
  have b_1 := I.ka a
  refine lv_istore_n (lv' := [(3, .int (iI (ka a))), (0, .ref (q 0)), (1, .int (iI a)), (2, .int (iI b))]) hx hb dX6_shares_6 rfl hl (by decide) rfl (fun ls hl => ?_)
  refine lv_aload_n hx hb dX6_shares_7 rfl (lv_at hl 1 rfl) ?_
  refine va_get (D := D) (ci := 6) (v := .ref (q 8)) (C := RX6) (T := TX6) (N := 21) hx hb hts n_X6 hown hK hP 0 rfl rfl 11 (by decide) f_38 (fun _ h9 => h9) rfl dX6_shares_8 ?_
  refine lv_iload_n hx hb dX6_shares_11 rfl (lv_at hl 3 rfl) ?_
  refine z_iald hx hb hK hP 8 0 rfl rfl (by omega) dX6_shares_12 ?_
  have b_2 := I.ka b
  refine lv_istore (lv' := [(4, .int (iI (ka b))), (3, .int (iI (ka a))), (0, .ref (q 0)), (1, .int (iI a)), (2, .int (iI b))]) hx hb dX6_shares_13 hl (by decide) rfl (fun ls hl => ?_)
  refine lv_iload_n hx hb dX6_shares_15 rfl (lv_at hl 1 rfl) ?_
  refine lv_iload hx hb dX6_shares_16 (lv_at hl 0 rfl) ?_
  refine z_icmp_eq (tgt := 58) hx hb dX6_shares_18 (by decide) (by omega) (fun c_3 => ?_) (fun c_3 => ?_)
  · refine lv_iconst (v := iI (0)) hx hb dX6_shares_58 rfl ?_
    exact z_pret0 X hK hP hD hS dX6_shares_59 (by first | rfl | omega | grind)
  · refine lv_iload_n hx hb dX6_shares_21 rfl (lv_at hl 1 rfl) ?_
    refine lv_aload_n hx hb dX6_shares_22 rfl (lv_at hl 2 rfl) ?_
    refine va_get (D := D) (ci := 6) (v := .int (iI nK)) (C := RX6) (T := TX6) (N := 21) hx hb hts n_X6 hown hK hP 0 rfl rfl 1 (by decide) f_7 (fun _ h9 => h9) rfl dX6_shares_23 ?_
    refine z_icmp_ge (tgt := 58) hx hb dX6_shares_26 (by decide) (by omega) (fun c_4 => ?_) (fun c_4 => ?_)
    · refine lv_iconst (v := iI (0)) hx hb dX6_shares_58 rfl ?_
      exact z_pret0 X hK hP hD hS dX6_shares_59 (by first | rfl | omega | grind)
    · refine lv_iload hx hb dX6_shares_29 (lv_at hl 0 rfl) ?_
      refine lv_aload_n hx hb dX6_shares_31 rfl (lv_at hl 2 rfl) ?_
      refine va_get (D := D) (ci := 6) (v := .int (iI nK)) (C := RX6) (T := TX6) (N := 21) hx hb hts n_X6 hown hK hP 0 rfl rfl 1 (by decide) f_7 (fun _ h9 => h9) rfl dX6_shares_32 ?_
      refine z_icmp_ge (tgt := 58) hx hb dX6_shares_35 (by decide) (by omega) (fun c_5 => ?_) (fun c_5 => ?_)
      · refine lv_iconst (v := iI (0)) hx hb dX6_shares_58 rfl ?_
        exact z_pret0 X hK hP hD hS dX6_shares_59 (by first | rfl | omega | grind)
      · refine lv_aload_n hx hb dX6_shares_38 rfl (lv_at hl 2 rfl) ?_
        refine va_get (D := D) (ci := 6) (v := .ref (q 1)) (C := RX6) (T := TX6) (N := 21) hx hb hts n_X6 hown hK hP 0 rfl rfl 2 (by decide) f_13 (fun _ h9 => h9) rfl dX6_shares_39 ?_
        refine lv_iload_n hx hb dX6_shares_42 rfl (lv_at hl 1 rfl) ?_
        refine z_iald hx hb hK hP 1 0 rfl rfl (by omega) dX6_shares_43 ?_
        have b_6 := I.st (ka a)
        refine lv_aload_n hx hb dX6_shares_44 rfl (lv_at hl 2 rfl) ?_
        refine va_get (D := D) (ci := 6) (v := .ref (q 1)) (C := RX6) (T := TX6) (N := 21) hx hb hts n_X6 hown hK hP 0 rfl rfl 2 (by decide) f_13 (fun _ h9 => h9) rfl dX6_shares_45 ?_
        refine lv_iload hx hb dX6_shares_48 (lv_at hl 0 rfl) ?_
        refine z_iald hx hb hK hP 1 0 rfl rfl (by omega) dX6_shares_50 ?_
        have b_7 := I.st (ka b)
        refine z_icmp_ne (tgt := 58) hx hb dX6_shares_51 (by decide) (by omega) (fun c_8 => ?_) (fun c_8 => ?_)
        · refine lv_iconst (v := iI (0)) hx hb dX6_shares_58 rfl ?_
          exact z_pret0 X hK hP hD hS dX6_shares_59 (by first | rfl | omega | grind)
        · refine lv_iconst (v := iI (1)) hx hb dX6_shares_54 rfl ?_
          refine lv_goto (tgt := 59) hx hb dX6_shares_55 (by decide) ?_
          exact z_pret1 X hK hP hD hS dX6_shares_59 (by first | rfl | omega | grind)

theorem hd_X6_clashesOf : yX6_clashesOf.cls = RX6 ∧ yX6_clashesOf.cls ≠ "java/lang/invoke/MethodHandle" ∧ yX6_clashesOf.cls ≠ "java/lang/invoke/VarHandle" ∧ (parseMethodDescriptor yX6_clashesOf.desc).map (fun d => d.parameters.length) = some 1 := by decide +kernel
set_option maxHeartbeats 4000000 in
set_option maxRecDepth 100000 in
theorem c_X6_clashesOf (I : okS nK st le be te ab bl ka bg ln ns me sc pi re bk) (p9 : Int) (h : 0 ≤ p9 ∧ p9 ≤ 3) : MI l D cy yX6_clashesOf wsX6_clashesOf ({ frames := 1, cells := 0, slots := 0, locals := 24 } : Room) [.ref (q 0), .int (iI p9)] (wM q cy nK st le be te ab bl ka bg ln ns me sc pi re bk th co bs gr lo) (clN nK st ka bg ln (p9 * 40) (p9 * 40 + ns p9)) (wM q cy nK st le be te ab bl ka bg ln ns me sc pi re bk th co bs gr lo) := by
  refine MI.ofW (cc := cX6_clashesOf) (maxL := 5) (ret := (some .int)) (by decide) rfl (Nat.le_of_ble_eq_true rfl) ?_
  intro p e s m below meth c A ls X hK hP hD hA hS hl
  obtain ⟨hx, hb, hml, hr, hts, hown, hlocks⟩ := id X
  have hl : lv_has ls 5 [(0, .ref (q 0)), (1, .int (iI p9))] := hl
  have f_35 := hts (Cond.fieldLink RX6 35 "TwoKeysModel" "notes" "[I") (by decide +kernel)
  have n_X6 : ∀ w ∈ u_ws RX6 TX6 21, w ∈ wsX6_clashesOf := by decide +kernel
  have iK := I.nK
  have i9 := I.ns p9
  refine lv_iconst (v := iI (0)) hx hb dX6_clashesOf_0 rfl ?_
  refine lv_istore_n (lv' := [(2, .int (iI 0)), (0, .ref (q 0)), (1, .int (iI p9))]) hx hb dX6_clashesOf_1 rfl hl (by decide) rfl (fun ls hl => ?_)
  refine lv_iconst (v := iI (0)) hx hb dX6_clashesOf_2 rfl ?_
  refine lv_istore_n (lv' := [(3, .int (iI 0)), (2, .int (iI 0)), (0, .ref (q 0)), (1, .int (iI p9))]) hx hb dX6_clashesOf_3 rfl hl (by decide) rfl (fun ls hl => ?_)
  have L_4 : ∀ (n : Nat) (acc : Int) (b : Int), (h0 : 0 ≤ b ∧ b ≤ ns p9) → (hf : ns p9 - b < n) → (hr : acc = clN nK st ka bg ln (p9 * 40) (p9 * 40 + b)) → ∀ (H : Heap) (locs : List Loc) (ls : Array Slot), va_P D vwCl (wM q cy nK st le be te ab bl ka bg ln ns me sc pi re bk th co bs gr lo) H → va_D A (wM q cy nK st le be te ab bl ka bg ln ns me sc pi re bk th co bs gr lo) → va_S A s.heap H locs → lv_has ls 5 [(3, .int (iI b)), (2, .int (iI acc)), (0, .ref (q 0)), (1, .int (iI p9))] → W p l e ({ frames := 1, cells := 0, slots := 0, locals := 24 } : Room) s m [.ref (q 0), .int (iI p9)].toArray below meth c H locs 0 0 (MQ below (zQi D cy (wM q cy nK st le be te ab bl ka bg ln ns me sc pi re bk th co bs gr lo) A (clN nK st ka bg ln (p9 * 40) (p9 * 40 + ns p9))) [.ref (q 0), .int (iI p9)].toArray s 0 0 A) (F0 m 4 ls []) := by
    intro n
    induction n with
    | zero =>
      intro acc b h0 hf hr
      exfalso; omega
    | succ n ih_4 =>
      intro acc b h0 hf hr H locs ls hP hD hS hl
      refine lv_iload_n hx hb dX6_clashesOf_4 rfl (lv_at hl 0 rfl) ?_
      refine lv_aload_n hx hb dX6_clashesOf_5 rfl (lv_at hl 2 rfl) ?_
      refine va_get (D := D) (ci := 6) (v := .ref (q 7)) (C := RX6) (T := TX6) (N := 21) hx hb hts n_X6 hown hK hP 0 rfl rfl 10 (by decide) f_35 (fun _ h9 => h9) rfl dX6_clashesOf_6 ?_
      refine lv_iload_n hx hb dX6_clashesOf_9 rfl (lv_at hl 3 rfl) ?_
      refine z_iald hx hb hK hP 7 0 rfl rfl (by omega) dX6_clashesOf_10 ?_
      have b_1 := I.ns p9
      refine z_icmp_ge (tgt := 83) hx hb dX6_clashesOf_11 (by decide) (by omega) (fun c_2 => ?_) (fun c_2 => ?_)
      · refine lv_iload_n hx hb dX6_clashesOf_83 rfl (lv_at hl 1 rfl) ?_
        exact z_iret X hK hP hD hS dX6_clashesOf_84 (by rw [hr, show b = ns p9 by omega])
      · refine lv_iconst (v := iI (0)) hx hb dX6_clashesOf_14 rfl ?_
        refine lv_istore (lv' := [(4, .int (iI 0)), (3, .int (iI b)), (2, .int (iI acc)), (0, .ref (q 0)), (1, .int (iI p9))]) hx hb dX6_clashesOf_15 hl (by decide) rfl (fun ls hl => ?_)
        have L_17 : ∀ (n : Nat) (acc2 : Int) (a : Int), (h3 : 0 ≤ a ∧ a ≤ b) → (hf2 : b - a < n) → (hr2 : acc2 = clN nK st ka bg ln (p9 * 40) (p9 * 40 + b) + sZ (fun a => bP (clP nK st ka bg ln (40 * p9 + a) (40 * p9 + b))) 0 a) → ∀ (H : Heap) (locs : List Loc) (ls : Array Slot), va_P D vwCl (wM q cy nK st le be te ab bl ka bg ln ns me sc pi re bk th co bs gr lo) H → va_D A (wM q cy nK st le be te ab bl ka bg ln ns me sc pi re bk th co bs gr lo) → va_S A s.heap H locs → lv_has ls 5 [(4, .int (iI a)), (3, .int (iI b)), (2, .int (iI acc2)), (0, .ref (q 0)), (1, .int (iI p9))] → W p l e ({ frames := 1, cells := 0, slots := 0, locals := 24 } : Room) s m [.ref (q 0), .int (iI p9)].toArray below meth c H locs 0 0 (MQ below (zQi D cy (wM q cy nK st le be te ab bl ka bg ln ns me sc pi re bk th co bs gr lo) A (clN nK st ka bg ln (p9 * 40) (p9 * 40 + ns p9))) [.ref (q 0), .int (iI p9)].toArray s 0 0 A) (F0 m 17 ls []) := by
          intro n
          induction n with
          | zero =>
            intro acc2 a h3 hf2 hr2
            exfalso; omega
          | succ n ih_17 =>
            intro acc2 a h3 hf2 hr2 H locs ls hP hD hS hl
            refine lv_iload hx hb dX6_clashesOf_17 (lv_at hl 0 rfl) ?_
            refine lv_iload_n hx hb dX6_clashesOf_19 rfl (lv_at hl 1 rfl) ?_
            refine z_icmp_ge (tgt := 77) hx hb dX6_clashesOf_20 (by decide) (by omega) (fun c_3 => ?_) (fun c_3 => ?_)
            · refine lv_iinc (v := iI (b + 1)) (lv' := [(3, .int (iI (b + 1))), (4, .int (iI a)), (2, .int (iI acc2)), (0, .ref (q 0)), (1, .int (iI p9))]) hx hb dX6_clashesOf_77 hl (k := 1) rfl (iI_add _ _) (by decide) rfl (fun ls hl => ?_)
              refine lv_goto (tgt := 4) hx hb dX6_clashesOf_80 (by decide) ?_
              exact ih_4 acc2 (b + 1) (by omega) (by omega) (by rw [hr2, show a = b by omega]; exact clN_next (by omega)) _ _ _ hP hD hS (lv_sub hl [0, 2, 3, 4] rfl)
            · refine lv_iload_n hx hb dX6_clashesOf_23 rfl (lv_at hl 2 rfl) ?_
              refine lv_aload_n hx hb dX6_clashesOf_24 rfl (lv_at hl 3 rfl) ?_
              refine lv_bipush (v := iI (40)) hx hb dX6_clashesOf_25 (by decide) ?_
              refine lv_iload_n hx hb dX6_clashesOf_27 rfl (lv_at hl 4 rfl) ?_
              refine z_imul hx hb dX6_clashesOf_28 ?_
              refine lv_iload hx hb dX6_clashesOf_29 (lv_at hl 0 rfl) ?_
              refine z_iadd hx hb dX6_clashesOf_31 ?_
              refine lv_bipush (v := iI (40)) hx hb dX6_clashesOf_32 (by decide) ?_
              refine lv_iload_n hx hb dX6_clashesOf_34 rfl (lv_at hl 4 rfl) ?_
              refine z_imul hx hb dX6_clashesOf_35 ?_
              refine lv_iload_n hx hb dX6_clashesOf_36 rfl (lv_at hl 1 rfl) ?_
              refine z_iadd hx hb dX6_clashesOf_37 ?_
              refine z_callVi (ci := 6) (q0 := 0) (As := [.int (iI ((40 * p9) + a)), .int (iI ((40 * p9) + b))]) (rest := [.int (iI acc2)]) X hK hP hD hA hS hl.1 gX6_clashesOf_X6_shares rfl ⟨rfl, rfl⟩ hd_X6_shares ⟨Nat.le_of_ble_eq_true rfl, Nat.le_of_ble_eq_true rfl⟩ rfl rfl rfl (Nat.le_of_ble_eq_true rfl) ⟨Nat.zero_le _, Nat.zero_le _⟩ rfl dX6_clashesOf_38 (c_X6_shares I ((40 * p9) + a) ((40 * p9) + b) (by omega) (by omega)) (fun H locs hP hD hS => ?_)
              refine z_ifp_eq (tgt := 68) hx hb dX6_clashesOf_41 (by decide) (fun c_4 => ?_) (fun c_4 => ?_)
              · refine lv_iconst (v := iI (0)) hx hb dX6_clashesOf_68 rfl ?_
                refine z_iadd hx hb dX6_clashesOf_69 ?_
                refine lv_istore_n (lv' := [(2, .int (iI (acc2 + 0))), (4, .int (iI a)), (3, .int (iI b)), (0, .ref (q 0)), (1, .int (iI p9))]) hx hb dX6_clashesOf_70 rfl hl (by decide) rfl (fun ls hl => ?_)
                refine lv_iinc (v := iI (a + 1)) (lv' := [(4, .int (iI (a + 1))), (2, .int (iI (acc2 + 0))), (3, .int (iI b)), (0, .ref (q 0)), (1, .int (iI p9))]) hx hb dX6_clashesOf_71 hl (k := 1) rfl (iI_add _ _) (by decide) rfl (fun ls hl => ?_)
                refine lv_goto (tgt := 17) hx hb dX6_clashesOf_74 (by decide) ?_
                exact ih_17 (acc2 + 0) (a + 1) (by omega) (by omega) (by rw [sZ_step (by omega)]; (try dsimp only); first | (rw [bP_1 ⟨by assumption, by assumption⟩]; omega) | (rw [bP_0 (fun z => absurd z.1 (by assumption))]; omega) | (rw [bP_0 (fun z => absurd z.2 (by assumption))]; omega)) _ _ _ hP hD hS (lv_sub hl [0, 2, 1, 3, 4] rfl)
              · refine lv_aload_n hx hb dX6_clashesOf_44 rfl (lv_at hl 3 rfl) ?_
                refine lv_bipush (v := iI (40)) hx hb dX6_clashesOf_45 (by decide) ?_
                refine lv_iload_n hx hb dX6_clashesOf_47 rfl (lv_at hl 4 rfl) ?_
                refine z_imul hx hb dX6_clashesOf_48 ?_
                refine lv_iload hx hb dX6_clashesOf_49 (lv_at hl 0 rfl) ?_
                refine z_iadd hx hb dX6_clashesOf_51 ?_
                refine lv_bipush (v := iI (40)) hx hb dX6_clashesOf_52 (by decide) ?_
                refine lv_iload_n hx hb dX6_clashesOf_54 rfl (lv_at hl 4 rfl) ?_
                refine z_imul hx hb dX6_clashesOf_55 ?_
                refine lv_iload_n hx hb dX6_clashesOf_56 rfl (lv_at hl 1 rfl) ?_
                refine z_iadd hx hb dX6_clashesOf_57 ?_
                refine z_callVi (ci := 6) (q0 := 0) (As := [.int (iI ((40 * p9) + a)), .int (iI ((40 * p9) + b))]) (rest := [.int (iI acc2)]) X hK hP hD hA hS hl.1 gX6_clashesOf_X6_meet rfl ⟨rfl, rfl⟩ hd_X6_meet ⟨Nat.le_of_ble_eq_true rfl, Nat.le_of_ble_eq_true rfl⟩ rfl rfl rfl (Nat.le_of_ble_eq_true rfl) ⟨Nat.zero_le _, Nat.zero_le _⟩ rfl dX6_clashesOf_58 (c_X6_meet I ((40 * p9) + a) ((40 * p9) + b) (by omega) (by omega)) (fun H locs hP hD hS => ?_)
                refine z_ifp_eq (tgt := 68) hx hb dX6_clashesOf_61 (by decide) (fun c_5 => ?_) (fun c_5 => ?_)
                · refine lv_iconst (v := iI (0)) hx hb dX6_clashesOf_68 rfl ?_
                  refine z_iadd hx hb dX6_clashesOf_69 ?_
                  refine lv_istore_n (lv' := [(2, .int (iI (acc2 + 0))), (4, .int (iI a)), (3, .int (iI b)), (0, .ref (q 0)), (1, .int (iI p9))]) hx hb dX6_clashesOf_70 rfl hl (by decide) rfl (fun ls hl => ?_)
                  refine lv_iinc (v := iI (a + 1)) (lv' := [(4, .int (iI (a + 1))), (2, .int (iI (acc2 + 0))), (3, .int (iI b)), (0, .ref (q 0)), (1, .int (iI p9))]) hx hb dX6_clashesOf_71 hl (k := 1) rfl (iI_add _ _) (by decide) rfl (fun ls hl => ?_)
                  refine lv_goto (tgt := 17) hx hb dX6_clashesOf_74 (by decide) ?_
                  exact ih_17 (acc2 + 0) (a + 1) (by omega) (by omega) (by rw [sZ_step (by omega)]; (try dsimp only); first | (rw [bP_1 ⟨by assumption, by assumption⟩]; omega) | (rw [bP_0 (fun z => absurd z.1 (by assumption))]; omega) | (rw [bP_0 (fun z => absurd z.2 (by assumption))]; omega)) _ _ _ hP hD hS (lv_sub hl [0, 2, 1, 3, 4] rfl)
                · refine lv_iconst (v := iI (1)) hx hb dX6_clashesOf_64 rfl ?_
                  refine lv_goto (tgt := 69) hx hb dX6_clashesOf_65 (by decide) ?_
                  refine z_iadd hx hb dX6_clashesOf_69 ?_
                  refine lv_istore_n (lv' := [(2, .int (iI (acc2 + 1))), (4, .int (iI a)), (3, .int (iI b)), (0, .ref (q 0)), (1, .int (iI p9))]) hx hb dX6_clashesOf_70 rfl hl (by decide) rfl (fun ls hl => ?_)
                  refine lv_iinc (v := iI (a + 1)) (lv' := [(4, .int (iI (a + 1))), (2, .int (iI (acc2 + 1))), (3, .int (iI b)), (0, .ref (q 0)), (1, .int (iI p9))]) hx hb dX6_clashesOf_71 hl (k := 1) rfl (iI_add _ _) (by decide) rfl (fun ls hl => ?_)
                  refine lv_goto (tgt := 17) hx hb dX6_clashesOf_74 (by decide) ?_
                  exact ih_17 (acc2 + 1) (a + 1) (by omega) (by omega) (by rw [sZ_step (by omega)]; (try dsimp only); first | (rw [bP_1 ⟨by assumption, by assumption⟩]; omega) | (rw [bP_0 (fun z => absurd z.1 (by assumption))]; omega) | (rw [bP_0 (fun z => absurd z.2 (by assumption))]; omega)) _ _ _ hP hD hS (lv_sub hl [0, 2, 1, 3, 4] rfl)
        exact L_17 41 acc 0 (by omega) (by omega) (by rw [sZ_nil (by omega), ← hr, Int.add_zero]) _ _ _ hP hD hS (lv_sub hl [0, 1, 2, 3, 4] rfl)
  exact L_4 41 0 0 (by omega) (by omega) ((sZ_nil (by omega)).symm) _ _ _ hP hD hS (lv_sub hl [0, 1, 2, 3] rfl)
