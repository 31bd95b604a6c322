variable {l : Launch} {D : va_G} {cy : ClassId} {q : Nat → Nat} {nK sc pi re bk ss sm pf mf th lo : Int} {st le be te ab bl ka bg ln ns me pa lz go co bs gr : Int → Int}
theorem hd_X6_keys : yX6_keys.cls = RX6 ∧ yX6_keys.cls ≠ "java/lang/invoke/MethodHandle" ∧ yX6_keys.cls ≠ "java/lang/invoke/VarHandle" ∧ (parseMethodDescriptor yX6_keys.desc).map (fun d => d.parameters.length) = some 1 := by decide +kernel
set_option maxHeartbeats 4000000 in
set_option maxRecDepth 100000 in
theorem c_X6_keys_ok (I : okS nK st le be te ab bl ka bg ln ns me sc pi re bk) (n9 : Int) (h : -2147483648 ≤ n9 ∧ n9 ≤ 2147483647) (hok : 1 ≤ n9 ∧ n9 ≤ 24) : MI l D cy yX6_keys wsX6_keys ({ frames := 1, cells := 0, slots := 0, locals := 25 } : Room) [.ref (q 0), .int (iI n9)] (wM q cy nK st le be te ab bl ka bg ln ns me sc pi re bk th co bs gr lo) nK (wM q cy n9 st le be te ab bl ka bg ln ns me sc pi re bk 0 co bs gr lo) := by
  refine MI.ofW (cc := cX6_keys) (maxL := 3) (ret := (some .int)) (by decide) rfl (Nat.le_of_ble_eq_true rfl) ?_
  intro p e s m below meth c A ls X hK hP hD hA hS hl
  obtain ⟨hx, hb, hml, hr, hts, hown, hlocks⟩ := id X
  have hl : lv_has ls 3 [(0, .ref (q 0)), (1, .int (iI n9))] := hl
  have f_63 := hts (Cond.fieldLink RX6 63 "TwoKeysModel" "thrown" "I") (by decide +kernel)
  have K_76 := hts (Cond.constantLong RX6 76 (24)) (by decide +kernel)
  have f_7 := hts (Cond.fieldLink RX6 7 "TwoKeysModel" "keys" "I") (by decide +kernel)
  have n_X6 : ∀ w ∈ u_ws RX6 TX6 21, w ∈ wsX6_keys := by decide +kernel
  have iK := I.nK
  refine lv_aload_n hx hb dX6_keys_0 rfl (lv_at hl 0 rfl) ?_
  refine lv_iconst (v := iI (0)) hx hb dX6_keys_1 rfl ?_
  refine va_put (D := D) (ci := 6) (v := .int (iI 0)) (ty := .int) (C := RX6) (T := TX6) (N := 21) hx hb hts n_X6 tyX6 tyX6_ok nmX6 hown hK hP hD hS 0 rfl rfl 0 (by decide) f_63 (fun _ h9 => h9) rfl (by decide +kernel) rfl rfl (Nat.le_of_ble_eq_true rfl) dX6_keys_2 (fun H locs hP hD hS => ?_)
  have hP : va_P D vwCl (wM q cy nK st le be te ab bl ka bg ln ns me sc pi re bk 0 co bs gr lo) H := hP
  have hD : va_D A (wM q cy nK st le be te ab bl ka bg ln ns me sc pi re bk 0 co bs gr lo) := hD
  refine lv_iload_n hx hb dX6_keys_5 rfl (lv_at hl 1 rfl) ?_
  refine z_i2l hx hb dX6_keys_6 (by omega) ?_
  refine lv_lconst (v := lI (1)) hx hb dX6_keys_7 (by decide) ?_
  refine z_ldc2 (n := 24) hx hb hown K_76 (by decide) dX6_keys_8 ?_
  refine z_callSi (As := [.long (lI n9), .long (lI 1), .long (lI 24)]) (rest := []) X hK hP hD hA hS hl.1 gX6_keys_X6_in rfl ⟨rfl, rfl⟩ hd_X6_in ⟨Nat.le_of_ble_eq_true rfl, Nat.le_of_ble_eq_true rfl⟩ rfl (Nat.le_of_ble_eq_true rfl) ⟨Nat.zero_le _, Nat.zero_le _⟩ rfl dX6_keys_11 (c_X6_in n9 1 24 (by omega)) (fun H locs hP hD hS => ?_)
  refine z_ifp_ne (tgt := 20) hx hb dX6_keys_14 (by decide) (fun c_1 => ?_) (fun c_1 => ?_)
  · refine lv_aload_n hx hb dX6_keys_20 rfl (lv_at hl 0 rfl) ?_
    refine va_get (D := D) (ci := 6) (v := .int (iI nK)) (C := RX6) (T := TX6) (N := 21) hx hb hts n_X6 hown hK hP 0 rfl rfl 1 (by decide) f_7 (fun _ h9 => h9) rfl dX6_keys_21 ?_
    refine lv_istore_n (lv' := [(2, .int (iI nK)), (0, .ref (q 0)), (1, .int (iI n9))]) hx hb dX6_keys_24 rfl hl (by decide) rfl (fun ls hl => ?_)
    refine lv_aload_n hx hb dX6_keys_25 rfl (lv_at hl 1 rfl) ?_
    refine lv_iload_n hx hb dX6_keys_26 rfl (lv_at hl 2 rfl) ?_
    refine va_put (D := D) (ci := 6) (v := .int (iI n9)) (ty := .int) (C := RX6) (T := TX6) (N := 21) hx hb hts n_X6 tyX6 tyX6_ok nmX6 hown hK hP hD hS 0 rfl rfl 1 (by decide) f_7 (fun _ h9 => h9) rfl (by decide +kernel) rfl rfl (Nat.le_of_ble_eq_true rfl) dX6_keys_27 (fun H locs hP hD hS => ?_)
    have hP : va_P D vwCl (wM q cy n9 st le be te ab bl ka bg ln ns me sc pi re bk 0 co bs gr lo) H := hP
    have hD : va_D A (wM q cy n9 st le be te ab bl ka bg ln ns me sc pi re bk 0 co bs gr lo) := hD
    refine lv_iload_n hx hb dX6_keys_30 rfl (lv_at hl 0 rfl) ?_
    exact z_iret X hK hP hD hS dX6_keys_31 (by first | rfl | omega | grind)
  · exact absurd c_1 (by omega)

set_option maxHeartbeats 4000000 in
set_option maxRecDepth 100000 in
theorem c_X6_keys_no (I : okS nK st le be te ab bl ka bg ln ns me sc pi re bk) (n9 : Int) (h : -2147483648 ≤ n9 ∧ n9 ≤ 2147483647) (hno : ¬ (1 ≤ n9 ∧ n9 ≤ 24)) : MI l D cy yX6_keys wsX6_keys ({ frames := 1, cells := 0, slots := 0, locals := 25 } : Room) [.ref (q 0), .int (iI n9)] (wM q cy nK st le be te ab bl ka bg ln ns me sc pi re bk th co bs gr lo) (-100002) (wM q cy nK st le be te ab bl ka bg ln ns me sc pi re bk 0 co bs gr lo) := by
  refine MI.ofW (cc := cX6_keys) (maxL := 3) (ret := (some .int)) (by decide) rfl (Nat.le_of_ble_eq_true rfl) ?_
  intro p e s m below meth c A ls X hK hP hD hA hS hl
  obtain ⟨hx, hb, hml, hr, hts, hown, hlocks⟩ := id X
  have hl : lv_has ls 3 [(0, .ref (q 0)), (1, .int (iI n9))] := hl
  have f_63 := hts (Cond.fieldLink RX6 63 "TwoKeysModel" "thrown" "I") (by decide +kernel)
  have K_76 := hts (Cond.constantLong RX6 76 (24)) (by decide +kernel)
  have k_78 := hts (Cond.constant RX6 78 (-100002)) (by decide +kernel)
  have n_X6 : ∀ w ∈ u_ws RX6 TX6 21, w ∈ wsX6_keys := by decide +kernel
  have iK := I.nK
  refine lv_aload_n hx hb dX6_keys_0 rfl (lv_at hl 0 rfl) ?_
  refine lv_iconst (v := iI (0)) hx hb dX6_keys_1 rfl ?_
  refine va_put (D := D) (ci := 6) (v := .int (iI 0)) (ty := .int) (C := RX6) (T := TX6) (N := 21) hx hb hts n_X6 tyX6 tyX6_ok nmX6 hown hK hP hD hS 0 rfl rfl 0 (by decide) f_63 (fun _ h9 => h9) rfl (by decide +kernel) rfl rfl (Nat.le_of_ble_eq_true rfl) dX6_keys_2 (fun H locs hP hD hS => ?_)
  have hP : va_P D vwCl (wM q cy nK st le be te ab bl ka bg ln ns me sc pi re bk 0 co bs gr lo) H := hP
  have hD : va_D A (wM q cy nK st le be te ab bl ka bg ln ns me sc pi re bk 0 co bs gr lo) := hD
  refine lv_iload_n hx hb dX6_keys_5 rfl (lv_at hl 1 rfl) ?_
  refine z_i2l hx hb dX6_keys_6 (by omega) ?_
  refine lv_lconst (v := lI (1)) hx hb dX6_keys_7 (by decide) ?_
  refine z_ldc2 (n := 24) hx hb hown K_76 (by decide) dX6_keys_8 ?_
  refine z_callSi (As := [.long (lI n9), .long (lI 1), .long (lI 24)]) (rest := []) X hK hP hD hA hS hl.1 gX6_keys_X6_in rfl ⟨rfl, rfl⟩ hd_X6_in ⟨Nat.le_of_ble_eq_true rfl, Nat.le_of_ble_eq_true rfl⟩ rfl (Nat.le_of_ble_eq_true rfl) ⟨Nat.zero_le _, Nat.zero_le _⟩ rfl dX6_keys_11 (c_X6_in n9 1 24 (by omega)) (fun H locs hP hD hS => ?_)
  refine z_ifp_ne (tgt := 20) hx hb dX6_keys_14 (by decide) (fun c_1 => ?_) (fun c_1 => ?_)
  · exact absurd c_1 (by omega)
  · refine z_ldc (n := -100002) hx hb hown k_78 (by decide) dX6_keys_17 ?_
    exact z_iret X hK hP hD hS dX6_keys_19 (by (repeat' split) <;> first | rfl | omega)

theorem hd_X6_strike : yX6_strike.cls = RX6 ∧ yX6_strike.cls ≠ "java/lang/invoke/MethodHandle" ∧ yX6_strike.cls ≠ "java/lang/invoke/VarHandle" ∧ (parseMethodDescriptor yX6_strike.desc).map (fun d => d.parameters.length) = some 3 := by decide +kernel
set_option maxHeartbeats 4000000 in
set_option maxRecDepth 100000 in
theorem c_X6_strike_ok (I : okS nK st le be te ab bl ka bg ln ns me sc pi re bk) (k : Int) (s9 : Int) (l9 : Int) (h : -2147483648 ≤ k ∧ k ≤ 2147483647 ∧ -2147483648 ≤ s9 ∧ s9 ≤ 2147483647 ∧ -2147483648 ≤ l9 ∧ l9 ≤ 2147483647) (hok : (0 ≤ k ∧ k < nK) ∧ (0 ≤ s9 ∧ s9 ≤ 23) ∧ (500 ≤ l9 ∧ l9 ≤ 9999)) : MI l D cy yX6_strike wsX6_strike ({ frames := 2, cells := 0, slots := 0, locals := 46 } : Room) [.ref (q 0), .int (iI k), .int (iI s9), .int (iI l9)] (wM q cy nK st le be te ab bl ka bg ln ns me sc pi re bk th co bs gr lo) (st k) (wM q cy nK (uZ st k s9) (uZ le k l9) (uZ be k 0) te ab bl ka bg ln ns me sc pi re bk 0 co bs gr lo) := by
  refine MI.ofW (cc := cX6_strike) (maxL := 5) (ret := (some .int)) (by decide) rfl (Nat.le_of_ble_eq_true rfl) ?_
  intro p e s m below meth c A ls X hK hP hD hA hS hl
  obtain ⟨hx, hb, hml, hr, hts, hown, hlocks⟩ := id X
  have hl : lv_has ls 5 [(0, .ref (q 0)), (1, .int (iI k)), (2, .int (iI s9)), (3, .int (iI l9))] := hl
  have f_63 := hts (Cond.fieldLink RX6 63 "TwoKeysModel" "thrown" "I") (by decide +kernel)
  have K_87 := hts (Cond.constantLong RX6 87 (500)) (by decide +kernel)
  have K_89 := hts (Cond.constantLong RX6 89 (9999)) (by decide +kernel)
  have f_13 := hts (Cond.fieldLink RX6 13 "TwoKeysModel" "string" "[I") (by decide +kernel)
  have f_17 := hts (Cond.fieldLink RX6 17 "TwoKeysModel" "length" "[I") (by decide +kernel)
  have f_20 := hts (Cond.fieldLink RX6 20 "TwoKeysModel" "bent" "[I") (by decide +kernel)
  have n_X6 : ∀ w ∈ u_ws RX6 TX6 21, w ∈ wsX6_strike := by decide +kernel
  have iK := I.nK
  refine lv_aload_n hx hb dX6_strike_0 rfl (lv_at hl 0 rfl) ?_
  refine lv_iconst (v := iI (0)) hx hb dX6_strike_1 rfl ?_
  refine va_put (D := D) (ci := 6) (v := .int (iI 0)) (ty := .int) (C := RX6) (T := TX6) (N := 21) hx hb hts n_X6 tyX6 tyX6_ok nmX6 hown hK hP hD hS 0 rfl rfl 0 (by decide) f_63 (fun _ h9 => h9) rfl (by decide +kernel) rfl rfl (Nat.le_of_ble_eq_true rfl) dX6_strike_2 (fun H locs hP hD hS => ?_)
  have hP : va_P D vwCl (wM q cy nK st le be te ab bl ka bg ln ns me sc pi re bk 0 co bs gr lo) H := hP
  have hD : va_D A (wM q cy nK st le be te ab bl ka bg ln ns me sc pi re bk 0 co bs gr lo) := hD
  refine lv_aload_n hx hb dX6_strike_5 rfl (lv_at hl 0 rfl) ?_
  refine lv_iload_n hx hb dX6_strike_6 rfl (lv_at hl 1 rfl) ?_
  refine z_callVi (ci := 6) (q0 := 0) (As := [.int (iI k)]) (rest := []) X hK hP hD hA hS hl.1 gX6_strike_X6_noKey rfl ⟨rfl, rfl⟩ hd_X6_noKey ⟨Nat.le_of_ble_eq_true rfl, Nat.le_of_ble_eq_true rfl⟩ rfl rfl rfl (Nat.le_of_ble_eq_true rfl) ⟨Nat.zero_le _, Nat.zero_le _⟩ rfl dX6_strike_7 (c_X6_noKey I k (by omega)) (fun H locs hP hD hS => ?_)
  refine z_ifp_ne (tgt := 20) hx hb dX6_strike_10 (by decide) (fun c_1 => ?_) (fun c_1 => ?_)
  · exact absurd c_1 (by omega)
  · refine lv_iload_n hx hb dX6_strike_13 rfl (lv_at hl 2 rfl) ?_
    refine z_callSi (As := [.int (iI s9)]) (rest := []) X hK hP hD hA hS hl.1 gX6_strike_X6_noString rfl ⟨rfl, rfl⟩ hd_X6_noString ⟨Nat.le_of_ble_eq_true rfl, Nat.le_of_ble_eq_true rfl⟩ rfl (Nat.le_of_ble_eq_true rfl) ⟨Nat.zero_le _, Nat.zero_le _⟩ rfl dX6_strike_14 (c_X6_noString s9 (by omega)) (fun H locs hP hD hS => ?_)
    refine z_ifp_eq (tgt := 23) hx hb dX6_strike_17 (by decide) (fun c_2 => ?_) (fun c_2 => ?_)
    · refine lv_iload_n hx hb dX6_strike_23 rfl (lv_at hl 3 rfl) ?_
      refine z_i2l hx hb dX6_strike_24 (by omega) ?_
      refine z_ldc2 (n := 500) hx hb hown K_87 (by decide) dX6_strike_25 ?_
      refine z_ldc2 (n := 9999) hx hb hown K_89 (by decide) dX6_strike_28 ?_
      refine z_callSi (As := [.long (lI l9), .long (lI 500), .long (lI 9999)]) (rest := []) X hK hP hD hA hS hl.1 gX6_strike_X6_in rfl ⟨rfl, rfl⟩ hd_X6_in ⟨Nat.le_of_ble_eq_true rfl, Nat.le_of_ble_eq_true rfl⟩ rfl (Nat.le_of_ble_eq_true rfl) ⟨Nat.zero_le _, Nat.zero_le _⟩ rfl dX6_strike_31 (c_X6_in l9 500 9999 (by omega)) (fun H locs hP hD hS => ?_)
      refine z_ifp_ne (tgt := 40) hx hb dX6_strike_34 (by decide) (fun c_3 => ?_) (fun c_3 => ?_)
      · refine lv_aload_n hx hb dX6_strike_40 rfl (lv_at hl 0 rfl) ?_
        refine va_get (D := D) (ci := 6) (v := .ref (q 1)) (C := RX6) (T := TX6) (N := 21) hx hb hts n_X6 hown hK hP 0 rfl rfl 2 (by decide) f_13 (fun _ h9 => h9) rfl dX6_strike_41 ?_
        refine lv_iload_n hx hb dX6_strike_44 rfl (lv_at hl 1 rfl) ?_
        refine z_iald hx hb hK hP 1 0 rfl rfl (by omega) dX6_strike_45 ?_
        have b_4 := I.st k
        refine lv_istore (lv' := [(4, .int (iI (st k))), (0, .ref (q 0)), (1, .int (iI k)), (2, .int (iI s9)), (3, .int (iI l9))]) hx hb dX6_strike_46 hl (by decide) rfl (fun ls hl => ?_)
        refine lv_aload_n hx hb dX6_strike_48 rfl (lv_at hl 1 rfl) ?_
        refine va_get (D := D) (ci := 6) (v := .ref (q 1)) (C := RX6) (T := TX6) (N := 21) hx hb hts n_X6 hown hK hP 0 rfl rfl 2 (by decide) f_13 (fun _ h9 => h9) rfl dX6_strike_49 ?_
        refine lv_iload_n hx hb dX6_strike_52 rfl (lv_at hl 2 rfl) ?_
        refine lv_iload_n hx hb dX6_strike_53 rfl (lv_at hl 3 rfl) ?_
        refine z_iast (v := s9) hx hb hK hP hD hS 1 0 rfl rfl (by omega) dX6_strike_54 (fun H locs hP hD hS => ?_)
        have hP : va_P D vwCl (wM q cy nK (uZ st k s9) le be te ab bl ka bg ln ns me sc pi re bk 0 co bs gr lo) H := hP
        have hD : va_D A (wM q cy nK (uZ st k s9) le be te ab bl ka bg ln ns me sc pi re bk 0 co bs gr lo) := hD
        refine lv_aload_n hx hb dX6_strike_55 rfl (lv_at hl 1 rfl) ?_
        refine va_get (D := D) (ci := 6) (v := .ref (q 2)) (C := RX6) (T := TX6) (N := 21) hx hb hts n_X6 hown hK hP 0 rfl rfl 3 (by decide) f_17 (fun _ h9 => h9) rfl dX6_strike_56 ?_
        refine lv_iload_n hx hb dX6_strike_59 rfl (lv_at hl 2 rfl) ?_
        refine lv_iload_n hx hb dX6_strike_60 rfl (lv_at hl 4 rfl) ?_
        refine z_iast (v := l9) hx hb hK hP hD hS 2 0 rfl rfl (by omega) dX6_strike_61 (fun H locs hP hD hS => ?_)
        have hP : va_P D vwCl (wM q cy nK (uZ st k s9) (uZ le k l9) be te ab bl ka bg ln ns me sc pi re bk 0 co bs gr lo) H := hP
        have hD : va_D A (wM q cy nK (uZ st k s9) (uZ le k l9) be te ab bl ka bg ln ns me sc pi re bk 0 co bs gr lo) := hD
        refine lv_aload_n hx hb dX6_strike_62 rfl (lv_at hl 1 rfl) ?_
        refine va_get (D := D) (ci := 6) (v := .ref (q 3)) (C := RX6) (T := TX6) (N := 21) hx hb hts n_X6 hown hK hP 0 rfl rfl 4 (by decide) f_20 (fun _ h9 => h9) rfl dX6_strike_63 ?_
        refine lv_iload_n hx hb dX6_strike_66 rfl (lv_at hl 2 rfl) ?_
        refine lv_iconst (v := iI (0)) hx hb dX6_strike_67 rfl ?_
        refine z_iast (v := 0) hx hb hK hP hD hS 3 0 rfl rfl (by omega) dX6_strike_68 (fun H locs hP hD hS => ?_)
        have hP : va_P D vwCl (wM q cy nK (uZ st k s9) (uZ le k l9) (uZ be k 0) te ab bl ka bg ln ns me sc pi re bk 0 co bs gr lo) H := hP
        have hD : va_D A (wM q cy nK (uZ st k s9) (uZ le k l9) (uZ be k 0) te ab bl ka bg ln ns me sc pi re bk 0 co bs gr lo) := hD
        refine lv_iload hx hb dX6_strike_69 (lv_at hl 0 rfl) ?_
        exact z_iret X hK hP hD hS dX6_strike_71 (by first | rfl | omega | grind)
      · exact absurd c_3 (by omega)
    · exact absurd c_2 (by omega)

set_option maxHeartbeats 4000000 in
set_option maxRecDepth 100000 in
theorem c_X6_strike_no (I : okS nK st le be te ab bl ka bg ln ns me sc pi re bk) (k : Int) (s9 : Int) (l9 : Int) (h : -2147483648 ≤ k ∧ k ≤ 2147483647 ∧ -2147483648 ≤ s9 ∧ s9 ≤ 2147483647 ∧ -2147483648 ≤ l9 ∧ l9 ≤ 2147483647) (hno : ¬ ((0 ≤ k ∧ k < nK) ∧ (0 ≤ s9 ∧ s9 ≤ 23) ∧ (500 ≤ l9 ∧ l9 ≤ 9999))) : MI l D cy yX6_strike wsX6_strike ({ frames := 2, cells := 0, slots := 0, locals := 46 } : Room) [.ref (q 0), .int (iI k), .int (iI s9), .int (iI l9)] (wM q cy nK st le be te ab bl ka bg ln ns me sc pi re bk th co bs gr lo) (if (0 ≤ k ∧ k < nK) ∧ (0 ≤ s9 ∧ s9 ≤ 23) then (-100002) else (-100001)) (wM q cy nK st le be te ab bl ka bg ln ns me sc pi re bk 0 co bs gr lo) := by
  refine MI.ofW (cc := cX6_strike) (maxL := 5) (ret := (some .int)) (by decide) rfl (Nat.le_of_ble_eq_true rfl) ?_
  intro p e s m below meth c A ls X hK hP hD hA hS hl
  obtain ⟨hx, hb, hml, hr, hts, hown, hlocks⟩ := id X
  have hl : lv_has ls 5 [(0, .ref (q 0)), (1, .int (iI k)), (2, .int (iI s9)), (3, .int (iI l9))] := hl
  have f_63 := hts (Cond.fieldLink RX6 63 "TwoKeysModel" "thrown" "I") (by decide +kernel)
  have k_86 := hts (Cond.constant RX6 86 (-100001)) (by decide +kernel)
  have K_87 := hts (Cond.constantLong RX6 87 (500)) (by decide +kernel)
  have K_89 := hts (Cond.constantLong RX6 89 (9999)) (by decide +kernel)
  have k_78 := hts (Cond.constant RX6 78 (-100002)) (by decide +kernel)
  have n_X6 : ∀ w ∈ u_ws RX6 TX6 21, w ∈ wsX6_strike := by decide +kernel
  have iK := I.nK
  refine lv_aload_n hx hb dX6_strike_0 rfl (lv_at hl 0 rfl) ?_
  refine lv_iconst (v := iI (0)) hx hb dX6_strike_1 rfl ?_
  refine va_put (D := D) (ci := 6) (v := .int (iI 0)) (ty := .int) (C := RX6) (T := TX6) (N := 21) hx hb hts n_X6 tyX6 tyX6_ok nmX6 hown hK hP hD hS 0 rfl rfl 0 (by decide) f_63 (fun _ h9 => h9) rfl (by decide +kernel) rfl rfl (Nat.le_of_ble_eq_true rfl) dX6_strike_2 (fun H locs hP hD hS => ?_)
  have hP : va_P D vwCl (wM q cy nK st le be te ab bl ka bg ln ns me sc pi re bk 0 co bs gr lo) H := hP
  have hD : va_D A (wM q cy nK st le be te ab bl ka bg ln ns me sc pi re bk 0 co bs gr lo) := hD
  refine lv_aload_n hx hb dX6_strike_5 rfl (lv_at hl 0 rfl) ?_
  refine lv_iload_n hx hb dX6_strike_6 rfl (lv_at hl 1 rfl) ?_
  refine z_callVi (ci := 6) (q0 := 0) (As := [.int (iI k)]) (rest := []) X hK hP hD hA hS hl.1 gX6_strike_X6_noKey rfl ⟨rfl, rfl⟩ hd_X6_noKey ⟨Nat.le_of_ble_eq_true rfl, Nat.le_of_ble_eq_true rfl⟩ rfl rfl rfl (Nat.le_of_ble_eq_true rfl) ⟨Nat.zero_le _, Nat.zero_le _⟩ rfl dX6_strike_7 (c_X6_noKey I k (by omega)) (fun H locs hP hD hS => ?_)
  refine z_ifp_ne (tgt := 20) hx hb dX6_strike_10 (by decide) (fun c_1 => ?_) (fun c_1 => ?_)
  · refine z_ldc (n := -100001) hx hb hown k_86 (by decide) dX6_strike_20 ?_
    exact z_iret X hK hP hD hS dX6_strike_22 (by (repeat' split) <;> first | rfl | omega)
  · refine lv_iload_n hx hb dX6_strike_13 rfl (lv_at hl 2 rfl) ?_
    refine z_callSi (As := [.int (iI s9)]) (rest := []) X hK hP hD hA hS hl.1 gX6_strike_X6_noString rfl ⟨rfl, rfl⟩ hd_X6_noString ⟨Nat.le_of_ble_eq_true rfl, Nat.le_of_ble_eq_true rfl⟩ rfl (Nat.le_of_ble_eq_true rfl) ⟨Nat.zero_le _, Nat.zero_le _⟩ rfl dX6_strike_14 (c_X6_noString s9 (by omega)) (fun H locs hP hD hS => ?_)
    refine z_ifp_eq (tgt := 23) hx hb dX6_strike_17 (by decide) (fun c_2 => ?_) (fun c_2 => ?_)
    · refine lv_iload_n hx hb dX6_strike_23 rfl (lv_at hl 3 rfl) ?_
      refine z_i2l hx hb dX6_strike_24 (by omega) ?_
      refine z_ldc2 (n := 500) hx hb hown K_87 (by decide) dX6_strike_25 ?_
      refine z_ldc2 (n := 9999) hx hb hown K_89 (by decide) dX6_strike_28 ?_
      refine z_callSi (As := [.long (lI l9), .long (lI 500), .long (lI 9999)]) (rest := []) X hK hP hD hA hS hl.1 gX6_strike_X6_in rfl ⟨rfl, rfl⟩ hd_X6_in ⟨Nat.le_of_ble_eq_true rfl, Nat.le_of_ble_eq_true rfl⟩ rfl (Nat.le_of_ble_eq_true rfl) ⟨Nat.zero_le _, Nat.zero_le _⟩ rfl dX6_strike_31 (c_X6_in l9 500 9999 (by omega)) (fun H locs hP hD hS => ?_)
      refine z_ifp_ne (tgt := 40) hx hb dX6_strike_34 (by decide) (fun c_3 => ?_) (fun c_3 => ?_)
      · exact absurd c_3 (by omega)
      · refine z_ldc (n := -100002) hx hb hown k_78 (by decide) dX6_strike_37 ?_
        exact z_iret X hK hP hD hS dX6_strike_39 (by (repeat' split) <;> first | rfl | omega)
    · refine z_ldc (n := -100001) hx hb hown k_86 (by decide) dX6_strike_20 ?_
      exact z_iret X hK hP hD hS dX6_strike_22 (by (repeat' split) <;> first | rfl | omega)

theorem hd_X6_tension : yX6_tension.cls = RX6 ∧ yX6_tension.cls ≠ "java/lang/invoke/MethodHandle" ∧ yX6_tension.cls ≠ "java/lang/invoke/VarHandle" ∧ (parseMethodDescriptor yX6_tension.desc).map (fun d => d.parameters.length) = some 2 := by decide +kernel
set_option maxHeartbeats 4000000 in
set_option maxRecDepth 100000 in
theorem c_X6_tension_ok (I : okS nK st le be te ab bl ka bg ln ns me sc pi re bk) (s9 : Int) (v : Int) (h : -2147483648 ≤ s9 ∧ s9 ≤ 2147483647 ∧ -2147483648 ≤ v ∧ v ≤ 2147483647) (hok : (0 ≤ s9 ∧ s9 ≤ 23) ∧ (100 ≤ v ∧ v ≤ 20000)) : MI l D cy yX6_tension wsX6_tension ({ frames := 2, cells := 0, slots := 0, locals := 45 } : Room) [.ref (q 0), .int (iI s9), .int (iI v)] (wM q cy nK st le be te ab bl ka bg ln ns me sc pi re bk th co bs gr lo) (te s9) (wM q cy nK st le be (uZ te s9 v) ab bl ka bg ln ns me sc pi re bk 0 co bs gr lo) := by
  refine MI.ofW (cc := cX6_tension) (maxL := 4) (ret := (some .int)) (by decide) rfl (Nat.le_of_ble_eq_true rfl) ?_
  intro p e s m below meth c A ls X hK hP hD hA hS hl
  obtain ⟨hx, hb, hml, hr, hts, hown, hlocks⟩ := id X
  have hl : lv_has ls 4 [(0, .ref (q 0)), (1, .int (iI s9)), (2, .int (iI v))] := hl
  have f_63 := hts (Cond.fieldLink RX6 63 "TwoKeysModel" "thrown" "I") (by decide +kernel)
  have K_91 := hts (Cond.constantLong RX6 91 (100)) (by decide +kernel)
  have K_93 := hts (Cond.constantLong RX6 93 (20000)) (by decide +kernel)
  have f_23 := hts (Cond.fieldLink RX6 23 "TwoKeysModel" "tension" "[I") (by decide +kernel)
  have n_X6 : ∀ w ∈ u_ws RX6 TX6 21, w ∈ wsX6_tension := by decide +kernel
  have iK := I.nK
  refine lv_aload_n hx hb dX6_tension_0 rfl (lv_at hl 0 rfl) ?_
  refine lv_iconst (v := iI (0)) hx hb dX6_tension_1 rfl ?_
  refine va_put (D := D) (ci := 6) (v := .int (iI 0)) (ty := .int) (C := RX6) (T := TX6) (N := 21) hx hb hts n_X6 tyX6 tyX6_ok nmX6 hown hK hP hD hS 0 rfl rfl 0 (by decide) f_63 (fun _ h9 => h9) rfl (by decide +kernel) rfl rfl (Nat.le_of_ble_eq_true rfl) dX6_tension_2 (fun H locs hP hD hS => ?_)
  have hP : va_P D vwCl (wM q cy nK st le be te ab bl ka bg ln ns me sc pi re bk 0 co bs gr lo) H := hP
  have hD : va_D A (wM q cy nK st le be te ab bl ka bg ln ns me sc pi re bk 0 co bs gr lo) := hD
  refine lv_iload_n hx hb dX6_tension_5 rfl (lv_at hl 1 rfl) ?_
  refine z_callSi (As := [.int (iI s9)]) (rest := []) X hK hP hD hA hS hl.1 gX6_tension_X6_noString rfl ⟨rfl, rfl⟩ hd_X6_noString ⟨Nat.le_of_ble_eq_true rfl, Nat.le_of_ble_eq_true rfl⟩ rfl (Nat.le_of_ble_eq_true rfl) ⟨Nat.zero_le _, Nat.zero_le _⟩ rfl dX6_tension_6 (c_X6_noString s9 (by omega)) (fun H locs hP hD hS => ?_)
  refine z_ifp_eq (tgt := 15) hx hb dX6_tension_9 (by decide) (fun c_1 => ?_) (fun c_1 => ?_)
  · refine lv_iload_n hx hb dX6_tension_15 rfl (lv_at hl 2 rfl) ?_
    refine z_i2l hx hb dX6_tension_16 (by omega) ?_
    refine z_ldc2 (n := 100) hx hb hown K_91 (by decide) dX6_tension_17 ?_
    refine z_ldc2 (n := 20000) hx hb hown K_93 (by decide) dX6_tension_20 ?_
    refine z_callSi (As := [.long (lI v), .long (lI 100), .long (lI 20000)]) (rest := []) X hK hP hD hA hS hl.1 gX6_tension_X6_in rfl ⟨rfl, rfl⟩ hd_X6_in ⟨Nat.le_of_ble_eq_true rfl, Nat.le_of_ble_eq_true rfl⟩ rfl (Nat.le_of_ble_eq_true rfl) ⟨Nat.zero_le _, Nat.zero_le _⟩ rfl dX6_tension_23 (c_X6_in v 100 20000 (by omega)) (fun H locs hP hD hS => ?_)
    refine z_ifp_ne (tgt := 32) hx hb dX6_tension_26 (by decide) (fun c_2 => ?_) (fun c_2 => ?_)
    · refine lv_aload_n hx hb dX6_tension_32 rfl (lv_at hl 0 rfl) ?_
      refine va_get (D := D) (ci := 6) (v := .ref (q 4)) (C := RX6) (T := TX6) (N := 21) hx hb hts n_X6 hown hK hP 0 rfl rfl 5 (by decide) f_23 (fun _ h9 => h9) rfl dX6_tension_33 ?_
      refine lv_iload_n hx hb dX6_tension_36 rfl (lv_at hl 1 rfl) ?_
      refine z_iald hx hb hK hP 4 0 rfl rfl (by omega) dX6_tension_37 ?_
      have b_3 := I.te s9
      refine lv_istore_n (lv' := [(3, .int (iI (te s9))), (0, .ref (q 0)), (1, .int (iI s9)), (2, .int (iI v))]) hx hb dX6_tension_38 rfl hl (by decide) rfl (fun ls hl => ?_)
      refine lv_aload_n hx hb dX6_tension_39 rfl (lv_at hl 1 rfl) ?_
      refine va_get (D := D) (ci := 6) (v := .ref (q 4)) (C := RX6) (T := TX6) (N := 21) hx hb hts n_X6 hown hK hP 0 rfl rfl 5 (by decide) f_23 (fun _ h9 => h9) rfl dX6_tension_40 ?_
      refine lv_iload_n hx hb dX6_tension_43 rfl (lv_at hl 2 rfl) ?_
      refine lv_iload_n hx hb dX6_tension_44 rfl (lv_at hl 3 rfl) ?_
      refine z_iast (v := v) hx hb hK hP hD hS 4 0 rfl rfl (by omega) dX6_tension_45 (fun H locs hP hD hS => ?_)
      have hP : va_P D vwCl (wM q cy nK st le be (uZ te s9 v) ab bl ka bg ln ns me sc pi re bk 0 co bs gr lo) H := hP
      have hD : va_D A (wM q cy nK st le be (uZ te s9 v) ab bl ka bg ln ns me sc pi re bk 0 co bs gr lo) := hD
      refine lv_iload_n hx hb dX6_tension_46 rfl (lv_at hl 0 rfl) ?_
      exact z_iret X hK hP hD hS dX6_tension_47 (by first | rfl | omega | grind)
    · exact absurd c_2 (by omega)
  · exact absurd c_1 (by omega)

set_option maxHeartbeats 4000000 in
set_option maxRecDepth 100000 in
theorem c_X6_tension_no (I : okS nK st le be te ab bl ka bg ln ns me sc pi re bk) (s9 : Int) (v : Int) (h : -2147483648 ≤ s9 ∧ s9 ≤ 2147483647 ∧ -2147483648 ≤ v ∧ v ≤ 2147483647) (hno : ¬ ((0 ≤ s9 ∧ s9 ≤ 23) ∧ (100 ≤ v ∧ v ≤ 20000))) : MI l D cy yX6_tension wsX6_tension ({ frames := 2, cells := 0, slots := 0, locals := 45 } : Room) [.ref (q 0), .int (iI s9), .int (iI v)] (wM q cy nK st le be te ab bl ka bg ln ns me sc pi re bk th co bs gr lo) (if 0 ≤ s9 ∧ s9 ≤ 23 then (-100002) else (-100001)) (wM q cy nK st le be te ab bl ka bg ln ns me sc pi re bk 0 co bs gr lo) := by
  refine MI.ofW (cc := cX6_tension) (maxL := 4) (ret := (some .int)) (by decide) rfl (Nat.le_of_ble_eq_true rfl) ?_
  intro p e s m below meth c A ls X hK hP hD hA hS hl
  obtain ⟨hx, hb, hml, hr, hts, hown, hlocks⟩ := id X
  have hl : lv_has ls 4 [(0, .ref (q 0)), (1, .int (iI s9)), (2, .int (iI v))] := hl
  have f_63 := hts (Cond.fieldLink RX6 63 "TwoKeysModel" "thrown" "I") (by decide +kernel)
  have K_91 := hts (Cond.constantLong RX6 91 (100)) (by decide +kernel)
  have K_93 := hts (Cond.constantLong RX6 93 (20000)) (by decide +kernel)
  have k_78 := hts (Cond.constant RX6 78 (-100002)) (by decide +kernel)
  have k_86 := hts (Cond.constant RX6 86 (-100001)) (by decide +kernel)
  have n_X6 : ∀ w ∈ u_ws RX6 TX6 21, w ∈ wsX6_tension := by decide +kernel
  have iK := I.nK
  refine lv_aload_n hx hb dX6_tension_0 rfl (lv_at hl 0 rfl) ?_
  refine lv_iconst (v := iI (0)) hx hb dX6_tension_1 rfl ?_
  refine va_put (D := D) (ci := 6) (v := .int (iI 0)) (ty := .int) (C := RX6) (T := TX6) (N := 21) hx hb hts n_X6 tyX6 tyX6_ok nmX6 hown hK hP hD hS 0 rfl rfl 0 (by decide) f_63 (fun _ h9 => h9) rfl (by decide +kernel) rfl rfl (Nat.le_of_ble_eq_true rfl) dX6_tension_2 (fun H locs hP hD hS => ?_)
  have hP : va_P D vwCl (wM q cy nK st le be te ab bl ka bg ln ns me sc pi re bk 0 co bs gr lo) H := hP
  have hD : va_D A (wM q cy nK st le be te ab bl ka bg ln ns me sc pi re bk 0 co bs gr lo) := hD
  refine lv_iload_n hx hb dX6_tension_5 rfl (lv_at hl 1 rfl) ?_
  refine z_callSi (As := [.int (iI s9)]) (rest := []) X hK hP hD hA hS hl.1 gX6_tension_X6_noString rfl ⟨rfl, rfl⟩ hd_X6_noString ⟨Nat.le_of_ble_eq_true rfl, Nat.le_of_ble_eq_true rfl⟩ rfl (Nat.le_of_ble_eq_true rfl) ⟨Nat.zero_le _, Nat.zero_le _⟩ rfl dX6_tension_6 (c_X6_noString s9 (by omega)) (fun H locs hP hD hS => ?_)
  refine z_ifp_eq (tgt := 15) hx hb dX6_tension_9 (by decide) (fun c_1 => ?_) (fun c_1 => ?_)
  · refine lv_iload_n hx hb dX6_tension_15 rfl (lv_at hl 2 rfl) ?_
    refine z_i2l hx hb dX6_tension_16 (by omega) ?_
    refine z_ldc2 (n := 100) hx hb hown K_91 (by decide) dX6_tension_17 ?_
    refine z_ldc2 (n := 20000) hx hb hown K_93 (by decide) dX6_tension_20 ?_
    refine z_callSi (As := [.long (lI v), .long (lI 100), .long (lI 20000)]) (rest := []) X hK hP hD hA hS hl.1 gX6_tension_X6_in rfl ⟨rfl, rfl⟩ hd_X6_in ⟨Nat.le_of_ble_eq_true rfl, Nat.le_of_ble_eq_true rfl⟩ rfl (Nat.le_of_ble_eq_true rfl) ⟨Nat.zero_le _, Nat.zero_le _⟩ rfl dX6_tension_23 (c_X6_in v 100 20000 (by omega)) (fun H locs hP hD hS => ?_)
    refine z_ifp_ne (tgt := 32) hx hb dX6_tension_26 (by decide) (fun c_2 => ?_) (fun c_2 => ?_)
    · exact absurd c_2 (by omega)
    · refine z_ldc (n := -100002) hx hb hown k_78 (by decide) dX6_tension_29 ?_
      exact z_iret X hK hP hD hS dX6_tension_31 (by (repeat' split) <;> first | rfl | omega)
  · refine z_ldc (n := -100001) hx hb hown k_86 (by decide) dX6_tension_12 ?_
    exact z_iret X hK hP hD hS dX6_tension_14 (by (repeat' split) <;> first | rfl | omega)

theorem hd_X6_bend : yX6_bend.cls = RX6 ∧ yX6_bend.cls ≠ "java/lang/invoke/MethodHandle" ∧ yX6_bend.cls ≠ "java/lang/invoke/VarHandle" ∧ (parseMethodDescriptor yX6_bend.desc).map (fun d => d.parameters.length) = some 2 := by decide +kernel
set_option maxHeartbeats 4000000 in
set_option maxRecDepth 100000 in
theorem c_X6_bend_ok (I : okS nK st le be te ab bl ka bg ln ns me sc pi re bk) (k : Int) (v : Int) (h : -2147483648 ≤ k ∧ k ≤ 2147483647 ∧ -2147483648 ≤ v ∧ v ≤ 2147483647) (hok : (0 ≤ k ∧ k < nK) ∧ (-40 ≤ v ∧ v ≤ 40)) : MI l D cy yX6_bend wsX6_bend ({ frames := 2, cells := 0, slots := 0, locals := 46 } : Room) [.ref (q 0), .int (iI k), .int (iI v)] (wM q cy nK st le be te ab bl ka bg ln ns me sc pi re bk th co bs gr lo) (be k) (wM q cy nK st le (uZ be k v) te ab bl ka bg ln ns me sc pi re bk 0 co bs gr lo) := by
  refine MI.ofW (cc := cX6_bend) (maxL := 4) (ret := (some .int)) (by decide) rfl (Nat.le_of_ble_eq_true rfl) ?_
  intro p e s m below meth c A ls X hK hP hD hA hS hl
  obtain ⟨hx, hb, hml, hr, hts, hown, hlocks⟩ := id X
  have hl : lv_has ls 4 [(0, .ref (q 0)), (1, .int (iI k)), (2, .int (iI v))] := hl
  have f_63 := hts (Cond.fieldLink RX6 63 "TwoKeysModel" "thrown" "I") (by decide +kernel)
  have K_95 := hts (Cond.constantLong RX6 95 (-40)) (by decide +kernel)
  have K_97 := hts (Cond.constantLong RX6 97 (40)) (by decide +kernel)
  have f_20 := hts (Cond.fieldLink RX6 20 "TwoKeysModel" "bent" "[I") (by decide +kernel)
  have n_X6 : ∀ w ∈ u_ws RX6 TX6 21, w ∈ wsX6_bend := by decide +kernel
  have iK := I.nK
  refine lv_aload_n hx hb dX6_bend_0 rfl (lv_at hl 0 rfl) ?_
  refine lv_iconst (v := iI (0)) hx hb dX6_bend_1 rfl ?_
  refine va_put (D := D) (ci := 6) (v := .int (iI 0)) (ty := .int) (C := RX6) (T := TX6) (N := 21) hx hb hts n_X6 tyX6 tyX6_ok nmX6 hown hK hP hD hS 0 rfl rfl 0 (by decide) f_63 (fun _ h9 => h9) rfl (by decide +kernel) rfl rfl (Nat.le_of_ble_eq_true rfl) dX6_bend_2 (fun H locs hP hD hS => ?_)
  have hP : va_P D vwCl (wM q cy nK st le be te ab bl ka bg ln ns me sc pi re bk 0 co bs gr lo) H := hP
  have hD : va_D A (wM q cy nK st le be te ab bl ka bg ln ns me sc pi re bk 0 co bs gr lo) := hD
  refine lv_aload_n hx hb dX6_bend_5 rfl (lv_at hl 0 rfl) ?_
  refine lv_iload_n hx hb dX6_bend_6 rfl (lv_at hl 1 rfl) ?_
  refine z_callVi (ci := 6) (q0 := 0) (As := [.int (iI k)]) (rest := []) X hK hP hD hA hS hl.1 gX6_bend_X6_noKey rfl ⟨rfl, rfl⟩ hd_X6_noKey ⟨Nat.le_of_ble_eq_true rfl, Nat.le_of_ble_eq_true rfl⟩ rfl rfl rfl (Nat.le_of_ble_eq_true rfl) ⟨Nat.zero_le _, Nat.zero_le _⟩ rfl dX6_bend_7 (c_X6_noKey I k (by omega)) (fun H locs hP hD hS => ?_)
  refine z_ifp_eq (tgt := 16) hx hb dX6_bend_10 (by decide) (fun c_1 => ?_) (fun c_1 => ?_)
  · refine lv_iload_n hx hb dX6_bend_16 rfl (lv_at hl 2 rfl) ?_
    refine z_i2l hx hb dX6_bend_17 (by omega) ?_
    refine z_ldc2 (n := -40) hx hb hown K_95 (by decide) dX6_bend_18 ?_
    refine z_ldc2 (n := 40) hx hb hown K_97 (by decide) dX6_bend_21 ?_
    refine z_callSi (As := [.long (lI v), .long (lI (-40)), .long (lI 40)]) (rest := []) X hK hP hD hA hS hl.1 gX6_bend_X6_in rfl ⟨rfl, rfl⟩ hd_X6_in ⟨Nat.le_of_ble_eq_true rfl, Nat.le_of_ble_eq_true rfl⟩ rfl (Nat.le_of_ble_eq_true rfl) ⟨Nat.zero_le _, Nat.zero_le _⟩ rfl dX6_bend_24 (c_X6_in v (-40) 40 (by omega)) (fun H locs hP hD hS => ?_)
    refine z_ifp_ne (tgt := 33) hx hb dX6_bend_27 (by decide) (fun c_2 => ?_) (fun c_2 => ?_)
    · refine lv_aload_n hx hb dX6_bend_33 rfl (lv_at hl 0 rfl) ?_
      refine va_get (D := D) (ci := 6) (v := .ref (q 3)) (C := RX6) (T := TX6) (N := 21) hx hb hts n_X6 hown hK hP 0 rfl rfl 4 (by decide) f_20 (fun _ h9 => h9) rfl dX6_bend_34 ?_
      refine lv_iload_n hx hb dX6_bend_37 rfl (lv_at hl 1 rfl) ?_
      refine z_iald hx hb hK hP 3 0 rfl rfl (by omega) dX6_bend_38 ?_
      have b_3 := I.be k
      refine lv_istore_n (lv' := [(3, .int (iI (be k))), (0, .ref (q 0)), (1, .int (iI k)), (2, .int (iI v))]) hx hb dX6_bend_39 rfl hl (by decide) rfl (fun ls hl => ?_)
      refine lv_aload_n hx hb dX6_bend_40 rfl (lv_at hl 1 rfl) ?_
      refine va_get (D := D) (ci := 6) (v := .ref (q 3)) (C := RX6) (T := TX6) (N := 21) hx hb hts n_X6 hown hK hP 0 rfl rfl 4 (by decide) f_20 (fun _ h9 => h9) rfl dX6_bend_41 ?_
      refine lv_iload_n hx hb dX6_bend_44 rfl (lv_at hl 2 rfl) ?_
      refine lv_iload_n hx hb dX6_bend_45 rfl (lv_at hl 3 rfl) ?_
      refine z_iast (v := v) hx hb hK hP hD hS 3 0 rfl rfl (by omega) dX6_bend_46 (fun H locs hP hD hS => ?_)
      have hP : va_P D vwCl (wM q cy nK st le (uZ be k v) te ab bl ka bg ln ns me sc pi re bk 0 co bs gr lo) H := hP
      have hD : va_D A (wM q cy nK st le (uZ be k v) te ab bl ka bg ln ns me sc pi re bk 0 co bs gr lo) := hD
      refine lv_iload_n hx hb dX6_bend_47 rfl (lv_at hl 0 rfl) ?_
      exact z_iret X hK hP hD hS dX6_bend_48 (by first | rfl | omega | grind)
    · exact absurd c_2 (by omega)
  · exact absurd c_1 (by omega)

set_option maxHeartbeats 4000000 in
set_option maxRecDepth 100000 in
theorem c_X6_bend_no (I : okS nK st le be te ab bl ka bg ln ns me sc pi re bk) (k : Int) (v : Int) (h : -2147483648 ≤ k ∧ k ≤ 2147483647 ∧ -2147483648 ≤ v ∧ v ≤ 2147483647) (hno : ¬ ((0 ≤ k ∧ k < nK) ∧ (-40 ≤ v ∧ v ≤ 40))) : MI l D cy yX6_bend wsX6_bend ({ frames := 2, cells := 0, slots := 0, locals := 46 } : Room) [.ref (q 0), .int (iI k), .int (iI v)] (wM q cy nK st le be te ab bl ka bg ln ns me sc pi re bk th co bs gr lo) (if 0 ≤ k ∧ k < nK then (-100002) else (-100001)) (wM q cy nK st le be te ab bl ka bg ln ns me sc pi re bk 0 co bs gr lo) := by
  refine MI.ofW (cc := cX6_bend) (maxL := 4) (ret := (some .int)) (by decide) rfl (Nat.le_of_ble_eq_true rfl) ?_
  intro p e s m below meth c A ls X hK hP hD hA hS hl
  obtain ⟨hx, hb, hml, hr, hts, hown, hlocks⟩ := id X
  have hl : lv_has ls 4 [(0, .ref (q 0)), (1, .int (iI k)), (2, .int (iI v))] := hl
  have f_63 := hts (Cond.fieldLink RX6 63 "TwoKeysModel" "thrown" "I") (by decide +kernel)
  have K_95 := hts (Cond.constantLong RX6 95 (-40)) (by decide +kernel)
  have K_97 := hts (Cond.constantLong RX6 97 (40)) (by decide +kernel)
  have k_78 := hts (Cond.constant RX6 78 (-100002)) (by decide +kernel)
  have k_86 := hts (Cond.constant RX6 86 (-100001)) (by decide +kernel)
  have n_X6 : ∀ w ∈ u_ws RX6 TX6 21, w ∈ wsX6_bend := by decide +kernel
  have iK := I.nK
  refine lv_aload_n hx hb dX6_bend_0 rfl (lv_at hl 0 rfl) ?_
  refine lv_iconst (v := iI (0)) hx hb dX6_bend_1 rfl ?_
  refine va_put (D := D) (ci := 6) (v := .int (iI 0)) (ty := .int) (C := RX6) (T := TX6) (N := 21) hx hb hts n_X6 tyX6 tyX6_ok nmX6 hown hK hP hD hS 0 rfl rfl 0 (by decide) f_63 (fun _ h9 => h9) rfl (by decide +kernel) rfl rfl (Nat.le_of_ble_eq_true rfl) dX6_bend_2 (fun H locs hP hD hS => ?_)
  have hP : va_P D vwCl (wM q cy nK st le be te ab bl ka bg ln ns me sc pi re bk 0 co bs gr lo) H := hP
  have hD : va_D A (wM q cy nK st le be te ab bl ka bg ln ns me sc pi re bk 0 co bs gr lo) := hD
  refine lv_aload_n hx hb dX6_bend_5 rfl (lv_at hl 0 rfl) ?_
  refine lv_iload_n hx hb dX6_bend_6 rfl (lv_at hl 1 rfl) ?_
  refine z_callVi (ci := 6) (q0 := 0) (As := [.int (iI k)]) (rest := []) X hK hP hD hA hS hl.1 gX6_bend_X6_noKey rfl ⟨rfl, rfl⟩ hd_X6_noKey ⟨Nat.le_of_ble_eq_true rfl, Nat.le_of_ble_eq_true rfl⟩ rfl rfl rfl (Nat.le_of_ble_eq_true rfl) ⟨Nat.zero_le _, Nat.zero_le _⟩ rfl dX6_bend_7 (c_X6_noKey I k (by omega)) (fun H locs hP hD hS => ?_)
  refine z_ifp_eq (tgt := 16) hx hb dX6_bend_10 (by decide) (fun c_1 => ?_) (fun c_1 => ?_)
  · refine lv_iload_n hx hb dX6_bend_16 rfl (lv_at hl 2 rfl) ?_
    refine z_i2l hx hb dX6_bend_17 (by omega) ?_
    refine z_ldc2 (n := -40) hx hb hown K_95 (by decide) dX6_bend_18 ?_
    refine z_ldc2 (n := 40) hx hb hown K_97 (by decide) dX6_bend_21 ?_
    refine z_callSi (As := [.long (lI v), .long (lI (-40)), .long (lI 40)]) (rest := []) X hK hP hD hA hS hl.1 gX6_bend_X6_in rfl ⟨rfl, rfl⟩ hd_X6_in ⟨Nat.le_of_ble_eq_true rfl, Nat.le_of_ble_eq_true rfl⟩ rfl (Nat.le_of_ble_eq_true rfl) ⟨Nat.zero_le _, Nat.zero_le _⟩ rfl dX6_bend_24 (c_X6_in v (-40) 40 (by omega)) (fun H locs hP hD hS => ?_)
    refine z_ifp_ne (tgt := 33) hx hb dX6_bend_27 (by decide) (fun c_2 => ?_) (fun c_2 => ?_)
    · exact absurd c_2 (by omega)
    · refine z_ldc (n := -100002) hx hb hown k_78 (by decide) dX6_bend_30 ?_
      exact z_iret X hK hP hD hS dX6_bend_32 (by (repeat' split) <;> first | rfl | omega)
  · refine z_ldc (n := -100001) hx hb hown k_86 (by decide) dX6_bend_13 ?_
    exact z_iret X hK hP hD hS dX6_bend_15 (by (repeat' split) <;> first | rfl | omega)

theorem hd_X6_about : yX6_about.cls = RX6 ∧ yX6_about.cls ≠ "java/lang/invoke/MethodHandle" ∧ yX6_about.cls ≠ "java/lang/invoke/VarHandle" ∧ (parseMethodDescriptor yX6_about.desc).map (fun d => d.parameters.length) = some 2 := by decide +kernel
set_option maxHeartbeats 4000000 in
set_option maxRecDepth 100000 in
theorem c_X6_about (I : okS nK st le be te ab bl ka bg ln ns me sc pi re bk) (k : Int) (w9 : Int) (h : -2147483648 ≤ k ∧ k ≤ 2147483647 ∧ -2147483648 ≤ w9 ∧ w9 ≤ 2147483647) : MI l D cy yX6_about wsX6_about ({ frames := 3, cells := 0, slots := 0, locals := 63 } : Room) [.ref (q 0), .int (iI k), .int (iI w9)] (wM q cy nK st le be te ab bl ka bg ln ns me sc pi re bk th co bs gr lo) (if 0 ≤ k ∧ k < nK then (if w9 = 0 then st k else if w9 = 1 then le k else if w9 = 2 then be k else if w9 = 3 then te (st k) * 10000 / (le k + be k) else if w9 = 4 then gl ab bl sc pi k else if w9 = 5 then er st le be te ab bl sc pi k else (-100002)) else (-100001)) (wM q cy nK st le be te ab bl ka bg ln ns me sc pi re bk 0 co bs gr lo) := by
  refine MI.ofW (cc := cX6_about) (maxL := 3) (ret := (some .int)) (by decide) rfl (Nat.le_of_ble_eq_true rfl) ?_
  intro p e s m below meth c A ls X hK hP hD hA hS hl
  obtain ⟨hx, hb, hml, hr, hts, hown, hlocks⟩ := id X
  have hl : lv_has ls 3 [(0, .ref (q 0)), (1, .int (iI k)), (2, .int (iI w9))] := hl
  have f_63 := hts (Cond.fieldLink RX6 63 "TwoKeysModel" "thrown" "I") (by decide +kernel)
  have f_13 := hts (Cond.fieldLink RX6 13 "TwoKeysModel" "string" "[I") (by decide +kernel)
  have f_17 := hts (Cond.fieldLink RX6 17 "TwoKeysModel" "length" "[I") (by decide +kernel)
  have f_20 := hts (Cond.fieldLink RX6 20 "TwoKeysModel" "bent" "[I") (by decide +kernel)
  have f_106 := hts (Cond.fieldLink RX6 106 "TwoKeysModel" "scale" "I") (by decide +kernel)
  have f_32 := hts (Cond.fieldLink RX6 32 "TwoKeysModel" "pitch" "I") (by decide +kernel)
  have k_78 := hts (Cond.constant RX6 78 (-100002)) (by decide +kernel)
  have k_86 := hts (Cond.constant RX6 86 (-100001)) (by decide +kernel)
  have n_X6 : ∀ w ∈ u_ws RX6 TX6 21, w ∈ wsX6_about := by decide +kernel
  have iK := I.nK
  have i1 := I.sc
  have i2 := I.pi
  refine lv_aload_n hx hb dX6_about_0 rfl (lv_at hl 0 rfl) ?_
  refine lv_iconst (v := iI (0)) hx hb dX6_about_1 rfl ?_
  refine va_put (D := D) (ci := 6) (v := .int (iI 0)) (ty := .int) (C := RX6) (T := TX6) (N := 21) hx hb hts n_X6 tyX6 tyX6_ok nmX6 hown hK hP hD hS 0 rfl rfl 0 (by decide) f_63 (fun _ h9 => h9) rfl (by decide +kernel) rfl rfl (Nat.le_of_ble_eq_true rfl) dX6_about_2 (fun H locs hP hD hS => ?_)
  have hP : va_P D vwCl (wM q cy nK st le be te ab bl ka bg ln ns me sc pi re bk 0 co bs gr lo) H := hP
  have hD : va_D A (wM q cy nK st le be te ab bl ka bg ln ns me sc pi re bk 0 co bs gr lo) := hD
  refine lv_aload_n hx hb dX6_about_5 rfl (lv_at hl 0 rfl) ?_
  refine lv_iload_n hx hb dX6_about_6 rfl (lv_at hl 1 rfl) ?_
  refine z_callVi (ci := 6) (q0 := 0) (As := [.int (iI k)]) (rest := []) X hK hP hD hA hS hl.1 gX6_about_X6_noKey rfl ⟨rfl, rfl⟩ hd_X6_noKey ⟨Nat.le_of_ble_eq_true rfl, Nat.le_of_ble_eq_true rfl⟩ rfl rfl rfl (Nat.le_of_ble_eq_true rfl) ⟨Nat.zero_le _, Nat.zero_le _⟩ rfl dX6_about_7 (c_X6_noKey I k (by omega)) (fun H locs hP hD hS => ?_)
  refine z_ifp_eq (tgt := 16) hx hb dX6_about_10 (by decide) (fun c_1 => ?_) (fun c_1 => ?_)
  · refine lv_iload_n hx hb dX6_about_16 rfl (lv_at hl 2 rfl) ?_
    by_cases c_2_0 : w9 = 0
    · refine z_tabIn (off := 39) (tgt := 56) (z := 0) hx hb dX6_about_17 c_2_0 (by decide) (by decide) (by decide) rfl (by decide) ?_
      refine lv_aload_n hx hb dX6_about_56 rfl (lv_at hl 0 rfl) ?_
      refine va_get (D := D) (ci := 6) (v := .ref (q 1)) (C := RX6) (T := TX6) (N := 21) hx hb hts n_X6 hown hK hP 0 rfl rfl 2 (by decide) f_13 (fun _ h9 => h9) rfl dX6_about_57 ?_
      refine lv_iload_n hx hb dX6_about_60 rfl (lv_at hl 1 rfl) ?_
      refine z_iald hx hb hK hP 1 0 rfl rfl (by omega) dX6_about_61 ?_
      have b_3 := I.st k
      exact z_iret X hK hP hD hS dX6_about_62 (by (repeat' split) <;> first | rfl | omega)
    by_cases c_2_1 : w9 = 1
    · refine z_tabIn (off := 46) (tgt := 63) (z := 1) hx hb dX6_about_17 c_2_1 (by decide) (by decide) (by decide) rfl (by decide) ?_
      refine lv_aload_n hx hb dX6_about_63 rfl (lv_at hl 0 rfl) ?_
      refine va_get (D := D) (ci := 6) (v := .ref (q 2)) (C := RX6) (T := TX6) (N := 21) hx hb hts n_X6 hown hK hP 0 rfl rfl 3 (by decide) f_17 (fun _ h9 => h9) rfl dX6_about_64 ?_
      refine lv_iload_n hx hb dX6_about_67 rfl (lv_at hl 1 rfl) ?_
      refine z_iald hx hb hK hP 2 0 rfl rfl (by omega) dX6_about_68 ?_
      have b_4 := I.le k
      exact z_iret X hK hP hD hS dX6_about_69 (by (repeat' split) <;> first | rfl | omega)
    by_cases c_2_2 : w9 = 2
    · refine z_tabIn (off := 53) (tgt := 70) (z := 2) hx hb dX6_about_17 c_2_2 (by decide) (by decide) (by decide) rfl (by decide) ?_
      refine lv_aload_n hx hb dX6_about_70 rfl (lv_at hl 0 rfl) ?_
      refine va_get (D := D) (ci := 6) (v := .ref (q 3)) (C := RX6) (T := TX6) (N := 21) hx hb hts n_X6 hown hK hP 0 rfl rfl 4 (by decide) f_20 (fun _ h9 => h9) rfl dX6_about_71 ?_
      refine lv_iload_n hx hb dX6_about_74 rfl (lv_at hl 1 rfl) ?_
      refine z_iald hx hb hK hP 3 0 rfl rfl (by omega) dX6_about_75 ?_
      have b_5 := I.be k
      exact z_iret X hK hP hD hS dX6_about_76 (by (repeat' split) <;> first | rfl | omega)
    by_cases c_2_3 : w9 = 3
    · refine z_tabIn (off := 60) (tgt := 77) (z := 3) hx hb dX6_about_17 c_2_3 (by decide) (by decide) (by decide) rfl (by decide) ?_
      refine lv_aload_n hx hb dX6_about_77 rfl (lv_at hl 0 rfl) ?_
      refine lv_iload_n hx hb dX6_about_78 rfl (lv_at hl 1 rfl) ?_
      refine z_callVi (ci := 6) (q0 := 0) (As := [.int (iI k)]) (rest := []) X hK hP hD hA hS hl.1 gX6_about_X6_toneOf rfl ⟨rfl, rfl⟩ hd_X6_toneOf ⟨Nat.le_of_ble_eq_true rfl, Nat.le_of_ble_eq_true rfl⟩ rfl rfl rfl (Nat.le_of_ble_eq_true rfl) ⟨Nat.zero_le _, Nat.zero_le _⟩ rfl dX6_about_79 (c_X6_toneOf I k (by omega)) (fun H locs hP hD hS => ?_)
      exact z_iret X hK hP hD hS dX6_about_82 (by (repeat' split) <;> first | rfl | omega)
    by_cases c_2_4 : w9 = 4
    · refine z_tabIn (off := 66) (tgt := 83) (z := 4) hx hb dX6_about_17 c_2_4 (by decide) (by decide) (by decide) rfl (by decide) ?_
      refine lv_aload_n hx hb dX6_about_83 rfl (lv_at hl 0 rfl) ?_
      refine lv_iload_n hx hb dX6_about_84 rfl (lv_at hl 1 rfl) ?_
      refine lv_aload_n hx hb dX6_about_85 rfl (lv_at hl 0 rfl) ?_
      refine va_get (D := D) (ci := 6) (v := .int (iI sc)) (C := RX6) (T := TX6) (N := 21) hx hb hts n_X6 hown hK hP 0 rfl rfl 8 (by decide) f_106 (fun _ h9 => h9) rfl dX6_about_86 ?_
      refine lv_aload_n hx hb dX6_about_89 rfl (lv_at hl 0 rfl) ?_
      refine va_get (D := D) (ci := 6) (v := .int (iI pi)) (C := RX6) (T := TX6) (N := 21) hx hb hts n_X6 hown hK hP 0 rfl rfl 9 (by decide) f_32 (fun _ h9 => h9) rfl dX6_about_90 ?_
      refine z_callVi (ci := 6) (q0 := 0) (As := [.int (iI k), .int (iI sc), .int (iI pi)]) (rest := []) X hK hP hD hA hS hl.1 gX6_about_X6_goalOf rfl ⟨rfl, rfl⟩ hd_X6_goalOf ⟨Nat.le_of_ble_eq_true rfl, Nat.le_of_ble_eq_true rfl⟩ rfl rfl rfl (Nat.le_of_ble_eq_true rfl) ⟨Nat.zero_le _, Nat.zero_le _⟩ rfl dX6_about_93 (c_X6_goalOf I k sc pi (by omega) (by omega) (by omega)) (fun H locs hP hD hS => ?_)
      exact z_iret X hK hP hD hS dX6_about_96 (by (repeat' split) <;> first | rfl | omega)
    by_cases c_2_5 : w9 = 5
    · refine z_tabIn (off := 80) (tgt := 97) (z := 5) hx hb dX6_about_17 c_2_5 (by decide) (by decide) (by decide) rfl (by decide) ?_
      refine lv_aload_n hx hb dX6_about_97 rfl (lv_at hl 0 rfl) ?_
      refine lv_iload_n hx hb dX6_about_98 rfl (lv_at hl 1 rfl) ?_
      refine z_callVi (ci := 6) (q0 := 0) (As := [.int (iI k)]) (rest := []) X hK hP hD hA hS hl.1 gX6_about_X6_errorOf rfl ⟨rfl, rfl⟩ hd_X6_errorOf ⟨Nat.le_of_ble_eq_true rfl, Nat.le_of_ble_eq_true rfl⟩ rfl rfl rfl (Nat.le_of_ble_eq_true rfl) ⟨Nat.zero_le _, Nat.zero_le _⟩ rfl dX6_about_99 (c_X6_errorOf I k (by omega)) (fun H locs hP hD hS => ?_)
      exact z_iret X hK hP hD hS dX6_about_102 (by (repeat' split) <;> first | rfl | omega)
    refine z_tabOut (tgt := 103) hx hb dX6_about_17 (by omega) (by omega) (by decide) ?_
    refine z_ldc (n := -100002) hx hb hown k_78 (by decide) dX6_about_103 ?_
    exact z_iret X hK hP hD hS dX6_about_105 (by (repeat' split) <;> first | rfl | omega)
  · refine z_ldc (n := -100001) hx hb hown k_86 (by decide) dX6_about_13 ?_
    exact z_iret X hK hP hD hS dX6_about_15 (by (repeat' split) <;> first | rfl | omega)

theorem hd_X6_pressed : yX6_pressed.cls = RX6 ∧ yX6_pressed.cls ≠ "java/lang/invoke/MethodHandle" ∧ yX6_pressed.cls ≠ "java/lang/invoke/VarHandle" ∧ (parseMethodDescriptor yX6_pressed.desc).map (fun d => d.parameters.length) = some 2 := by decide +kernel
set_option maxHeartbeats 4000000 in
set_option maxRecDepth 100000 in
theorem c_X6_pressed (I : okS nK st le be te ab bl ka bg ln ns me sc pi re bk) (k : Int) (p9 : Int) (h : -2147483648 ≤ k ∧ k ≤ 2147483647 ∧ -2147483648 ≤ p9 ∧ p9 ≤ 2147483647) : MI l D cy yX6_pressed wsX6_pressed ({ frames := 2, cells := 0, slots := 0, locals := 46 } : Room) [.ref (q 0), .int (iI k), .int (iI p9)] (wM q cy nK st le be te ab bl ka bg ln ns me sc pi re bk th co bs gr lo) (if 0 ≤ k ∧ k < nK then (if 0 ≤ p9 ∧ p9 ≤ 20 then te (st k) * 10000 / (le k + be k) + te (st k) * 10000 / (le k + be k) * p9 / 1000 else (-100002)) else (-100001)) (wM q cy nK st le be te ab bl ka bg ln ns me sc pi re bk 0 co bs gr lo) := by
  refine MI.ofW (cc := cX6_pressed) (maxL := 3) (ret := (some .int)) (by decide) rfl (Nat.le_of_ble_eq_true rfl) ?_
  intro p e s m below meth c A ls X hK hP hD hA hS hl
  obtain ⟨hx, hb, hml, hr, hts, hown, hlocks⟩ := id X
  have hl : lv_has ls 3 [(0, .ref (q 0)), (1, .int (iI k)), (2, .int (iI p9))] := hl
  have f_63 := hts (Cond.fieldLink RX6 63 "TwoKeysModel" "thrown" "I") (by decide +kernel)
  have K_116 := hts (Cond.constantLong RX6 116 (20)) (by decide +kernel)
  have k_78 := hts (Cond.constant RX6 78 (-100002)) (by decide +kernel)
  have k_86 := hts (Cond.constant RX6 86 (-100001)) (by decide +kernel)
  have n_X6 : ∀ w ∈ u_ws RX6 TX6 21, w ∈ wsX6_pressed := by decide +kernel
  have iK := I.nK
  refine lv_aload_n hx hb dX6_pressed_0 rfl (lv_at hl 0 rfl) ?_
  refine lv_iconst (v := iI (0)) hx hb dX6_pressed_1 rfl ?_
  refine va_put (D := D) (ci := 6) (v := .int (iI 0)) (ty := .int) (C := RX6) (T := TX6) (N := 21) hx hb hts n_X6 tyX6 tyX6_ok nmX6 hown hK hP hD hS 0 rfl rfl 0 (by decide) f_63 (fun _ h9 => h9) rfl (by decide +kernel) rfl rfl (Nat.le_of_ble_eq_true rfl) dX6_pressed_2 (fun H locs hP hD hS => ?_)
  have hP : va_P D vwCl (wM q cy nK st le be te ab bl ka bg ln ns me sc pi re bk 0 co bs gr lo) H := hP
  have hD : va_D A (wM q cy nK st le be te ab bl ka bg ln ns me sc pi re bk 0 co bs gr lo) := hD
  refine lv_aload_n hx hb dX6_pressed_5 rfl (lv_at hl 0 rfl) ?_
  refine lv_iload_n hx hb dX6_pressed_6 rfl (lv_at hl 1 rfl) ?_
  refine z_callVi (ci := 6) (q0 := 0) (As := [.int (iI k)]) (rest := []) X hK hP hD hA hS hl.1 gX6_pressed_X6_noKey rfl ⟨rfl, rfl⟩ hd_X6_noKey ⟨Nat.le_of_ble_eq_true rfl, Nat.le_of_ble_eq_true rfl⟩ rfl rfl rfl (Nat.le_of_ble_eq_true rfl) ⟨Nat.zero_le _, Nat.zero_le _⟩ rfl dX6_pressed_7 (c_X6_noKey I k (by omega)) (fun H locs hP hD hS => ?_)
  refine z_ifp_eq (tgt := 16) hx hb dX6_pressed_10 (by decide) (fun c_1 => ?_) (fun c_1 => ?_)
  · refine lv_iload_n hx hb dX6_pressed_16 rfl (lv_at hl 2 rfl) ?_
    refine z_i2l hx hb dX6_pressed_17 (by omega) ?_
    refine lv_lconst (v := lI (0)) hx hb dX6_pressed_18 (by decide) ?_
    refine z_ldc2 (n := 20) hx hb hown K_116 (by decide) dX6_pressed_19 ?_
    refine z_callSi (As := [.long (lI p9), .long (lI 0), .long (lI 20)]) (rest := []) X hK hP hD hA hS hl.1 gX6_pressed_X6_in rfl ⟨rfl, rfl⟩ hd_X6_in ⟨Nat.le_of_ble_eq_true rfl, Nat.le_of_ble_eq_true rfl⟩ rfl (Nat.le_of_ble_eq_true rfl) ⟨Nat.zero_le _, Nat.zero_le _⟩ rfl dX6_pressed_22 (c_X6_in p9 0 20 (by omega)) (fun H locs hP hD hS => ?_)
    refine z_ifp_eq (tgt := 48) hx hb dX6_pressed_25 (by decide) (fun c_2 => ?_) (fun c_2 => ?_)
    · refine z_ldc (n := -100002) hx hb hown k_78 (by decide) dX6_pressed_48 ?_
      exact z_iret X hK hP hD hS dX6_pressed_50 (by (repeat' split) <;> first | rfl | omega)
    · refine lv_aload_n hx hb dX6_pressed_28 rfl (lv_at hl 0 rfl) ?_
      refine lv_iload_n hx hb dX6_pressed_29 rfl (lv_at hl 1 rfl) ?_
      refine z_callVi (ci := 6) (q0 := 0) (As := [.int (iI k)]) (rest := []) X hK hP hD hA hS hl.1 gX6_pressed_X6_toneOf rfl ⟨rfl, rfl⟩ hd_X6_toneOf ⟨Nat.le_of_ble_eq_true rfl, Nat.le_of_ble_eq_true rfl⟩ rfl rfl rfl (Nat.le_of_ble_eq_true rfl) ⟨Nat.zero_le _, Nat.zero_le _⟩ rfl dX6_pressed_30 (c_X6_toneOf I k (by omega)) (fun H locs hP hD hS => ?_)
      have b7 := tn_b (st := st) (k := k) (b := be k) I.le I.te (I.be k)
      have b6 := mul_b b7.1 b7.2 (show 0 ≤ p9 by omega) (show p9 ≤ 20 by omega)
      refine lv_aload_n hx hb dX6_pressed_33 rfl (lv_at hl 0 rfl) ?_
      refine lv_iload_n hx hb dX6_pressed_34 rfl (lv_at hl 1 rfl) ?_
      refine z_callVi (ci := 6) (q0 := 0) (As := [.int (iI k)]) (rest := [.int (iI (te (st k) * 10000 / (le k + be k)))]) X hK hP hD hA hS hl.1 gX6_pressed_X6_toneOf rfl ⟨rfl, rfl⟩ hd_X6_toneOf ⟨Nat.le_of_ble_eq_true rfl, Nat.le_of_ble_eq_true rfl⟩ rfl rfl rfl (Nat.le_of_ble_eq_true rfl) ⟨Nat.zero_le _, Nat.zero_le _⟩ rfl dX6_pressed_35 (c_X6_toneOf I k (by omega)) (fun H locs hP hD hS => ?_)
      refine lv_iload_n hx hb dX6_pressed_38 rfl (lv_at hl 2 rfl) ?_
      refine z_imul hx hb dX6_pressed_39 ?_
      refine lv_sipush (v := iI (1000)) hx hb dX6_pressed_40 (by decide) ?_
      refine z_idiv hx hb dX6_pressed_43 (by omega) ?_
      refine z_iadd hx hb dX6_pressed_44 ?_
      refine lv_goto (tgt := 50) hx hb dX6_pressed_45 (by decide) ?_
      exact z_iret X hK hP hD hS dX6_pressed_50 (by (repeat' split) <;> first | rfl | omega)
  · refine z_ldc (n := -100001) hx hb hown k_86 (by decide) dX6_pressed_13 ?_
    exact z_iret X hK hP hD hS dX6_pressed_15 (by (repeat' split) <;> first | rfl | omega)

theorem hd_X6_sharers : yX6_sharers.cls = RX6 ∧ yX6_sharers.cls ≠ "java/lang/invoke/MethodHandle" ∧ yX6_sharers.cls ≠ "java/lang/invoke/VarHandle" ∧ (parseMethodDescriptor yX6_sharers.desc).map (fun d => d.parameters.length) = some 1 := by decide +kernel
set_option maxHeartbeats 4000000 in
set_option maxRecDepth 100000 in
theorem c_X6_sharers (I : okS nK st le be te ab bl ka bg ln ns me sc pi re bk) (s9 : Int) (h : -2147483648 ≤ s9 ∧ s9 ≤ 2147483647) : MI l D cy yX6_sharers wsX6_sharers ({ frames := 2, cells := 0, slots := 0, locals := 45 } : Room) [.ref (q 0), .int (iI s9)] (wM q cy nK st le be te ab bl ka bg ln ns me sc pi re bk th co bs gr lo) (if 0 ≤ s9 ∧ s9 ≤ 23 then sZ (fun k => if st k = s9 then 1 else 0) 0 nK else (-100001)) (wM q cy nK st le be te ab bl ka bg ln ns me sc pi re bk 0 co bs gr lo) := by
  refine MI.ofW (cc := cX6_sharers) (maxL := 2) (ret := (some .int)) (by decide) rfl (Nat.le_of_ble_eq_true rfl) ?_
  intro p e s m below meth c A ls X hK hP hD hA hS hl
  obtain ⟨hx, hb, hml, hr, hts, hown, hlocks⟩ := id X
  have hl : lv_has ls 2 [(0, .ref (q 0)), (1, .int (iI s9))] := hl
  have f_63 := hts (Cond.fieldLink RX6 63 "TwoKeysModel" "thrown" "I") (by decide +kernel)
  have k_86 := hts (Cond.constant RX6 86 (-100001)) (by decide +kernel)
  have n_X6 : ∀ w ∈ u_ws RX6 TX6 21, w ∈ wsX6_sharers := by decide +kernel
  have iK := I.nK
  refine lv_aload_n hx hb dX6_sharers_0 rfl (lv_at hl 0 rfl) ?_
  refine lv_iconst (v := iI (0)) hx hb dX6_sharers_1 rfl ?_
  refine va_put (D := D) (ci := 6) (v := .int (iI 0)) (ty := .int) (C := RX6) (T := TX6) (N := 21) hx hb hts n_X6 tyX6 tyX6_ok nmX6 hown hK hP hD hS 0 rfl rfl 0 (by decide) f_63 (fun _ h9 => h9) rfl (by decide +kernel) rfl rfl (Nat.le_of_ble_eq_true rfl) dX6_sharers_2 (fun H locs hP hD hS => ?_)
  have hP : va_P D vwCl (wM q cy nK st le be te ab bl ka bg ln ns me sc pi re bk 0 co bs gr lo) H := hP
  have hD : va_D A (wM q cy nK st le be te ab bl ka bg ln ns me sc pi re bk 0 co bs gr lo) := hD
  refine lv_iload_n hx hb dX6_sharers_5 rfl (lv_at hl 1 rfl) ?_
  refine z_callSi (As := [.int (iI s9)]) (rest := []) X hK hP hD hA hS hl.1 gX6_sharers_X6_noString rfl ⟨rfl, rfl⟩ hd_X6_noString ⟨Nat.le_of_ble_eq_true rfl, Nat.le_of_ble_eq_true rfl⟩ rfl (Nat.le_of_ble_eq_true rfl) ⟨Nat.zero_le _, Nat.zero_le _⟩ rfl dX6_sharers_6 (c_X6_noString s9 (by omega)) (fun H locs hP hD hS => ?_)
  refine z_ifp_eq (tgt := 17) hx hb dX6_sharers_9 (by decide) (fun c_1 => ?_) (fun c_1 => ?_)
  · refine lv_aload_n hx hb dX6_sharers_17 rfl (lv_at hl 0 rfl) ?_
    refine lv_iload_n hx hb dX6_sharers_18 rfl (lv_at hl 1 rfl) ?_
    refine z_callVi (ci := 6) (q0 := 0) (As := [.int (iI s9)]) (rest := []) X hK hP hD hA hS hl.1 gX6_sharers_X6_onString rfl ⟨rfl, rfl⟩ hd_X6_onString ⟨Nat.le_of_ble_eq_true rfl, Nat.le_of_ble_eq_true rfl⟩ rfl rfl rfl (Nat.le_of_ble_eq_true rfl) ⟨Nat.zero_le _, Nat.zero_le _⟩ rfl dX6_sharers_19 (c_X6_onString I s9 (by omega)) (fun H locs hP hD hS => ?_)
    exact z_iret X hK hP hD hS dX6_sharers_22 (by (repeat' split) <;> first | rfl | omega)
  · refine z_ldc (n := -100001) hx hb hown k_86 (by decide) dX6_sharers_12 ?_
    refine lv_goto (tgt := 22) hx hb dX6_sharers_14 (by decide) ?_
    exact z_iret X hK hP hD hS dX6_sharers_22 (by (repeat' split) <;> first | rfl | omega)

theorem hd_X6_order : yX6_order.cls = RX6 ∧ yX6_order.cls ≠ "java/lang/invoke/MethodHandle" ∧ yX6_order.cls ≠ "java/lang/invoke/VarHandle" ∧ (parseMethodDescriptor yX6_order.desc).map (fun d => d.parameters.length) = some 0 := by decide +kernel
set_option maxHeartbeats 4000000 in
set_option maxRecDepth 100000 in
theorem c_X6_order (I : okS nK st le be te ab bl ka bg ln ns me sc pi re bk)   : MI l D cy yX6_order wsX6_order ({ frames := 1, cells := 0, slots := 0, locals := 21 } : Room) [.ref (q 0)] (wM q cy nK st le be te ab bl ka bg ln ns me sc pi re bk th co bs gr lo) (bP (∀ a b, 0 ≤ a → a < b → b < nK → st a = st b → le b + be b < le a + be a)) (wM q cy nK st le be te ab bl ka bg ln ns me sc pi re bk 0 co bs gr lo) := by
  refine MI.ofW (cc := cX6_order) (maxL := 4) (ret := (some .int)) (by decide) rfl (Nat.le_of_ble_eq_true rfl) ?_
  intro p e s m below meth c A ls X hK hP hD hA hS hl
  obtain ⟨hx, hb, hml, hr, hts, hown, hlocks⟩ := id X
  have hl : lv_has ls 4 [(0, .ref (q 0))] := hl
  have f_63 := hts (Cond.fieldLink RX6 63 "TwoKeysModel" "thrown" "I") (by decide +kernel)
  have f_7 := hts (Cond.fieldLink RX6 7 "TwoKeysModel" "keys" "I") (by decide +kernel)
  have f_13 := hts (Cond.fieldLink RX6 13 "TwoKeysModel" "string" "[I") (by decide +kernel)
  have n_X6 : ∀ w ∈ u_ws RX6 TX6 21, w ∈ wsX6_order := by decide +kernel
  have iK := I.nK
  refine lv_aload_n hx hb dX6_order_0 rfl (lv_at hl 0 rfl) ?_
  refine lv_iconst (v := iI (0)) hx hb dX6_order_1 rfl ?_
  refine va_put (D := D) (ci := 6) (v := .int (iI 0)) (ty := .int) (C := RX6) (T := TX6) (N := 21) hx hb hts n_X6 tyX6 tyX6_ok nmX6 hown hK hP hD hS 0 rfl rfl 0 (by decide) f_63 (fun _ h9 => h9) rfl (by decide +kernel) rfl rfl (Nat.le_of_ble_eq_true rfl) dX6_order_2 (fun H locs hP hD hS => ?_)
  have hP : va_P D vwCl (wM q cy nK st le be te ab bl ka bg ln ns me sc pi re bk 0 co bs gr lo) H := hP
  have hD : va_D A (wM q cy nK st le be te ab bl ka bg ln ns me sc pi re bk 0 co bs gr lo) := hD
  refine lv_iconst (v := iI (1)) hx hb dX6_order_5 rfl ?_
  refine lv_istore_n (lv' := [(1, .int (iI 1)), (0, .ref (q 0))]) hx hb dX6_order_6 rfl hl (by decide) rfl (fun ls hl => ?_)
  refine lv_iconst (v := iI (0)) hx hb dX6_order_7 rfl ?_
  refine lv_istore_n (lv' := [(2, .int (iI 0)), (1, .int (iI 1)), (0, .ref (q 0))]) hx hb dX6_order_8 rfl hl (by decide) rfl (fun ls hl => ?_)
  have L_9 : ∀ (n : Nat) (is9 : Bool) (a : Int), (h0 : 0 ≤ a ∧ a ≤ nK) → (hf : nK - a < n) → (hr : is9 = true ↔ ∀ x y, 0 ≤ x → x < y → x < a → y < nK → st x = st y → le y + be y < le x + be x) → ∀ (H : Heap) (locs : List Loc) (ls : Array Slot), va_P D vwCl (wM q cy nK st le be te ab bl ka bg ln ns me sc pi re bk 0 co bs gr lo) H → va_D A (wM q cy nK st le be te ab bl ka bg ln ns me sc pi re bk 0 co bs gr lo) → va_S A s.heap H locs → lv_has ls 4 [(2, .int (iI a)), (1, .int (iI (bZ is9))), (0, .ref (q 0))] → W p l e ({ frames := 1, cells := 0, slots := 0, locals := 21 } : Room) s m [.ref (q 0)].toArray below meth c H locs 0 0 (MQ below (zQi D cy (wM q cy nK st le be te ab bl ka bg ln ns me sc pi re bk 0 co bs gr lo) A (bP (∀ a b, 0 ≤ a → a < b → b < nK → st a = st b → le b + be b < le a + be a))) [.ref (q 0)].toArray s 0 0 A) (F0 m 9 ls []) := by
    intro n
    induction n with
    | zero =>
      intro is9 a h0 hf hr
      exfalso; omega
    | succ n ih_9 =>
      intro is9 a h0 hf hr H locs ls hP hD hS hl
      refine lv_iload_n hx hb dX6_order_9 rfl (lv_at hl 0 rfl) ?_
      refine lv_aload_n hx hb dX6_order_10 rfl (lv_at hl 2 rfl) ?_
      refine va_get (D := D) (ci := 6) (v := .int (iI nK)) (C := RX6) (T := TX6) (N := 21) hx hb hts n_X6 hown hK hP 0 rfl rfl 1 (by decide) f_7 (fun _ h9 => h9) rfl dX6_order_11 ?_
      refine z_icmp_ge (tgt := 79) hx hb dX6_order_14 (by decide) (by omega) (fun c_1 => ?_) (fun c_1 => ?_)
      · refine lv_iload_n hx hb dX6_order_79 rfl (lv_at hl 1 rfl) ?_
        refine z_ifb_eq (tgt := 87) hx hb dX6_order_80 (by decide) (fun c_2 => ?_) (fun c_2 => ?_)
        · refine lv_iconst (v := iI (0)) hx hb dX6_order_87 rfl ?_
          exact z_iret X hK hP hD hS dX6_order_88 (by first | exact (bP_1 (fun a b h1 h2 h3 h4 => hr.mp (by assumption) a b h1 h2 (by omega) h3 h4)).symm | exact (bP_0 (fun z => by have := hr.mpr (fun x y h1 h2 _ h4 h5 => z x y h1 h2 h4 h5); simp_all)).symm)
        · refine lv_iconst (v := iI (1)) hx hb dX6_order_83 rfl ?_
          refine lv_goto (tgt := 88) hx hb dX6_order_84 (by decide) ?_
          exact z_iret X hK hP hD hS dX6_order_88 (by first | exact (bP_1 (fun a b h1 h2 h3 h4 => hr.mp (by assumption) a b h1 h2 (by omega) h3 h4)).symm | exact (bP_0 (fun z => by have := hr.mpr (fun x y h1 h2 _ h4 h5 => z x y h1 h2 h4 h5); simp_all)).symm)
      · refine lv_iload_n hx hb dX6_order_17 rfl (lv_at hl 0 rfl) ?_
        refine lv_iconst (v := iI (1)) hx hb dX6_order_18 rfl ?_
        refine z_iadd hx hb dX6_order_19 ?_
        refine lv_istore_n (lv' := [(3, .int (iI (a + 1))), (2, .int (iI a)), (1, .int (iI (bZ is9))), (0, .ref (q 0))]) hx hb dX6_order_20 rfl hl (by decide) rfl (fun ls hl => ?_)
        have L_21 : ∀ (n : Nat) (is9 : Bool) (b : Int), (h2 : a + 1 ≤ b ∧ b ≤ nK) → (hf2 : nK - b < n) → (hr2 : is9 = true ↔ (∀ x y, 0 ≤ x → x < y → x < a → y < nK → st x = st y → le y + be y < le x + be x) ∧ (∀ y, a < y → y < b → st a = st y → le y + be y < le a + be a)) → ∀ (H : Heap) (locs : List Loc) (ls : Array Slot), va_P D vwCl (wM q cy nK st le be te ab bl ka bg ln ns me sc pi re bk 0 co bs gr lo) H → va_D A (wM q cy nK st le be te ab bl ka bg ln ns me sc pi re bk 0 co bs gr lo) → va_S A s.heap H locs → lv_has ls 4 [(3, .int (iI b)), (2, .int (iI a)), (1, .int (iI (bZ is9))), (0, .ref (q 0))] → W p l e ({ frames := 1, cells := 0, slots := 0, locals := 21 } : Room) s m [.ref (q 0)].toArray below meth c H locs 0 0 (MQ below (zQi D cy (wM q cy nK st le be te ab bl ka bg ln ns me sc pi re bk 0 co bs gr lo) A (bP (∀ a b, 0 ≤ a → a < b → b < nK → st a = st b → le b + be b < le a + be a))) [.ref (q 0)].toArray s 0 0 A) (F0 m 21 ls []) := by
          intro n
          induction n with
          | zero =>
            intro is9 b h2 hf2 hr2
            exfalso; omega
          | succ n ih_21 =>
            intro is9 b h2 hf2 hr2 H locs ls hP hD hS hl
            have := I.le a
            have := I.be a
            have := I.le b
            have := I.be b
            refine lv_iload_n hx hb dX6_order_21 rfl (lv_at hl 0 rfl) ?_
            refine lv_aload_n hx hb dX6_order_22 rfl (lv_at hl 3 rfl) ?_
            refine va_get (D := D) (ci := 6) (v := .int (iI nK)) (C := RX6) (T := TX6) (N := 21) hx hb hts n_X6 hown hK hP 0 rfl rfl 1 (by decide) f_7 (fun _ h9 => h9) rfl dX6_order_23 ?_
            refine z_icmp_ge (tgt := 73) hx hb dX6_order_26 (by decide) (by omega) (fun c_3 => ?_) (fun c_3 => ?_)
            · refine lv_iinc (v := iI (a + 1)) (lv' := [(2, .int (iI (a + 1))), (3, .int (iI b)), (1, .int (iI (bZ is9))), (0, .ref (q 0))]) hx hb dX6_order_73 hl (k := 1) rfl (iI_add _ _) (by decide) rfl (fun ls hl => ?_)
              refine lv_goto (tgt := 9) hx hb dX6_order_76 (by decide) ?_
              exact ih_9 is9 (a + 1) (by omega) (by omega) (by rw [hr2]; exact ⟨fun z x y h1 h2 h3 h4 h5 => by rcases (show x < a ∨ x = a by omega) with g | g; exact z.1 x y h1 h2 g h4 h5; subst g; exact z.2 y (by omega) (by omega) h5, fun z => ⟨fun x y h1 h2 h3 h4 h5 => z x y h1 h2 (by omega) h4 h5, fun y h1 h2 h3 => z a y (by omega) h1 (by omega) (by omega) h3⟩⟩) _ _ _ hP hD hS (lv_sub hl [0, 2, 3] rfl)
            · refine lv_iload_n hx hb dX6_order_29 rfl (lv_at hl 2 rfl) ?_
              refine z_ifb_eq (tgt := 65) hx hb dX6_order_30 (by decide) (fun c_4 => ?_) (fun c_4 => ?_)
              · refine lv_iconst (v := iI (0)) hx hb dX6_order_65 rfl ?_
                refine lv_istore_n (lv' := [(1, .int (iI 0)), (3, .int (iI b)), (2, .int (iI a)), (0, .ref (q 0))]) hx hb dX6_order_66 rfl hl (by decide) rfl (fun ls hl => ?_)
                refine lv_iinc (v := iI (b + 1)) (lv' := [(3, .int (iI (b + 1))), (1, .int (iI 0)), (2, .int (iI a)), (0, .ref (q 0))]) hx hb dX6_order_67 hl (k := 1) rfl (iI_add _ _) (by decide) rfl (fun ls hl => ?_)
                refine lv_goto (tgt := 21) hx hb dX6_order_70 (by decide) ?_
                exact ih_21 false (b + 1) (by omega) (by omega) (by first | exact od_f hr2 (by assumption) | exact od_t hr2 (by assumption) (by omega) | exact od_x hr2 (by omega) (by omega)) _ _ _ hP hD hS (lv_sub hl [0, 2, 1, 3] rfl)
              · refine lv_aload_n hx hb dX6_order_33 rfl (lv_at hl 3 rfl) ?_
                refine va_get (D := D) (ci := 6) (v := .ref (q 1)) (C := RX6) (T := TX6) (N := 21) hx hb hts n_X6 hown hK hP 0 rfl rfl 2 (by decide) f_13 (fun _ h9 => h9) rfl dX6_order_34 ?_
                refine lv_iload_n hx hb dX6_order_37 rfl (lv_at hl 1 rfl) ?_
                refine z_iald hx hb hK hP 1 0 rfl rfl (by omega) dX6_order_38 ?_
                have b_5 := I.st a
                refine lv_aload_n hx hb dX6_order_39 rfl (lv_at hl 3 rfl) ?_
                refine va_get (D := D) (ci := 6) (v := .ref (q 1)) (C := RX6) (T := TX6) (N := 21) hx hb hts n_X6 hown hK hP 0 rfl rfl 2 (by decide) f_13 (fun _ h9 => h9) rfl dX6_order_40 ?_
                refine lv_iload_n hx hb dX6_order_43 rfl (lv_at hl 0 rfl) ?_
                refine z_iald hx hb hK hP 1 0 rfl rfl (by omega) dX6_order_44 ?_
                have b_6 := I.st b
                refine z_icmp_ne (tgt := 61) hx hb dX6_order_45 (by decide) (by omega) (fun c_7 => ?_) (fun c_7 => ?_)
                · refine lv_iconst (v := iI (1)) hx hb dX6_order_61 rfl ?_
                  refine lv_goto (tgt := 66) hx hb dX6_order_62 (by decide) ?_
                  refine lv_istore_n (lv' := [(1, .int (iI 1)), (3, .int (iI b)), (2, .int (iI a)), (0, .ref (q 0))]) hx hb dX6_order_66 rfl hl (by decide) rfl (fun ls hl => ?_)
                  refine lv_iinc (v := iI (b + 1)) (lv' := [(3, .int (iI (b + 1))), (1, .int (iI 1)), (2, .int (iI a)), (0, .ref (q 0))]) hx hb dX6_order_67 hl (k := 1) rfl (iI_add _ _) (by decide) rfl (fun ls hl => ?_)
                  refine lv_goto (tgt := 21) hx hb dX6_order_70 (by decide) ?_
                  exact ih_21 true (b + 1) (by omega) (by omega) (by first | exact od_f hr2 (by assumption) | exact od_t hr2 (by assumption) (by omega) | exact od_x hr2 (by omega) (by omega)) _ _ _ hP hD hS (lv_sub hl [0, 2, 1, 3] rfl)
                · refine lv_aload_n hx hb dX6_order_48 rfl (lv_at hl 3 rfl) ?_
                  refine lv_iload_n hx hb dX6_order_49 rfl (lv_at hl 1 rfl) ?_
                  refine z_callVi (ci := 6) (q0 := 0) (As := [.int (iI a)]) (rest := []) X hK hP hD hA hS hl.1 gX6_order_X6_soundsOf rfl ⟨rfl, rfl⟩ hd_X6_soundsOf ⟨Nat.le_of_ble_eq_true rfl, Nat.le_of_ble_eq_true rfl⟩ rfl rfl rfl (Nat.le_of_ble_eq_true rfl) ⟨Nat.zero_le _, Nat.zero_le _⟩ rfl dX6_order_50 (c_X6_soundsOf I a (by omega)) (fun H locs hP hD hS => ?_)
                  refine lv_aload_n hx hb dX6_order_53 rfl (lv_at hl 3 rfl) ?_
                  refine lv_iload_n hx hb dX6_order_54 rfl (lv_at hl 0 rfl) ?_
                  refine z_callVi (ci := 6) (q0 := 0) (As := [.int (iI b)]) (rest := [.int (iI (le a + be a))]) X hK hP hD hA hS hl.1 gX6_order_X6_soundsOf rfl ⟨rfl, rfl⟩ hd_X6_soundsOf ⟨Nat.le_of_ble_eq_true rfl, Nat.le_of_ble_eq_true rfl⟩ rfl rfl rfl (Nat.le_of_ble_eq_true rfl) ⟨Nat.zero_le _, Nat.zero_le _⟩ rfl dX6_order_55 (c_X6_soundsOf I b (by omega)) (fun H locs hP hD hS => ?_)
                  refine z_icmp_le (tgt := 65) hx hb dX6_order_58 (by decide) (by omega) (fun c_8 => ?_) (fun c_8 => ?_)
                  · refine lv_iconst (v := iI (0)) hx hb dX6_order_65 rfl ?_
                    refine lv_istore_n (lv' := [(1, .int (iI 0)), (3, .int (iI b)), (2, .int (iI a)), (0, .ref (q 0))]) hx hb dX6_order_66 rfl hl (by decide) rfl (fun ls hl => ?_)
                    refine lv_iinc (v := iI (b + 1)) (lv' := [(3, .int (iI (b + 1))), (1, .int (iI 0)), (2, .int (iI a)), (0, .ref (q 0))]) hx hb dX6_order_67 hl (k := 1) rfl (iI_add _ _) (by decide) rfl (fun ls hl => ?_)
                    refine lv_goto (tgt := 21) hx hb dX6_order_70 (by decide) ?_
                    exact ih_21 false (b + 1) (by omega) (by omega) (by first | exact od_f hr2 (by assumption) | exact od_t hr2 (by assumption) (by omega) | exact od_x hr2 (by omega) (by omega)) _ _ _ hP hD hS (lv_sub hl [0, 2, 1, 3] rfl)
                  · refine lv_iconst (v := iI (1)) hx hb dX6_order_61 rfl ?_
                    refine lv_goto (tgt := 66) hx hb dX6_order_62 (by decide) ?_
                    refine lv_istore_n (lv' := [(1, .int (iI 1)), (3, .int (iI b)), (2, .int (iI a)), (0, .ref (q 0))]) hx hb dX6_order_66 rfl hl (by decide) rfl (fun ls hl => ?_)
                    refine lv_iinc (v := iI (b + 1)) (lv' := [(3, .int (iI (b + 1))), (1, .int (iI 1)), (2, .int (iI a)), (0, .ref (q 0))]) hx hb dX6_order_67 hl (k := 1) rfl (iI_add _ _) (by decide) rfl (fun ls hl => ?_)
                    refine lv_goto (tgt := 21) hx hb dX6_order_70 (by decide) ?_
                    exact ih_21 true (b + 1) (by omega) (by omega) (by first | exact od_f hr2 (by assumption) | exact od_t hr2 (by assumption) (by omega) | exact od_x hr2 (by omega) (by omega)) _ _ _ hP hD hS (lv_sub hl [0, 2, 1, 3] rfl)
        exact L_21 26 is9 (a + 1) (by omega) (by omega) (by rw [hr]; exact ⟨fun z => ⟨z, fun y h1 h2 h3 => by omega⟩, fun z => z.1⟩) _ _ _ hP hD hS (lv_sub hl [0, 1, 2, 3] rfl)
  exact L_9 25 true 0 (by omega) (by omega) (⟨fun _ x y _ _ h _ _ => by omega, fun _ => rfl⟩) _ _ _ hP hD hS (lv_sub hl [0, 1, 2] rfl)

theorem hd_X6_step : yX6_step.cls = RX6 ∧ yX6_step.cls ≠ "java/lang/invoke/MethodHandle" ∧ yX6_step.cls ≠ "java/lang/invoke/VarHandle" ∧ (parseMethodDescriptor yX6_step.desc).map (fun d => d.parameters.length) = some 4 := by decide +kernel
set_option maxHeartbeats 4000000 in
set_option maxRecDepth 100000 in
theorem c_X6_step_ok (I : okS nK st le be te ab bl ka bg ln ns me sc pi re bk) (s9 : Int) (t9 : Int) (a9 : Int) (b9 : Int) (h : -2147483648 ≤ s9 ∧ s9 ≤ 2147483647 ∧ -2147483648 ≤ t9 ∧ t9 ≤ 2147483647 ∧ -2147483648 ≤ a9 ∧ a9 ≤ 2147483647 ∧ -2147483648 ≤ b9 ∧ b9 ≤ 2147483647) (hok : ((0 ≤ s9 ∧ s9 ≤ 4) ∧ (0 ≤ t9 ∧ t9 ≤ 11)) ∧ (1 ≤ a9 ∧ a9 ≤ 999) ∧ (1 ≤ b9 ∧ b9 ≤ 999) ∧ a9 ≤ 4 * b9) : MI l D cy yX6_step wsX6_step ({ frames := 2, cells := 0, slots := 0, locals := 45 } : Room) [.ref (q 0), .int (iI s9), .int (iI t9), .int (iI a9), .int (iI b9)] (wM q cy nK st le be te ab bl ka bg ln ns me sc pi re bk th co bs gr lo) 1 (wM q cy nK st le be te (uZ ab (s9 * 12 + t9) a9) (uZ bl (s9 * 12 + t9) b9) ka bg ln ns me sc pi re bk 0 co bs gr lo) := by
  refine MI.ofW (cc := cX6_step) (maxL := 5) (ret := (some .int)) (by decide) rfl (Nat.le_of_ble_eq_true rfl) ?_
  intro p e s m below meth c A ls X hK hP hD hA hS hl
  obtain ⟨hx, hb, hml, hr, hts, hown, hlocks⟩ := id X
  have hl : lv_has ls 5 [(0, .ref (q 0)), (1, .int (iI s9)), (2, .int (iI t9)), (3, .int (iI a9)), (4, .int (iI b9))] := hl
  have f_63 := hts (Cond.fieldLink RX6 63 "TwoKeysModel" "thrown" "I") (by decide +kernel)
  have K_124 := hts (Cond.constantLong RX6 124 (11)) (by decide +kernel)
  have K_126 := hts (Cond.constantLong RX6 126 (999)) (by decide +kernel)
  have f_26 := hts (Cond.fieldLink RX6 26 "TwoKeysModel" "above" "[I") (by decide +kernel)
  have f_29 := hts (Cond.fieldLink RX6 29 "TwoKeysModel" "below" "[I") (by decide +kernel)
  have n_X6 : ∀ w ∈ u_ws RX6 TX6 21, w ∈ wsX6_step := by decide +kernel
  have iK := I.nK
  refine lv_aload_n hx hb dX6_step_0 rfl (lv_at hl 0 rfl) ?_
  refine lv_iconst (v := iI (0)) hx hb dX6_step_1 rfl ?_
  refine va_put (D := D) (ci := 6) (v := .int (iI 0)) (ty := .int) (C := RX6) (T := TX6) (N := 21) hx hb hts n_X6 tyX6 tyX6_ok nmX6 hown hK hP hD hS 0 rfl rfl 0 (by decide) f_63 (fun _ h9 => h9) rfl (by decide +kernel) rfl rfl (Nat.le_of_ble_eq_true rfl) dX6_step_2 (fun H locs hP hD hS => ?_)
  have hP : va_P D vwCl (wM q cy nK st le be te ab bl ka bg ln ns me sc pi re bk 0 co bs gr lo) H := hP
  have hD : va_D A (wM q cy nK st le be te ab bl ka bg ln ns me sc pi re bk 0 co bs gr lo) := hD
  refine lv_iload_n hx hb dX6_step_5 rfl (lv_at hl 1 rfl) ?_
  refine z_callSi (As := [.int (iI s9)]) (rest := []) X hK hP hD hA hS hl.1 gX6_step_X6_noScale rfl ⟨rfl, rfl⟩ hd_X6_noScale ⟨Nat.le_of_ble_eq_true rfl, Nat.le_of_ble_eq_true rfl⟩ rfl (Nat.le_of_ble_eq_true rfl) ⟨Nat.zero_le _, Nat.zero_le _⟩ rfl dX6_step_6 (c_X6_noScale s9 (by omega)) (fun H locs hP hD hS => ?_)
  refine z_ifp_ne (tgt := 24) hx hb dX6_step_9 (by decide) (fun c_1 => ?_) (fun c_1 => ?_)
  · exact absurd c_1 (by omega)
  · refine lv_iload_n hx hb dX6_step_12 rfl (lv_at hl 2 rfl) ?_
    refine z_i2l hx hb dX6_step_13 (by omega) ?_
    refine lv_lconst (v := lI (0)) hx hb dX6_step_14 (by decide) ?_
    refine z_ldc2 (n := 11) hx hb hown K_124 (by decide) dX6_step_15 ?_
    refine z_callSi (As := [.long (lI t9), .long (lI 0), .long (lI 11)]) (rest := []) X hK hP hD hA hS hl.1 gX6_step_X6_in rfl ⟨rfl, rfl⟩ hd_X6_in ⟨Nat.le_of_ble_eq_true rfl, Nat.le_of_ble_eq_true rfl⟩ rfl (Nat.le_of_ble_eq_true rfl) ⟨Nat.zero_le _, Nat.zero_le _⟩ rfl dX6_step_18 (c_X6_in t9 0 11 (by omega)) (fun H locs hP hD hS => ?_)
    refine z_ifp_ne (tgt := 27) hx hb dX6_step_21 (by decide) (fun c_2 => ?_) (fun c_2 => ?_)
    · refine lv_iload_n hx hb dX6_step_27 rfl (lv_at hl 3 rfl) ?_
      refine z_i2l hx hb dX6_step_28 (by omega) ?_
      refine lv_lconst (v := lI (1)) hx hb dX6_step_29 (by decide) ?_
      refine z_ldc2 (n := 999) hx hb hown K_126 (by decide) dX6_step_30 ?_
      refine z_callSi (As := [.long (lI a9), .long (lI 1), .long (lI 999)]) (rest := []) X hK hP hD hA hS hl.1 gX6_step_X6_in rfl ⟨rfl, rfl⟩ hd_X6_in ⟨Nat.le_of_ble_eq_true rfl, Nat.le_of_ble_eq_true rfl⟩ rfl (Nat.le_of_ble_eq_true rfl) ⟨Nat.zero_le _, Nat.zero_le _⟩ rfl dX6_step_33 (c_X6_in a9 1 999 (by omega)) (fun H locs hP hD hS => ?_)
      refine z_ifp_eq (tgt := 60) hx hb dX6_step_36 (by decide) (fun c_3 => ?_) (fun c_3 => ?_)
      · exact absurd c_3 (by omega)
      · refine lv_iload hx hb dX6_step_39 (lv_at hl 4 rfl) ?_
        refine z_i2l hx hb dX6_step_41 (by omega) ?_
        refine lv_lconst (v := lI (1)) hx hb dX6_step_42 (by decide) ?_
        refine z_ldc2 (n := 999) hx hb hown K_126 (by decide) dX6_step_43 ?_
        refine z_callSi (As := [.long (lI b9), .long (lI 1), .long (lI 999)]) (rest := []) X hK hP hD hA hS hl.1 gX6_step_X6_in rfl ⟨rfl, rfl⟩ hd_X6_in ⟨Nat.le_of_ble_eq_true rfl, Nat.le_of_ble_eq_true rfl⟩ rfl (Nat.le_of_ble_eq_true rfl) ⟨Nat.zero_le _, Nat.zero_le _⟩ rfl dX6_step_46 (c_X6_in b9 1 999 (by omega)) (fun H locs hP hD hS => ?_)
        refine z_ifp_eq (tgt := 60) hx hb dX6_step_49 (by decide) (fun c_4 => ?_) (fun c_4 => ?_)
        · exact absurd c_4 (by omega)
        · refine lv_iload_n hx hb dX6_step_52 rfl (lv_at hl 3 rfl) ?_
          refine lv_iconst (v := iI (4)) hx hb dX6_step_53 rfl ?_
          refine lv_iload hx hb dX6_step_54 (lv_at hl 4 rfl) ?_
          refine z_imul hx hb dX6_step_56 ?_
          refine z_icmp_le (tgt := 63) hx hb dX6_step_57 (by decide) (by omega) (fun c_5 => ?_) (fun c_5 => ?_)
          · refine lv_aload_n hx hb dX6_step_63 rfl (lv_at hl 0 rfl) ?_
            refine va_get (D := D) (ci := 6) (v := .ref (q 5)) (C := RX6) (T := TX6) (N := 21) hx hb hts n_X6 hown hK hP 0 rfl rfl 6 (by decide) f_26 (fun _ h9 => h9) rfl dX6_step_64 ?_
            refine lv_bipush (v := iI (12)) hx hb dX6_step_67 (by decide) ?_
            refine lv_iload_n hx hb dX6_step_69 rfl (lv_at hl 1 rfl) ?_
            refine z_imul hx hb dX6_step_70 ?_
            refine lv_iload_n hx hb dX6_step_71 rfl (lv_at hl 2 rfl) ?_
            refine z_iadd hx hb dX6_step_72 ?_
            refine lv_iload_n hx hb dX6_step_73 rfl (lv_at hl 3 rfl) ?_
            refine z_iast (v := a9) hx hb hK hP hD hS 5 0 rfl rfl (by omega) dX6_step_74 (fun H locs hP hD hS => ?_)
            have hP : va_P D vwCl (wM q cy nK st le be te (uZ ab ((12 * s9) + t9) a9) bl ka bg ln ns me sc pi re bk 0 co bs gr lo) H := hP
            have hD : va_D A (wM q cy nK st le be te (uZ ab ((12 * s9) + t9) a9) bl ka bg ln ns me sc pi re bk 0 co bs gr lo) := hD
            refine lv_aload_n hx hb dX6_step_75 rfl (lv_at hl 0 rfl) ?_
            refine va_get (D := D) (ci := 6) (v := .ref (q 6)) (C := RX6) (T := TX6) (N := 21) hx hb hts n_X6 hown hK hP 0 rfl rfl 7 (by decide) f_29 (fun _ h9 => h9) rfl dX6_step_76 ?_
            refine lv_bipush (v := iI (12)) hx hb dX6_step_79 (by decide) ?_
            refine lv_iload_n hx hb dX6_step_81 rfl (lv_at hl 1 rfl) ?_
            refine z_imul hx hb dX6_step_82 ?_
            refine lv_iload_n hx hb dX6_step_83 rfl (lv_at hl 2 rfl) ?_
            refine z_iadd hx hb dX6_step_84 ?_
            refine lv_iload hx hb dX6_step_85 (lv_at hl 4 rfl) ?_
            refine z_iast (v := b9) hx hb hK hP hD hS 6 0 rfl rfl (by omega) dX6_step_87 (fun H locs hP hD hS => ?_)
            have hP : va_P D vwCl (wM q cy nK st le be te (uZ ab ((12 * s9) + t9) a9) (uZ bl ((12 * s9) + t9) b9) ka bg ln ns me sc pi re bk 0 co bs gr lo) H := hP
            have hD : va_D A (wM q cy nK st le be te (uZ ab ((12 * s9) + t9) a9) (uZ bl ((12 * s9) + t9) b9) ka bg ln ns me sc pi re bk 0 co bs gr lo) := hD
            refine lv_iconst (v := iI (1)) hx hb dX6_step_88 rfl ?_
            have hw9 : wM q cy nK st le be te (uZ ab ((12 * s9) + t9) a9) (uZ bl ((12 * s9) + t9) b9) ka bg ln ns me sc pi re bk 0 co bs gr lo = wM q cy nK st le be te (uZ ab (s9 * 12 + t9) a9) (uZ bl (s9 * 12 + t9) b9) ka bg ln ns me sc pi re bk 0 co bs gr lo := by rw [Int.mul_comm s9 12]
            rw [hw9] at hP hD
            exact z_iret X hK hP hD hS dX6_step_89 (by first | rfl | omega | grind)
          · exact absurd c_5 (by omega)
    · exact absurd c_2 (by omega)

set_option maxHeartbeats 4000000 in
set_option maxRecDepth 100000 in
theorem c_X6_step_no (I : okS nK st le be te ab bl ka bg ln ns me sc pi re bk) (s9 : Int) (t9 : Int) (a9 : Int) (b9 : Int) (h : -2147483648 ≤ s9 ∧ s9 ≤ 2147483647 ∧ -2147483648 ≤ t9 ∧ t9 ≤ 2147483647 ∧ -2147483648 ≤ a9 ∧ a9 ≤ 2147483647 ∧ -2147483648 ≤ b9 ∧ b9 ≤ 2147483647) (hno : ¬ (((0 ≤ s9 ∧ s9 ≤ 4) ∧ (0 ≤ t9 ∧ t9 ≤ 11)) ∧ (1 ≤ a9 ∧ a9 ≤ 999) ∧ (1 ≤ b9 ∧ b9 ≤ 999) ∧ a9 ≤ 4 * b9)) : MI l D cy yX6_step wsX6_step ({ frames := 2, cells := 0, slots := 0, locals := 45 } : Room) [.ref (q 0), .int (iI s9), .int (iI t9), .int (iI a9), .int (iI b9)] (wM q cy nK st le be te ab bl ka bg ln ns me sc pi re bk th co bs gr lo) (if (0 ≤ s9 ∧ s9 ≤ 4) ∧ (0 ≤ t9 ∧ t9 ≤ 11) then (-100002) else (-100001)) (wM q cy nK st le be te ab bl ka bg ln ns me sc pi re bk 0 co bs gr lo) := by
  refine MI.ofW (cc := cX6_step) (maxL := 5) (ret := (some .int)) (by decide) rfl (Nat.le_of_ble_eq_true rfl) ?_
  intro p e s m below meth c A ls X hK hP hD hA hS hl
  obtain ⟨hx, hb, hml, hr, hts, hown, hlocks⟩ := id X
  have hl : lv_has ls 5 [(0, .ref (q 0)), (1, .int (iI s9)), (2, .int (iI t9)), (3, .int (iI a9)), (4, .int (iI b9))] := hl
  have f_63 := hts (Cond.fieldLink RX6 63 "TwoKeysModel" "thrown" "I") (by decide +kernel)
  have k_86 := hts (Cond.constant RX6 86 (-100001)) (by decide +kernel)
  have K_124 := hts (Cond.constantLong RX6 124 (11)) (by decide +kernel)
  have K_126 := hts (Cond.constantLong RX6 126 (999)) (by decide +kernel)
  have k_78 := hts (Cond.constant RX6 78 (-100002)) (by decide +kernel)
  have n_X6 : ∀ w ∈ u_ws RX6 TX6 21, w ∈ wsX6_step := by decide +kernel
  have iK := I.nK
  refine lv_aload_n hx hb dX6_step_0 rfl (lv_at hl 0 rfl) ?_
  refine lv_iconst (v := iI (0)) hx hb dX6_step_1 rfl ?_
  refine va_put (D := D) (ci := 6) (v := .int (iI 0)) (ty := .int) (C := RX6) (T := TX6) (N := 21) hx hb hts n_X6 tyX6 tyX6_ok nmX6 hown hK hP hD hS 0 rfl rfl 0 (by decide) f_63 (fun _ h9 => h9) rfl (by decide +kernel) rfl rfl (Nat.le_of_ble_eq_true rfl) dX6_step_2 (fun H locs hP hD hS => ?_)
  have hP : va_P D vwCl (wM q cy nK st le be te ab bl ka bg ln ns me sc pi re bk 0 co bs gr lo) H := hP
  have hD : va_D A (wM q cy nK st le be te ab bl ka bg ln ns me sc pi re bk 0 co bs gr lo) := hD
  refine lv_iload_n hx hb dX6_step_5 rfl (lv_at hl 1 rfl) ?_
  refine z_callSi (As := [.int (iI s9)]) (rest := []) X hK hP hD hA hS hl.1 gX6_step_X6_noScale rfl ⟨rfl, rfl⟩ hd_X6_noScale ⟨Nat.le_of_ble_eq_true rfl, Nat.le_of_ble_eq_true rfl⟩ rfl (Nat.le_of_ble_eq_true rfl) ⟨Nat.zero_le _, Nat.zero_le _⟩ rfl dX6_step_6 (c_X6_noScale s9 (by omega)) (fun H locs hP hD hS => ?_)
  refine z_ifp_ne (tgt := 24) hx hb dX6_step_9 (by decide) (fun c_1 => ?_) (fun c_1 => ?_)
  · refine z_ldc (n := -100001) hx hb hown k_86 (by decide) dX6_step_24 ?_
    exact z_iret X hK hP hD hS dX6_step_26 (by (repeat' split) <;> first | rfl | omega)
  · refine lv_iload_n hx hb dX6_step_12 rfl (lv_at hl 2 rfl) ?_
    refine z_i2l hx hb dX6_step_13 (by omega) ?_
    refine lv_lconst (v := lI (0)) hx hb dX6_step_14 (by decide) ?_
    refine z_ldc2 (n := 11) hx hb hown K_124 (by decide) dX6_step_15 ?_
    refine z_callSi (As := [.long (lI t9), .long (lI 0), .long (lI 11)]) (rest := []) X hK hP hD hA hS hl.1 gX6_step_X6_in rfl ⟨rfl, rfl⟩ hd_X6_in ⟨Nat.le_of_ble_eq_true rfl, Nat.le_of_ble_eq_true rfl⟩ rfl (Nat.le_of_ble_eq_true rfl) ⟨Nat.zero_le _, Nat.zero_le _⟩ rfl dX6_step_18 (c_X6_in t9 0 11 (by omega)) (fun H locs hP hD hS => ?_)
    refine z_ifp_ne (tgt := 27) hx hb dX6_step_21 (by decide) (fun c_2 => ?_) (fun c_2 => ?_)
    · refine lv_iload_n hx hb dX6_step_27 rfl (lv_at hl 3 rfl) ?_
      refine z_i2l hx hb dX6_step_28 (by omega) ?_
      refine lv_lconst (v := lI (1)) hx hb dX6_step_29 (by decide) ?_
      refine z_ldc2 (n := 999) hx hb hown K_126 (by decide) dX6_step_30 ?_
      refine z_callSi (As := [.long (lI a9), .long (lI 1), .long (lI 999)]) (rest := []) X hK hP hD hA hS hl.1 gX6_step_X6_in rfl ⟨rfl, rfl⟩ hd_X6_in ⟨Nat.le_of_ble_eq_true rfl, Nat.le_of_ble_eq_true rfl⟩ rfl (Nat.le_of_ble_eq_true rfl) ⟨Nat.zero_le _, Nat.zero_le _⟩ rfl dX6_step_33 (c_X6_in a9 1 999 (by omega)) (fun H locs hP hD hS => ?_)
      refine z_ifp_eq (tgt := 60) hx hb dX6_step_36 (by decide) (fun c_3 => ?_) (fun c_3 => ?_)
      · refine z_ldc (n := -100002) hx hb hown k_78 (by decide) dX6_step_60 ?_
        exact z_iret X hK hP hD hS dX6_step_62 (by (repeat' split) <;> first | rfl | omega)
      · refine lv_iload hx hb dX6_step_39 (lv_at hl 4 rfl) ?_
        refine z_i2l hx hb dX6_step_41 (by omega) ?_
        refine lv_lconst (v := lI (1)) hx hb dX6_step_42 (by decide) ?_
        refine z_ldc2 (n := 999) hx hb hown K_126 (by decide) dX6_step_43 ?_
        refine z_callSi (As := [.long (lI b9), .long (lI 1), .long (lI 999)]) (rest := []) X hK hP hD hA hS hl.1 gX6_step_X6_in rfl ⟨rfl, rfl⟩ hd_X6_in ⟨Nat.le_of_ble_eq_true rfl, Nat.le_of_ble_eq_true rfl⟩ rfl (Nat.le_of_ble_eq_true rfl) ⟨Nat.zero_le _, Nat.zero_le _⟩ rfl dX6_step_46 (c_X6_in b9 1 999 (by omega)) (fun H locs hP hD hS => ?_)
        refine z_ifp_eq (tgt := 60) hx hb dX6_step_49 (by decide) (fun c_4 => ?_) (fun c_4 => ?_)
        · refine z_ldc (n := -100002) hx hb hown k_78 (by decide) dX6_step_60 ?_
          exact z_iret X hK hP hD hS dX6_step_62 (by (repeat' split) <;> first | rfl | omega)
        · refine lv_iload_n hx hb dX6_step_52 rfl (lv_at hl 3 rfl) ?_
          refine lv_iconst (v := iI (4)) hx hb dX6_step_53 rfl ?_
          refine lv_iload hx hb dX6_step_54 (lv_at hl 4 rfl) ?_
          refine z_imul hx hb dX6_step_56 ?_
          refine z_icmp_le (tgt := 63) hx hb dX6_step_57 (by decide) (by omega) (fun c_5 => ?_) (fun c_5 => ?_)
          · exact absurd c_5 (by omega)
          · refine z_ldc (n := -100002) hx hb hown k_78 (by decide) dX6_step_60 ?_
            exact z_iret X hK hP hD hS dX6_step_62 (by (repeat' split) <;> first | rfl | omega)
    · refine z_ldc (n := -100001) hx hb hown k_86 (by decide) dX6_step_24 ?_
      exact z_iret X hK hP hD hS dX6_step_26 (by (repeat' split) <;> first | rfl | omega)

theorem hd_X6_share : yX6_share.cls = RX6 ∧ yX6_share.cls ≠ "java/lang/invoke/MethodHandle" ∧ yX6_share.cls ≠ "java/lang/invoke/VarHandle" ∧ (parseMethodDescriptor yX6_share.desc).map (fun d => d.parameters.length) = some 3 := by decide +kernel
set_option maxHeartbeats 4000000 in
set_option maxRecDepth 100000 in
theorem c_X6_share (I : okS nK st le be te ab bl ka bg ln ns me sc pi re bk) (s9 : Int) (t9 : Int) (up : Bool) (h : -2147483648 ≤ s9 ∧ s9 ≤ 2147483647 ∧ -2147483648 ≤ t9 ∧ t9 ≤ 2147483647) : MI l D cy yX6_share wsX6_share ({ frames := 2, cells := 0, slots := 0, locals := 45 } : Room) [.ref (q 0), .int (iI s9), .int (iI t9), .int (iI (bZ up))] (wM q cy nK st le be te ab bl ka bg ln ns me sc pi re bk th co bs gr lo) (if (0 ≤ s9 ∧ s9 ≤ 4) ∧ (0 ≤ t9 ∧ t9 ≤ 11) then (if up = true then ab (s9 * 12 + t9) else bl (s9 * 12 + t9)) else (-100001)) (wM q cy nK st le be te ab bl ka bg ln ns me sc pi re bk 0 co bs gr lo) := by
  refine MI.ofW (cc := cX6_share) (maxL := 4) (ret := (some .int)) (by decide) rfl (Nat.le_of_ble_eq_true rfl) ?_
  intro p e s m below meth c A ls X hK hP hD hA hS hl
  obtain ⟨hx, hb, hml, hr, hts, hown, hlocks⟩ := id X
  have hl : lv_has ls 4 [(0, .ref (q 0)), (1, .int (iI s9)), (2, .int (iI t9)), (3, .int (iI (bZ up)))] := hl
  have f_63 := hts (Cond.fieldLink RX6 63 "TwoKeysModel" "thrown" "I") (by decide +kernel)
  have k_86 := hts (Cond.constant RX6 86 (-100001)) (by decide +kernel)
  have K_124 := hts (Cond.constantLong RX6 124 (11)) (by decide +kernel)
  have f_29 := hts (Cond.fieldLink RX6 29 "TwoKeysModel" "below" "[I") (by decide +kernel)
  have f_26 := hts (Cond.fieldLink RX6 26 "TwoKeysModel" "above" "[I") (by decide +kernel)
  have n_X6 : ∀ w ∈ u_ws RX6 TX6 21, w ∈ wsX6_share := by decide +kernel
  have iK := I.nK
  refine lv_aload_n hx hb dX6_share_0 rfl (lv_at hl 0 rfl) ?_
  refine lv_iconst (v := iI (0)) hx hb dX6_share_1 rfl ?_
  refine va_put (D := D) (ci := 6) (v := .int (iI 0)) (ty := .int) (C := RX6) (T := TX6) (N := 21) hx hb hts n_X6 tyX6 tyX6_ok nmX6 hown hK hP hD hS 0 rfl rfl 0 (by decide) f_63 (fun _ h9 => h9) rfl (by decide +kernel) rfl rfl (Nat.le_of_ble_eq_true rfl) dX6_share_2 (fun H locs hP hD hS => ?_)
  have hP : va_P D vwCl (wM q cy nK st le be te ab bl ka bg ln ns me sc pi re bk 0 co bs gr lo) H := hP
  have hD : va_D A (wM q cy nK st le be te ab bl ka bg ln ns me sc pi re bk 0 co bs gr lo) := hD
  refine lv_iload_n hx hb dX6_share_5 rfl (lv_at hl 1 rfl) ?_
  refine z_callSi (As := [.int (iI s9)]) (rest := []) X hK hP hD hA hS hl.1 gX6_share_X6_noScale rfl ⟨rfl, rfl⟩ hd_X6_noScale ⟨Nat.le_of_ble_eq_true rfl, Nat.le_of_ble_eq_true rfl⟩ rfl (Nat.le_of_ble_eq_true rfl) ⟨Nat.zero_le _, Nat.zero_le _⟩ rfl dX6_share_6 (c_X6_noScale s9 (by omega)) (fun H locs hP hD hS => ?_)
  refine z_ifp_ne (tgt := 24) hx hb dX6_share_9 (by decide) (fun c_1 => ?_) (fun c_1 => ?_)
  · refine z_ldc (n := -100001) hx hb hown k_86 (by decide) dX6_share_24 ?_
    refine lv_goto (tgt := 58) hx hb dX6_share_26 (by decide) ?_
    exact z_iret X hK hP hD hS dX6_share_58 (by rw [Int.mul_comm s9 12]; first | (rw [if_pos (by omega), if_pos (by assumption)]; done) | (rw [if_pos (by omega), if_neg (by simp_all)]; done) | rw [if_neg (by omega)])
  · refine lv_iload_n hx hb dX6_share_12 rfl (lv_at hl 2 rfl) ?_
    refine z_i2l hx hb dX6_share_13 (by omega) ?_
    refine lv_lconst (v := lI (0)) hx hb dX6_share_14 (by decide) ?_
    refine z_ldc2 (n := 11) hx hb hown K_124 (by decide) dX6_share_15 ?_
    refine z_callSi (As := [.long (lI t9), .long (lI 0), .long (lI 11)]) (rest := []) X hK hP hD hA hS hl.1 gX6_share_X6_in rfl ⟨rfl, rfl⟩ hd_X6_in ⟨Nat.le_of_ble_eq_true rfl, Nat.le_of_ble_eq_true rfl⟩ rfl (Nat.le_of_ble_eq_true rfl) ⟨Nat.zero_le _, Nat.zero_le _⟩ rfl dX6_share_18 (c_X6_in t9 0 11 (by omega)) (fun H locs hP hD hS => ?_)
    refine z_ifp_ne (tgt := 29) hx hb dX6_share_21 (by decide) (fun c_2 => ?_) (fun c_2 => ?_)
    · refine lv_iload_n hx hb dX6_share_29 rfl (lv_at hl 3 rfl) ?_
      refine z_ifb_eq (tgt := 47) hx hb dX6_share_30 (by decide) (fun c_3 => ?_) (fun c_3 => ?_)
      · refine lv_aload_n hx hb dX6_share_47 rfl (lv_at hl 0 rfl) ?_
        refine va_get (D := D) (ci := 6) (v := .ref (q 6)) (C := RX6) (T := TX6) (N := 21) hx hb hts n_X6 hown hK hP 0 rfl rfl 7 (by decide) f_29 (fun _ h9 => h9) rfl dX6_share_48 ?_
        refine lv_bipush (v := iI (12)) hx hb dX6_share_51 (by decide) ?_
        refine lv_iload_n hx hb dX6_share_53 rfl (lv_at hl 1 rfl) ?_
        refine z_imul hx hb dX6_share_54 ?_
        refine lv_iload_n hx hb dX6_share_55 rfl (lv_at hl 2 rfl) ?_
        refine z_iadd hx hb dX6_share_56 ?_
        refine z_iald hx hb hK hP 6 0 rfl rfl (by omega) dX6_share_57 ?_
        have b_4 := I.bl ((12 * s9) + t9)
        exact z_iret X hK hP hD hS dX6_share_58 (by rw [Int.mul_comm s9 12]; first | (rw [if_pos (by omega), if_pos (by assumption)]; done) | (rw [if_pos (by omega), if_neg (by simp_all)]; done) | rw [if_neg (by omega)])
      · refine lv_aload_n hx hb dX6_share_33 rfl (lv_at hl 0 rfl) ?_
        refine va_get (D := D) (ci := 6) (v := .ref (q 5)) (C := RX6) (T := TX6) (N := 21) hx hb hts n_X6 hown hK hP 0 rfl rfl 6 (by decide) f_26 (fun _ h9 => h9) rfl dX6_share_34 ?_
        refine lv_bipush (v := iI (12)) hx hb dX6_share_37 (by decide) ?_
        refine lv_iload_n hx hb dX6_share_39 rfl (lv_at hl 1 rfl) ?_
        refine z_imul hx hb dX6_share_40 ?_
        refine lv_iload_n hx hb dX6_share_41 rfl (lv_at hl 2 rfl) ?_
        refine z_iadd hx hb dX6_share_42 ?_
        refine z_iald hx hb hK hP 5 0 rfl rfl (by omega) dX6_share_43 ?_
        have b_5 := I.ab ((12 * s9) + t9)
        refine lv_goto (tgt := 58) hx hb dX6_share_44 (by decide) ?_
        exact z_iret X hK hP hD hS dX6_share_58 (by rw [Int.mul_comm s9 12]; first | (rw [if_pos (by omega), if_pos (by assumption)]; done) | (rw [if_pos (by omega), if_neg (by simp_all)]; done) | rw [if_neg (by omega)])
    · refine z_ldc (n := -100001) hx hb hown k_86 (by decide) dX6_share_24 ?_
      refine lv_goto (tgt := 58) hx hb dX6_share_26 (by decide) ?_
      exact z_iret X hK hP hD hS dX6_share_58 (by rw [Int.mul_comm s9 12]; first | (rw [if_pos (by omega), if_pos (by assumption)]; done) | (rw [if_pos (by omega), if_neg (by simp_all)]; done) | rw [if_neg (by omega)])

theorem hd_X6_use : yX6_use.cls = RX6 ∧ yX6_use.cls ≠ "java/lang/invoke/MethodHandle" ∧ yX6_use.cls ≠ "java/lang/invoke/VarHandle" ∧ (parseMethodDescriptor yX6_use.desc).map (fun d => d.parameters.length) = some 1 := by decide +kernel
set_option maxHeartbeats 4000000 in
set_option maxRecDepth 100000 in
theorem c_X6_use_ok (I : okS nK st le be te ab bl ka bg ln ns me sc pi re bk) (s9 : Int) (h : -2147483648 ≤ s9 ∧ s9 ≤ 2147483647) (hok : 0 ≤ s9 ∧ s9 ≤ 4) : MI l D cy yX6_use wsX6_use ({ frames := 2, cells := 0, slots := 0, locals := 45 } : Room) [.ref (q 0), .int (iI s9)] (wM q cy nK st le be te ab bl ka bg ln ns me sc pi re bk th co bs gr lo) sc (wM q cy nK st le be te ab bl ka bg ln ns me s9 pi re bk 0 co bs gr lo) := by
  refine MI.ofW (cc := cX6_use) (maxL := 3) (ret := (some .int)) (by decide) rfl (Nat.le_of_ble_eq_true rfl) ?_
  intro p e s m below meth c A ls X hK hP hD hA hS hl
  obtain ⟨hx, hb, hml, hr, hts, hown, hlocks⟩ := id X
  have hl : lv_has ls 3 [(0, .ref (q 0)), (1, .int (iI s9))] := hl
  have f_63 := hts (Cond.fieldLink RX6 63 "TwoKeysModel" "thrown" "I") (by decide +kernel)
  have f_106 := hts (Cond.fieldLink RX6 106 "TwoKeysModel" "scale" "I") (by decide +kernel)
  have n_X6 : ∀ w ∈ u_ws RX6 TX6 21, w ∈ wsX6_use := by decide +kernel
  have iK := I.nK
  refine lv_aload_n hx hb dX6_use_0 rfl (lv_at hl 0 rfl) ?_
  refine lv_iconst (v := iI (0)) hx hb dX6_use_1 rfl ?_
  refine va_put (D := D) (ci := 6) (v := .int (iI 0)) (ty := .int) (C := RX6) (T := TX6) (N := 21) hx hb hts n_X6 tyX6 tyX6_ok nmX6 hown hK hP hD hS 0 rfl rfl 0 (by decide) f_63 (fun _ h9 => h9) rfl (by decide +kernel) rfl rfl (Nat.le_of_ble_eq_true rfl) dX6_use_2 (fun H locs hP hD hS => ?_)
  have hP : va_P D vwCl (wM q cy nK st le be te ab bl ka bg ln ns me sc pi re bk 0 co bs gr lo) H := hP
  have hD : va_D A (wM q cy nK st le be te ab bl ka bg ln ns me sc pi re bk 0 co bs gr lo) := hD
  refine lv_iload_n hx hb dX6_use_5 rfl (lv_at hl 1 rfl) ?_
  refine z_callSi (As := [.int (iI s9)]) (rest := []) X hK hP hD hA hS hl.1 gX6_use_X6_noScale rfl ⟨rfl, rfl⟩ hd_X6_noScale ⟨Nat.le_of_ble_eq_true rfl, Nat.le_of_ble_eq_true rfl⟩ rfl (Nat.le_of_ble_eq_true rfl) ⟨Nat.zero_le _, Nat.zero_le _⟩ rfl dX6_use_6 (c_X6_noScale s9 (by omega)) (fun H locs hP hD hS => ?_)
  refine z_ifp_eq (tgt := 15) hx hb dX6_use_9 (by decide) (fun c_1 => ?_) (fun c_1 => ?_)
  · refine lv_aload_n hx hb dX6_use_15 rfl (lv_at hl 0 rfl) ?_
    refine va_get (D := D) (ci := 6) (v := .int (iI sc)) (C := RX6) (T := TX6) (N := 21) hx hb hts n_X6 hown hK hP 0 rfl rfl 8 (by decide) f_106 (fun _ h9 => h9) rfl dX6_use_16 ?_
    refine lv_istore_n (lv' := [(2, .int (iI sc)), (0, .ref (q 0)), (1, .int (iI s9))]) hx hb dX6_use_19 rfl hl (by decide) rfl (fun ls hl => ?_)
    refine lv_aload_n hx hb dX6_use_20 rfl (lv_at hl 1 rfl) ?_
    refine lv_iload_n hx hb dX6_use_21 rfl (lv_at hl 2 rfl) ?_
    refine va_put (D := D) (ci := 6) (v := .int (iI s9)) (ty := .int) (C := RX6) (T := TX6) (N := 21) hx hb hts n_X6 tyX6 tyX6_ok nmX6 hown hK hP hD hS 0 rfl rfl 8 (by decide) f_106 (fun _ h9 => h9) rfl (by decide +kernel) rfl rfl (Nat.le_of_ble_eq_true rfl) dX6_use_22 (fun H locs hP hD hS => ?_)
    have hP : va_P D vwCl (wM q cy nK st le be te ab bl ka bg ln ns me s9 pi re bk 0 co bs gr lo) H := hP
    have hD : va_D A (wM q cy nK st le be te ab bl ka bg ln ns me s9 pi re bk 0 co bs gr lo) := hD
    refine lv_iload_n hx hb dX6_use_25 rfl (lv_at hl 0 rfl) ?_
    exact z_iret X hK hP hD hS dX6_use_26 (by first | rfl | omega | grind)
  · exact absurd c_1 (by omega)

set_option maxHeartbeats 4000000 in
set_option maxRecDepth 100000 in
theorem c_X6_use_no (I : okS nK st le be te ab bl ka bg ln ns me sc pi re bk) (s9 : Int) (h : -2147483648 ≤ s9 ∧ s9 ≤ 2147483647) (hno : ¬ (0 ≤ s9 ∧ s9 ≤ 4)) : MI l D cy yX6_use wsX6_use ({ frames := 2, cells := 0, slots := 0, locals := 45 } : Room) [.ref (q 0), .int (iI s9)] (wM q cy nK st le be te ab bl ka bg ln ns me sc pi re bk th co bs gr lo) (-100001) (wM q cy nK st le be te ab bl ka bg ln ns me sc pi re bk 0 co bs gr lo) := by
  refine MI.ofW (cc := cX6_use) (maxL := 3) (ret := (some .int)) (by decide) rfl (Nat.le_of_ble_eq_true rfl) ?_
  intro p e s m below meth c A ls X hK hP hD hA hS hl
  obtain ⟨hx, hb, hml, hr, hts, hown, hlocks⟩ := id X
  have hl : lv_has ls 3 [(0, .ref (q 0)), (1, .int (iI s9))] := hl
  have f_63 := hts (Cond.fieldLink RX6 63 "TwoKeysModel" "thrown" "I") (by decide +kernel)
  have k_86 := hts (Cond.constant RX6 86 (-100001)) (by decide +kernel)
  have n_X6 : ∀ w ∈ u_ws RX6 TX6 21, w ∈ wsX6_use := by decide +kernel
  have iK := I.nK
  refine lv_aload_n hx hb dX6_use_0 rfl (lv_at hl 0 rfl) ?_
  refine lv_iconst (v := iI (0)) hx hb dX6_use_1 rfl ?_
  refine va_put (D := D) (ci := 6) (v := .int (iI 0)) (ty := .int) (C := RX6) (T := TX6) (N := 21) hx hb hts n_X6 tyX6 tyX6_ok nmX6 hown hK hP hD hS 0 rfl rfl 0 (by decide) f_63 (fun _ h9 => h9) rfl (by decide +kernel) rfl rfl (Nat.le_of_ble_eq_true rfl) dX6_use_2 (fun H locs hP hD hS => ?_)
  have hP : va_P D vwCl (wM q cy nK st le be te ab bl ka bg ln ns me sc pi re bk 0 co bs gr lo) H := hP
  have hD : va_D A (wM q cy nK st le be te ab bl ka bg ln ns me sc pi re bk 0 co bs gr lo) := hD
  refine lv_iload_n hx hb dX6_use_5 rfl (lv_at hl 1 rfl) ?_
  refine z_callSi (As := [.int (iI s9)]) (rest := []) X hK hP hD hA hS hl.1 gX6_use_X6_noScale rfl ⟨rfl, rfl⟩ hd_X6_noScale ⟨Nat.le_of_ble_eq_true rfl, Nat.le_of_ble_eq_true rfl⟩ rfl (Nat.le_of_ble_eq_true rfl) ⟨Nat.zero_le _, Nat.zero_le _⟩ rfl dX6_use_6 (c_X6_noScale s9 (by omega)) (fun H locs hP hD hS => ?_)
  refine z_ifp_eq (tgt := 15) hx hb dX6_use_9 (by decide) (fun c_1 => ?_) (fun c_1 => ?_)
  · exact absurd c_1 (by omega)
  · refine z_ldc (n := -100001) hx hb hown k_86 (by decide) dX6_use_12 ?_
    exact z_iret X hK hP hD hS dX6_use_14 (by (repeat' split) <;> first | rfl | omega)

theorem hd_X6_pitch : yX6_pitch.cls = RX6 ∧ yX6_pitch.cls ≠ "java/lang/invoke/MethodHandle" ∧ yX6_pitch.cls ≠ "java/lang/invoke/VarHandle" ∧ (parseMethodDescriptor yX6_pitch.desc).map (fun d => d.parameters.length) = some 1 := by decide +kernel
set_option maxHeartbeats 4000000 in
set_option maxRecDepth 100000 in
theorem c_X6_pitch_ok (I : okS nK st le be te ab bl ka bg ln ns me sc pi re bk) (v : Int) (h : -2147483648 ≤ v ∧ v ≤ 2147483647) (hok : 1000 ≤ v ∧ v ≤ 200000) : MI l D cy yX6_pitch wsX6_pitch ({ frames := 1, cells := 0, slots := 0, locals := 25 } : Room) [.ref (q 0), .int (iI v)] (wM q cy nK st le be te ab bl ka bg ln ns me sc pi re bk th co bs gr lo) pi (wM q cy nK st le be te ab bl ka bg ln ns me sc v re bk 0 co bs gr lo) := by
  refine MI.ofW (cc := cX6_pitch) (maxL := 3) (ret := (some .int)) (by decide) rfl (Nat.le_of_ble_eq_true rfl) ?_
  intro p e s m below meth c A ls X hK hP hD hA hS hl
  obtain ⟨hx, hb, hml, hr, hts, hown, hlocks⟩ := id X
  have hl : lv_has ls 3 [(0, .ref (q 0)), (1, .int (iI v))] := hl
  have f_63 := hts (Cond.fieldLink RX6 63 "TwoKeysModel" "thrown" "I") (by decide +kernel)
  have K_128 := hts (Cond.constantLong RX6 128 (1000)) (by decide +kernel)
  have K_130 := hts (Cond.constantLong RX6 130 (200000)) (by decide +kernel)
  have f_32 := hts (Cond.fieldLink RX6 32 "TwoKeysModel" "pitch" "I") (by decide +kernel)
  have n_X6 : ∀ w ∈ u_ws RX6 TX6 21, w ∈ wsX6_pitch := by decide +kernel
  have iK := I.nK
  refine lv_aload_n hx hb dX6_pitch_0 rfl (lv_at hl 0 rfl) ?_
  refine lv_iconst (v := iI (0)) hx hb dX6_pitch_1 rfl ?_
  refine va_put (D := D) (ci := 6) (v := .int (iI 0)) (ty := .int) (C := RX6) (T := TX6) (N := 21) hx hb hts n_X6 tyX6 tyX6_ok nmX6 hown hK hP hD hS 0 rfl rfl 0 (by decide) f_63 (fun _ h9 => h9) rfl (by decide +kernel) rfl rfl (Nat.le_of_ble_eq_true rfl) dX6_pitch_2 (fun H locs hP hD hS => ?_)
  have hP : va_P D vwCl (wM q cy nK st le be te ab bl ka bg ln ns me sc pi re bk 0 co bs gr lo) H := hP
  have hD : va_D A (wM q cy nK st le be te ab bl ka bg ln ns me sc pi re bk 0 co bs gr lo) := hD
  refine lv_iload_n hx hb dX6_pitch_5 rfl (lv_at hl 1 rfl) ?_
  refine z_i2l hx hb dX6_pitch_6 (by omega) ?_
  refine z_ldc2 (n := 1000) hx hb hown K_128 (by decide) dX6_pitch_7 ?_
  refine z_ldc2 (n := 200000) hx hb hown K_130 (by decide) dX6_pitch_10 ?_
  refine z_callSi (As := [.long (lI v), .long (lI 1000), .long (lI 200000)]) (rest := []) X hK hP hD hA hS hl.1 gX6_pitch_X6_in rfl ⟨rfl, rfl⟩ hd_X6_in ⟨Nat.le_of_ble_eq_true rfl, Nat.le_of_ble_eq_true rfl⟩ rfl (Nat.le_of_ble_eq_true rfl) ⟨Nat.zero_le _, Nat.zero_le _⟩ rfl dX6_pitch_13 (c_X6_in v 1000 200000 (by omega)) (fun H locs hP hD hS => ?_)
  refine z_ifp_ne (tgt := 22) hx hb dX6_pitch_16 (by decide) (fun c_1 => ?_) (fun c_1 => ?_)
  · refine lv_aload_n hx hb dX6_pitch_22 rfl (lv_at hl 0 rfl) ?_
    refine va_get (D := D) (ci := 6) (v := .int (iI pi)) (C := RX6) (T := TX6) (N := 21) hx hb hts n_X6 hown hK hP 0 rfl rfl 9 (by decide) f_32 (fun _ h9 => h9) rfl dX6_pitch_23 ?_
    refine lv_istore_n (lv' := [(2, .int (iI pi)), (0, .ref (q 0)), (1, .int (iI v))]) hx hb dX6_pitch_26 rfl hl (by decide) rfl (fun ls hl => ?_)
    refine lv_aload_n hx hb dX6_pitch_27 rfl (lv_at hl 1 rfl) ?_
    refine lv_iload_n hx hb dX6_pitch_28 rfl (lv_at hl 2 rfl) ?_
    refine va_put (D := D) (ci := 6) (v := .int (iI v)) (ty := .int) (C := RX6) (T := TX6) (N := 21) hx hb hts n_X6 tyX6 tyX6_ok nmX6 hown hK hP hD hS 0 rfl rfl 9 (by decide) f_32 (fun _ h9 => h9) rfl (by decide +kernel) rfl rfl (Nat.le_of_ble_eq_true rfl) dX6_pitch_29 (fun H locs hP hD hS => ?_)
    have hP : va_P D vwCl (wM q cy nK st le be te ab bl ka bg ln ns me sc v re bk 0 co bs gr lo) H := hP
    have hD : va_D A (wM q cy nK st le be te ab bl ka bg ln ns me sc v re bk 0 co bs gr lo) := hD
    refine lv_iload_n hx hb dX6_pitch_32 rfl (lv_at hl 0 rfl) ?_
    exact z_iret X hK hP hD hS dX6_pitch_33 (by first | rfl | omega | grind)
  · exact absurd c_1 (by omega)

set_option maxHeartbeats 4000000 in
set_option maxRecDepth 100000 in
theorem c_X6_pitch_no (I : okS nK st le be te ab bl ka bg ln ns me sc pi re bk) (v : Int) (h : -2147483648 ≤ v ∧ v ≤ 2147483647) (hno : ¬ (1000 ≤ v ∧ v ≤ 200000)) : MI l D cy yX6_pitch wsX6_pitch ({ frames := 1, cells := 0, slots := 0, locals := 25 } : Room) [.ref (q 0), .int (iI v)] (wM q cy nK st le be te ab bl ka bg ln ns me sc pi re bk th co bs gr lo) (-100002) (wM q cy nK st le be te ab bl ka bg ln ns me sc pi re bk 0 co bs gr lo) := by
  refine MI.ofW (cc := cX6_pitch) (maxL := 3) (ret := (some .int)) (by decide) rfl (Nat.le_of_ble_eq_true rfl) ?_
  intro p e s m below meth c A ls X hK hP hD hA hS hl
  obtain ⟨hx, hb, hml, hr, hts, hown, hlocks⟩ := id X
  have hl : lv_has ls 3 [(0, .ref (q 0)), (1, .int (iI v))] := hl
  have f_63 := hts (Cond.fieldLink RX6 63 "TwoKeysModel" "thrown" "I") (by decide +kernel)
  have K_128 := hts (Cond.constantLong RX6 128 (1000)) (by decide +kernel)
  have K_130 := hts (Cond.constantLong RX6 130 (200000)) (by decide +kernel)
  have k_78 := hts (Cond.constant RX6 78 (-100002)) (by decide +kernel)
  have n_X6 : ∀ w ∈ u_ws RX6 TX6 21, w ∈ wsX6_pitch := by decide +kernel
  have iK := I.nK
  refine lv_aload_n hx hb dX6_pitch_0 rfl (lv_at hl 0 rfl) ?_
  refine lv_iconst (v := iI (0)) hx hb dX6_pitch_1 rfl ?_
  refine va_put (D := D) (ci := 6) (v := .int (iI 0)) (ty := .int) (C := RX6) (T := TX6) (N := 21) hx hb hts n_X6 tyX6 tyX6_ok nmX6 hown hK hP hD hS 0 rfl rfl 0 (by decide) f_63 (fun _ h9 => h9) rfl (by decide +kernel) rfl rfl (Nat.le_of_ble_eq_true rfl) dX6_pitch_2 (fun H locs hP hD hS => ?_)
  have hP : va_P D vwCl (wM q cy nK st le be te ab bl ka bg ln ns me sc pi re bk 0 co bs gr lo) H := hP
  have hD : va_D A (wM q cy nK st le be te ab bl ka bg ln ns me sc pi re bk 0 co bs gr lo) := hD
  refine lv_iload_n hx hb dX6_pitch_5 rfl (lv_at hl 1 rfl) ?_
  refine z_i2l hx hb dX6_pitch_6 (by omega) ?_
  refine z_ldc2 (n := 1000) hx hb hown K_128 (by decide) dX6_pitch_7 ?_
  refine z_ldc2 (n := 200000) hx hb hown K_130 (by decide) dX6_pitch_10 ?_
  refine z_callSi (As := [.long (lI v), .long (lI 1000), .long (lI 200000)]) (rest := []) X hK hP hD hA hS hl.1 gX6_pitch_X6_in rfl ⟨rfl, rfl⟩ hd_X6_in ⟨Nat.le_of_ble_eq_true rfl, Nat.le_of_ble_eq_true rfl⟩ rfl (Nat.le_of_ble_eq_true rfl) ⟨Nat.zero_le _, Nat.zero_le _⟩ rfl dX6_pitch_13 (c_X6_in v 1000 200000 (by omega)) (fun H locs hP hD hS => ?_)
  refine z_ifp_ne (tgt := 22) hx hb dX6_pitch_16 (by decide) (fun c_1 => ?_) (fun c_1 => ?_)
  · exact absurd c_1 (by omega)
  · refine z_ldc (n := -100002) hx hb hown k_78 (by decide) dX6_pitch_19 ?_
    exact z_iret X hK hP hD hS dX6_pitch_21 (by (repeat' split) <;> first | rfl | omega)

theorem hd_X6_rest : yX6_rest.cls = RX6 ∧ yX6_rest.cls ≠ "java/lang/invoke/MethodHandle" ∧ yX6_rest.cls ≠ "java/lang/invoke/VarHandle" ∧ (parseMethodDescriptor yX6_rest.desc).map (fun d => d.parameters.length) = some 1 := by decide +kernel
set_option maxHeartbeats 4000000 in
set_option maxRecDepth 100000 in
theorem c_X6_rest_ok (I : okS nK st le be te ab bl ka bg ln ns me sc pi re bk) (g : Int) (h : -2147483648 ≤ g ∧ g ≤ 2147483647) (hok : 0 ≤ g ∧ g ≤ 20) : MI l D cy yX6_rest wsX6_rest ({ frames := 1, cells := 0, slots := 0, locals := 25 } : Room) [.ref (q 0), .int (iI g)] (wM q cy nK st le be te ab bl ka bg ln ns me sc pi re bk th co bs gr lo) re (wM q cy nK st le be te ab bl ka bg ln ns me sc pi g bk 0 co bs gr lo) := by
  refine MI.ofW (cc := cX6_rest) (maxL := 3) (ret := (some .int)) (by decide) rfl (Nat.le_of_ble_eq_true rfl) ?_
  intro p e s m below meth c A ls X hK hP hD hA hS hl
  obtain ⟨hx, hb, hml, hr, hts, hown, hlocks⟩ := id X
  have hl : lv_has ls 3 [(0, .ref (q 0)), (1, .int (iI g))] := hl
  have f_63 := hts (Cond.fieldLink RX6 63 "TwoKeysModel" "thrown" "I") (by decide +kernel)
  have K_116 := hts (Cond.constantLong RX6 116 (20)) (by decide +kernel)
  have f_47 := hts (Cond.fieldLink RX6 47 "TwoKeysModel" "rest" "I") (by decide +kernel)
  have n_X6 : ∀ w ∈ u_ws RX6 TX6 21, w ∈ wsX6_rest := by decide +kernel
  have iK := I.nK
  refine lv_aload_n hx hb dX6_rest_0 rfl (lv_at hl 0 rfl) ?_
  refine lv_iconst (v := iI (0)) hx hb dX6_rest_1 rfl ?_
  refine va_put (D := D) (ci := 6) (v := .int (iI 0)) (ty := .int) (C := RX6) (T := TX6) (N := 21) hx hb hts n_X6 tyX6 tyX6_ok nmX6 hown hK hP hD hS 0 rfl rfl 0 (by decide) f_63 (fun _ h9 => h9) rfl (by decide +kernel) rfl rfl (Nat.le_of_ble_eq_true rfl) dX6_rest_2 (fun H locs hP hD hS => ?_)
  have hP : va_P D vwCl (wM q cy nK st le be te ab bl ka bg ln ns me sc pi re bk 0 co bs gr lo) H := hP
  have hD : va_D A (wM q cy nK st le be te ab bl ka bg ln ns me sc pi re bk 0 co bs gr lo) := hD
  refine lv_iload_n hx hb dX6_rest_5 rfl (lv_at hl 1 rfl) ?_
  refine z_i2l hx hb dX6_rest_6 (by omega) ?_
  refine lv_lconst (v := lI (0)) hx hb dX6_rest_7 (by decide) ?_
  refine z_ldc2 (n := 20) hx hb hown K_116 (by decide) dX6_rest_8 ?_
  refine z_callSi (As := [.long (lI g), .long (lI 0), .long (lI 20)]) (rest := []) X hK hP hD hA hS hl.1 gX6_rest_X6_in rfl ⟨rfl, rfl⟩ hd_X6_in ⟨Nat.le_of_ble_eq_true rfl, Nat.le_of_ble_eq_true rfl⟩ rfl (Nat.le_of_ble_eq_true rfl) ⟨Nat.zero_le _, Nat.zero_le _⟩ rfl dX6_rest_11 (c_X6_in g 0 20 (by omega)) (fun H locs hP hD hS => ?_)
  refine z_ifp_ne (tgt := 20) hx hb dX6_rest_14 (by decide) (fun c_1 => ?_) (fun c_1 => ?_)
  · refine lv_aload_n hx hb dX6_rest_20 rfl (lv_at hl 0 rfl) ?_
    refine va_get (D := D) (ci := 6) (v := .int (iI re)) (C := RX6) (T := TX6) (N := 21) hx hb hts n_X6 hown hK hP 0 rfl rfl 14 (by decide) f_47 (fun _ h9 => h9) rfl dX6_rest_21 ?_
    refine lv_istore_n (lv' := [(2, .int (iI re)), (0, .ref (q 0)), (1, .int (iI g))]) hx hb dX6_rest_24 rfl hl (by decide) rfl (fun ls hl => ?_)
    refine lv_aload_n hx hb dX6_rest_25 rfl (lv_at hl 1 rfl) ?_
    refine lv_iload_n hx hb dX6_rest_26 rfl (lv_at hl 2 rfl) ?_
    refine va_put (D := D) (ci := 6) (v := .int (iI g)) (ty := .int) (C := RX6) (T := TX6) (N := 21) hx hb hts n_X6 tyX6 tyX6_ok nmX6 hown hK hP hD hS 0 rfl rfl 14 (by decide) f_47 (fun _ h9 => h9) rfl (by decide +kernel) rfl rfl (Nat.le_of_ble_eq_true rfl) dX6_rest_27 (fun H locs hP hD hS => ?_)
    have hP : va_P D vwCl (wM q cy nK st le be te ab bl ka bg ln ns me sc pi g bk 0 co bs gr lo) H := hP
    have hD : va_D A (wM q cy nK st le be te ab bl ka bg ln ns me sc pi g bk 0 co bs gr lo) := hD
    refine lv_iload_n hx hb dX6_rest_30 rfl (lv_at hl 0 rfl) ?_
    exact z_iret X hK hP hD hS dX6_rest_31 (by first | rfl | omega | grind)
  · exact absurd c_1 (by omega)

set_option maxHeartbeats 4000000 in
set_option maxRecDepth 100000 in
theorem c_X6_rest_no (I : okS nK st le be te ab bl ka bg ln ns me sc pi re bk) (g : Int) (h : -2147483648 ≤ g ∧ g ≤ 2147483647) (hno : ¬ (0 ≤ g ∧ g ≤ 20)) : MI l D cy yX6_rest wsX6_rest ({ frames := 1, cells := 0, slots := 0, locals := 25 } : Room) [.ref (q 0), .int (iI g)] (wM q cy nK st le be te ab bl ka bg ln ns me sc pi re bk th co bs gr lo) (-100002) (wM q cy nK st le be te ab bl ka bg ln ns me sc pi re bk 0 co bs gr lo) := by
  refine MI.ofW (cc := cX6_rest) (maxL := 3) (ret := (some .int)) (by decide) rfl (Nat.le_of_ble_eq_true rfl) ?_
  intro p e s m below meth c A ls X hK hP hD hA hS hl
  obtain ⟨hx, hb, hml, hr, hts, hown, hlocks⟩ := id X
  have hl : lv_has ls 3 [(0, .ref (q 0)), (1, .int (iI g))] := hl
  have f_63 := hts (Cond.fieldLink RX6 63 "TwoKeysModel" "thrown" "I") (by decide +kernel)
  have K_116 := hts (Cond.constantLong RX6 116 (20)) (by decide +kernel)
  have k_78 := hts (Cond.constant RX6 78 (-100002)) (by decide +kernel)
  have n_X6 : ∀ w ∈ u_ws RX6 TX6 21, w ∈ wsX6_rest := by decide +kernel
  have iK := I.nK
  refine lv_aload_n hx hb dX6_rest_0 rfl (lv_at hl 0 rfl) ?_
  refine lv_iconst (v := iI (0)) hx hb dX6_rest_1 rfl ?_
  refine va_put (D := D) (ci := 6) (v := .int (iI 0)) (ty := .int) (C := RX6) (T := TX6) (N := 21) hx hb hts n_X6 tyX6 tyX6_ok nmX6 hown hK hP hD hS 0 rfl rfl 0 (by decide) f_63 (fun _ h9 => h9) rfl (by decide +kernel) rfl rfl (Nat.le_of_ble_eq_true rfl) dX6_rest_2 (fun H locs hP hD hS => ?_)
  have hP : va_P D vwCl (wM q cy nK st le be te ab bl ka bg ln ns me sc pi re bk 0 co bs gr lo) H := hP
  have hD : va_D A (wM q cy nK st le be te ab bl ka bg ln ns me sc pi re bk 0 co bs gr lo) := hD
  refine lv_iload_n hx hb dX6_rest_5 rfl (lv_at hl 1 rfl) ?_
  refine z_i2l hx hb dX6_rest_6 (by omega) ?_
  refine lv_lconst (v := lI (0)) hx hb dX6_rest_7 (by decide) ?_
  refine z_ldc2 (n := 20) hx hb hown K_116 (by decide) dX6_rest_8 ?_
  refine z_callSi (As := [.long (lI g), .long (lI 0), .long (lI 20)]) (rest := []) X hK hP hD hA hS hl.1 gX6_rest_X6_in rfl ⟨rfl, rfl⟩ hd_X6_in ⟨Nat.le_of_ble_eq_true rfl, Nat.le_of_ble_eq_true rfl⟩ rfl (Nat.le_of_ble_eq_true rfl) ⟨Nat.zero_le _, Nat.zero_le _⟩ rfl dX6_rest_11 (c_X6_in g 0 20 (by omega)) (fun H locs hP hD hS => ?_)
  refine z_ifp_ne (tgt := 20) hx hb dX6_rest_14 (by decide) (fun c_1 => ?_) (fun c_1 => ?_)
  · exact absurd c_1 (by omega)
  · refine z_ldc (n := -100002) hx hb hown k_78 (by decide) dX6_rest_17 ?_
    exact z_iret X hK hP hD hS dX6_rest_19 (by (repeat' split) <;> first | rfl | omega)

theorem hd_X6_book : yX6_book.cls = RX6 ∧ yX6_book.cls ≠ "java/lang/invoke/MethodHandle" ∧ yX6_book.cls ≠ "java/lang/invoke/VarHandle" ∧ (parseMethodDescriptor yX6_book.desc).map (fun d => d.parameters.length) = some 1 := by decide +kernel
set_option maxHeartbeats 4000000 in
set_option maxRecDepth 100000 in
theorem c_X6_book_ok (I : okS nK st le be te ab bl ka bg ln ns me sc pi re bk) (v : Int) (h : -2147483648 ≤ v ∧ v ≤ 2147483647) (hok : 0 ≤ v ∧ v ≤ 15) : MI l D cy yX6_book wsX6_book ({ frames := 1, cells := 0, slots := 0, locals := 25 } : Room) [.ref (q 0), .int (iI v)] (wM q cy nK st le be te ab bl ka bg ln ns me sc pi re bk th co bs gr lo) bk (wM q cy nK st le be te ab bl ka bg ln ns me sc pi re v 0 co bs gr lo) := by
  refine MI.ofW (cc := cX6_book) (maxL := 3) (ret := (some .int)) (by decide) rfl (Nat.le_of_ble_eq_true rfl) ?_
  intro p e s m below meth c A ls X hK hP hD hA hS hl
  obtain ⟨hx, hb, hml, hr, hts, hown, hlocks⟩ := id X
  have hl : lv_has ls 3 [(0, .ref (q 0)), (1, .int (iI v))] := hl
  have f_63 := hts (Cond.fieldLink RX6 63 "TwoKeysModel" "thrown" "I") (by decide +kernel)
  have K_165 := hts (Cond.constantLong RX6 165 (15)) (by decide +kernel)
  have f_167 := hts (Cond.fieldLink RX6 167 "TwoKeysModel" "book" "I") (by decide +kernel)
  have n_X6 : ∀ w ∈ u_ws RX6 TX6 21, w ∈ wsX6_book := by decide +kernel
  have iK := I.nK
  refine lv_aload_n hx hb dX6_book_0 rfl (lv_at hl 0 rfl) ?_
  refine lv_iconst (v := iI (0)) hx hb dX6_book_1 rfl ?_
  refine va_put (D := D) (ci := 6) (v := .int (iI 0)) (ty := .int) (C := RX6) (T := TX6) (N := 21) hx hb hts n_X6 tyX6 tyX6_ok nmX6 hown hK hP hD hS 0 rfl rfl 0 (by decide) f_63 (fun _ h9 => h9) rfl (by decide +kernel) rfl rfl (Nat.le_of_ble_eq_true rfl) dX6_book_2 (fun H locs hP hD hS => ?_)
  have hP : va_P D vwCl (wM q cy nK st le be te ab bl ka bg ln ns me sc pi re bk 0 co bs gr lo) H := hP
  have hD : va_D A (wM q cy nK st le be te ab bl ka bg ln ns me sc pi re bk 0 co bs gr lo) := hD
  refine lv_iload_n hx hb dX6_book_5 rfl (lv_at hl 1 rfl) ?_
  refine z_i2l hx hb dX6_book_6 (by omega) ?_
  refine lv_lconst (v := lI (0)) hx hb dX6_book_7 (by decide) ?_
  refine z_ldc2 (n := 15) hx hb hown K_165 (by decide) dX6_book_8 ?_
  refine z_callSi (As := [.long (lI v), .long (lI 0), .long (lI 15)]) (rest := []) X hK hP hD hA hS hl.1 gX6_book_X6_in rfl ⟨rfl, rfl⟩ hd_X6_in ⟨Nat.le_of_ble_eq_true rfl, Nat.le_of_ble_eq_true rfl⟩ rfl (Nat.le_of_ble_eq_true rfl) ⟨Nat.zero_le _, Nat.zero_le _⟩ rfl dX6_book_11 (c_X6_in v 0 15 (by omega)) (fun H locs hP hD hS => ?_)
  refine z_ifp_ne (tgt := 20) hx hb dX6_book_14 (by decide) (fun c_1 => ?_) (fun c_1 => ?_)
  · refine lv_aload_n hx hb dX6_book_20 rfl (lv_at hl 0 rfl) ?_
    refine va_get (D := D) (ci := 6) (v := .int (iI bk)) (C := RX6) (T := TX6) (N := 21) hx hb hts n_X6 hown hK hP 0 rfl rfl 15 (by decide) f_167 (fun _ h9 => h9) rfl dX6_book_21 ?_
    refine lv_istore_n (lv' := [(2, .int (iI bk)), (0, .ref (q 0)), (1, .int (iI v))]) hx hb dX6_book_24 rfl hl (by decide) rfl (fun ls hl => ?_)
    refine lv_aload_n hx hb dX6_book_25 rfl (lv_at hl 1 rfl) ?_
    refine lv_iload_n hx hb dX6_book_26 rfl (lv_at hl 2 rfl) ?_
    refine va_put (D := D) (ci := 6) (v := .int (iI v)) (ty := .int) (C := RX6) (T := TX6) (N := 21) hx hb hts n_X6 tyX6 tyX6_ok nmX6 hown hK hP hD hS 0 rfl rfl 15 (by decide) f_167 (fun _ h9 => h9) rfl (by decide +kernel) rfl rfl (Nat.le_of_ble_eq_true rfl) dX6_book_27 (fun H locs hP hD hS => ?_)
    have hP : va_P D vwCl (wM q cy nK st le be te ab bl ka bg ln ns me sc pi re v 0 co bs gr lo) H := hP
    have hD : va_D A (wM q cy nK st le be te ab bl ka bg ln ns me sc pi re v 0 co bs gr lo) := hD
    refine lv_iload_n hx hb dX6_book_30 rfl (lv_at hl 0 rfl) ?_
    exact z_iret X hK hP hD hS dX6_book_31 (by first | rfl | omega | grind)
  · exact absurd c_1 (by omega)

set_option maxHeartbeats 4000000 in
set_option maxRecDepth 100000 in
theorem c_X6_book_no (I : okS nK st le be te ab bl ka bg ln ns me sc pi re bk) (v : Int) (h : -2147483648 ≤ v ∧ v ≤ 2147483647) (hno : ¬ (0 ≤ v ∧ v ≤ 15)) : MI l D cy yX6_book wsX6_book ({ frames := 1, cells := 0, slots := 0, locals := 25 } : Room) [.ref (q 0), .int (iI v)] (wM q cy nK st le be te ab bl ka bg ln ns me sc pi re bk th co bs gr lo) (-100002) (wM q cy nK st le be te ab bl ka bg ln ns me sc pi re bk 0 co bs gr lo) := by
  refine MI.ofW (cc := cX6_book) (maxL := 3) (ret := (some .int)) (by decide) rfl (Nat.le_of_ble_eq_true rfl) ?_
  intro p e s m below meth c A ls X hK hP hD hA hS hl
  obtain ⟨hx, hb, hml, hr, hts, hown, hlocks⟩ := id X
  have hl : lv_has ls 3 [(0, .ref (q 0)), (1, .int (iI v))] := hl
  have f_63 := hts (Cond.fieldLink RX6 63 "TwoKeysModel" "thrown" "I") (by decide +kernel)
  have K_165 := hts (Cond.constantLong RX6 165 (15)) (by decide +kernel)
  have k_78 := hts (Cond.constant RX6 78 (-100002)) (by decide +kernel)
  have n_X6 : ∀ w ∈ u_ws RX6 TX6 21, w ∈ wsX6_book := by decide +kernel
  have iK := I.nK
  refine lv_aload_n hx hb dX6_book_0 rfl (lv_at hl 0 rfl) ?_
  refine lv_iconst (v := iI (0)) hx hb dX6_book_1 rfl ?_
  refine va_put (D := D) (ci := 6) (v := .int (iI 0)) (ty := .int) (C := RX6) (T := TX6) (N := 21) hx hb hts n_X6 tyX6 tyX6_ok nmX6 hown hK hP hD hS 0 rfl rfl 0 (by decide) f_63 (fun _ h9 => h9) rfl (by decide +kernel) rfl rfl (Nat.le_of_ble_eq_true rfl) dX6_book_2 (fun H locs hP hD hS => ?_)
  have hP : va_P D vwCl (wM q cy nK st le be te ab bl ka bg ln ns me sc pi re bk 0 co bs gr lo) H := hP
  have hD : va_D A (wM q cy nK st le be te ab bl ka bg ln ns me sc pi re bk 0 co bs gr lo) := hD
  refine lv_iload_n hx hb dX6_book_5 rfl (lv_at hl 1 rfl) ?_
  refine z_i2l hx hb dX6_book_6 (by omega) ?_
  refine lv_lconst (v := lI (0)) hx hb dX6_book_7 (by decide) ?_
  refine z_ldc2 (n := 15) hx hb hown K_165 (by decide) dX6_book_8 ?_
  refine z_callSi (As := [.long (lI v), .long (lI 0), .long (lI 15)]) (rest := []) X hK hP hD hA hS hl.1 gX6_book_X6_in rfl ⟨rfl, rfl⟩ hd_X6_in ⟨Nat.le_of_ble_eq_true rfl, Nat.le_of_ble_eq_true rfl⟩ rfl (Nat.le_of_ble_eq_true rfl) ⟨Nat.zero_le _, Nat.zero_le _⟩ rfl dX6_book_11 (c_X6_in v 0 15 (by omega)) (fun H locs hP hD hS => ?_)
  refine z_ifp_ne (tgt := 20) hx hb dX6_book_14 (by decide) (fun c_1 => ?_) (fun c_1 => ?_)
  · exact absurd c_1 (by omega)
  · refine z_ldc (n := -100002) hx hb hown k_78 (by decide) dX6_book_17 ?_
    exact z_iret X hK hP hD hS dX6_book_19 (by (repeat' split) <;> first | rfl | omega)

theorem hd_X6_wipe : yX6_wipe.cls = RX6 ∧ yX6_wipe.cls ≠ "java/lang/invoke/MethodHandle" ∧ yX6_wipe.cls ≠ "java/lang/invoke/VarHandle" ∧ (parseMethodDescriptor yX6_wipe.desc).map (fun d => d.parameters.length) = some 1 := by decide +kernel
set_option maxHeartbeats 4000000 in
set_option maxRecDepth 100000 in
theorem c_X6_wipe_ok (I : okS nK st le be te ab bl ka bg ln ns me sc pi re bk) (p9 : Int) (h : -2147483648 ≤ p9 ∧ p9 ≤ 2147483647) (hok : 0 ≤ p9 ∧ p9 ≤ 3) : MI l D cy yX6_wipe wsX6_wipe ({ frames := 2, cells := 0, slots := 0, locals := 45 } : Room) [.ref (q 0), .int (iI p9)] (wM q cy nK st le be te ab bl ka bg ln ns me sc pi re bk th co bs gr lo) (ns p9) (wM q cy nK st le be te ab bl ka bg ln (uZ ns p9 0) me sc pi re bk 0 co bs gr lo) := by
  refine MI.ofW (cc := cX6_wipe) (maxL := 3) (ret := (some .int)) (by decide) rfl (Nat.le_of_ble_eq_true rfl) ?_
  intro p e s m below meth c A ls X hK hP hD hA hS hl
  obtain ⟨hx, hb, hml, hr, hts, hown, hlocks⟩ := id X
  have hl : lv_has ls 3 [(0, .ref (q 0)), (1, .int (iI p9))] := hl
  have f_63 := hts (Cond.fieldLink RX6 63 "TwoKeysModel" "thrown" "I") (by decide +kernel)
  have f_35 := hts (Cond.fieldLink RX6 35 "TwoKeysModel" "notes" "[I") (by decide +kernel)
  have n_X6 : ∀ w ∈ u_ws RX6 TX6 21, w ∈ wsX6_wipe := by decide +kernel
  have iK := I.nK
  refine lv_aload_n hx hb dX6_wipe_0 rfl (lv_at hl 0 rfl) ?_
  refine lv_iconst (v := iI (0)) hx hb dX6_wipe_1 rfl ?_
  refine va_put (D := D) (ci := 6) (v := .int (iI 0)) (ty := .int) (C := RX6) (T := TX6) (N := 21) hx hb hts n_X6 tyX6 tyX6_ok nmX6 hown hK hP hD hS 0 rfl rfl 0 (by decide) f_63 (fun _ h9 => h9) rfl (by decide +kernel) rfl rfl (Nat.le_of_ble_eq_true rfl) dX6_wipe_2 (fun H locs hP hD hS => ?_)
  have hP : va_P D vwCl (wM q cy nK st le be te ab bl ka bg ln ns me sc pi re bk 0 co bs gr lo) H := hP
  have hD : va_D A (wM q cy nK st le be te ab bl ka bg ln ns me sc pi re bk 0 co bs gr lo) := hD
  refine lv_iload_n hx hb dX6_wipe_5 rfl (lv_at hl 1 rfl) ?_
  refine z_callSi (As := [.int (iI p9)]) (rest := []) X hK hP hD hA hS hl.1 gX6_wipe_X6_noPiece rfl ⟨rfl, rfl⟩ hd_X6_noPiece ⟨Nat.le_of_ble_eq_true rfl, Nat.le_of_ble_eq_true rfl⟩ rfl (Nat.le_of_ble_eq_true rfl) ⟨Nat.zero_le _, Nat.zero_le _⟩ rfl dX6_wipe_6 (c_X6_noPiece p9 (by omega)) (fun H locs hP hD hS => ?_)
  refine z_ifp_eq (tgt := 15) hx hb dX6_wipe_9 (by decide) (fun c_1 => ?_) (fun c_1 => ?_)
  · refine lv_aload_n hx hb dX6_wipe_15 rfl (lv_at hl 0 rfl) ?_
    refine va_get (D := D) (ci := 6) (v := .ref (q 7)) (C := RX6) (T := TX6) (N := 21) hx hb hts n_X6 hown hK hP 0 rfl rfl 10 (by decide) f_35 (fun _ h9 => h9) rfl dX6_wipe_16 ?_
    refine lv_iload_n hx hb dX6_wipe_19 rfl (lv_at hl 1 rfl) ?_
    refine z_iald hx hb hK hP 7 0 rfl rfl (by omega) dX6_wipe_20 ?_
    have b_2 := I.ns p9
    refine lv_istore_n (lv' := [(2, .int (iI (ns p9))), (0, .ref (q 0)), (1, .int (iI p9))]) hx hb dX6_wipe_21 rfl hl (by decide) rfl (fun ls hl => ?_)
    refine lv_aload_n hx hb dX6_wipe_22 rfl (lv_at hl 1 rfl) ?_
    refine va_get (D := D) (ci := 6) (v := .ref (q 7)) (C := RX6) (T := TX6) (N := 21) hx hb hts n_X6 hown hK hP 0 rfl rfl 10 (by decide) f_35 (fun _ h9 => h9) rfl dX6_wipe_23 ?_
    refine lv_iload_n hx hb dX6_wipe_26 rfl (lv_at hl 2 rfl) ?_
    refine lv_iconst (v := iI (0)) hx hb dX6_wipe_27 rfl ?_
    refine z_iast (v := 0) hx hb hK hP hD hS 7 0 rfl rfl (by omega) dX6_wipe_28 (fun H locs hP hD hS => ?_)
    have hP : va_P D vwCl (wM q cy nK st le be te ab bl ka bg ln (uZ ns p9 0) me sc pi re bk 0 co bs gr lo) H := hP
    have hD : va_D A (wM q cy nK st le be te ab bl ka bg ln (uZ ns p9 0) me sc pi re bk 0 co bs gr lo) := hD
    refine lv_iload_n hx hb dX6_wipe_29 rfl (lv_at hl 0 rfl) ?_
    exact z_iret X hK hP hD hS dX6_wipe_30 (by first | rfl | omega | grind)
  · exact absurd c_1 (by omega)

set_option maxHeartbeats 4000000 in
set_option maxRecDepth 100000 in
theorem c_X6_wipe_no (I : okS nK st le be te ab bl ka bg ln ns me sc pi re bk) (p9 : Int) (h : -2147483648 ≤ p9 ∧ p9 ≤ 2147483647) (hno : ¬ (0 ≤ p9 ∧ p9 ≤ 3)) : MI l D cy yX6_wipe wsX6_wipe ({ frames := 2, cells := 0, slots := 0, locals := 45 } : Room) [.ref (q 0), .int (iI p9)] (wM q cy nK st le be te ab bl ka bg ln ns me sc pi re bk th co bs gr lo) (-100001) (wM q cy nK st le be te ab bl ka bg ln ns me sc pi re bk 0 co bs gr lo) := by
  refine MI.ofW (cc := cX6_wipe) (maxL := 3) (ret := (some .int)) (by decide) rfl (Nat.le_of_ble_eq_true rfl) ?_
  intro p e s m below meth c A ls X hK hP hD hA hS hl
  obtain ⟨hx, hb, hml, hr, hts, hown, hlocks⟩ := id X
  have hl : lv_has ls 3 [(0, .ref (q 0)), (1, .int (iI p9))] := hl
  have f_63 := hts (Cond.fieldLink RX6 63 "TwoKeysModel" "thrown" "I") (by decide +kernel)
  have k_86 := hts (Cond.constant RX6 86 (-100001)) (by decide +kernel)
  have n_X6 : ∀ w ∈ u_ws RX6 TX6 21, w ∈ wsX6_wipe := by decide +kernel
  have iK := I.nK
  refine lv_aload_n hx hb dX6_wipe_0 rfl (lv_at hl 0 rfl) ?_
  refine lv_iconst (v := iI (0)) hx hb dX6_wipe_1 rfl ?_
  refine va_put (D := D) (ci := 6) (v := .int (iI 0)) (ty := .int) (C := RX6) (T := TX6) (N := 21) hx hb hts n_X6 tyX6 tyX6_ok nmX6 hown hK hP hD hS 0 rfl rfl 0 (by decide) f_63 (fun _ h9 => h9) rfl (by decide +kernel) rfl rfl (Nat.le_of_ble_eq_true rfl) dX6_wipe_2 (fun H locs hP hD hS => ?_)
  have hP : va_P D vwCl (wM q cy nK st le be te ab bl ka bg ln ns me sc pi re bk 0 co bs gr lo) H := hP
  have hD : va_D A (wM q cy nK st le be te ab bl ka bg ln ns me sc pi re bk 0 co bs gr lo) := hD
  refine lv_iload_n hx hb dX6_wipe_5 rfl (lv_at hl 1 rfl) ?_
  refine z_callSi (As := [.int (iI p9)]) (rest := []) X hK hP hD hA hS hl.1 gX6_wipe_X6_noPiece rfl ⟨rfl, rfl⟩ hd_X6_noPiece ⟨Nat.le_of_ble_eq_true rfl, Nat.le_of_ble_eq_true rfl⟩ rfl (Nat.le_of_ble_eq_true rfl) ⟨Nat.zero_le _, Nat.zero_le _⟩ rfl dX6_wipe_6 (c_X6_noPiece p9 (by omega)) (fun H locs hP hD hS => ?_)
  refine z_ifp_eq (tgt := 15) hx hb dX6_wipe_9 (by decide) (fun c_1 => ?_) (fun c_1 => ?_)
  · exact absurd c_1 (by omega)
  · refine z_ldc (n := -100001) hx hb hown k_86 (by decide) dX6_wipe_12 ?_
    exact z_iret X hK hP hD hS dX6_wipe_14 (by (repeat' split) <;> first | rfl | omega)

theorem hd_X6_note : yX6_note.cls = RX6 ∧ yX6_note.cls ≠ "java/lang/invoke/MethodHandle" ∧ yX6_note.cls ≠ "java/lang/invoke/VarHandle" ∧ (parseMethodDescriptor yX6_note.desc).map (fun d => d.parameters.length) = some 4 := by decide +kernel
set_option maxHeartbeats 4000000 in
set_option maxRecDepth 100000 in
theorem c_X6_note_ok (I : okS nK st le be te ab bl ka bg ln ns me sc pi re bk) (p9 : Int) (k : Int) (b9 : Int) (l9 : Int) (h : -2147483648 ≤ p9 ∧ p9 ≤ 2147483647 ∧ -2147483648 ≤ k ∧ k ≤ 2147483647 ∧ -2147483648 ≤ b9 ∧ b9 ≤ 2147483647 ∧ -2147483648 ≤ l9 ∧ l9 ≤ 2147483647) (hok : (0 ≤ p9 ∧ p9 ≤ 3) ∧ ((0 ≤ k ∧ k ≤ 23) ∧ (0 ≤ b9 ∧ b9 ≤ 999) ∧ (1 ≤ l9 ∧ l9 ≤ 99)) ∧ (if ns p9 = 0 then 0 else bg (p9 * 40 + ns p9 - 1)) ≤ b9 ∧ ns p9 < 40) : MI l D cy yX6_note wsX6_note ({ frames := 2, cells := 0, slots := 0, locals := 45 } : Room) [.ref (q 0), .int (iI p9), .int (iI k), .int (iI b9), .int (iI l9)] (wM q cy nK st le be te ab bl ka bg ln ns me sc pi re bk th co bs gr lo) (ns p9) (wM q cy nK st le be te ab bl (uZ ka (p9 * 40 + ns p9) k) (uZ bg (p9 * 40 + ns p9) b9) (uZ ln (p9 * 40 + ns p9) l9) (uZ ns p9 (ns p9 + 1)) me sc pi re bk 0 co bs gr lo) := by
  refine MI.ofW (cc := cX6_note) (maxL := 6) (ret := (some .int)) (by decide) rfl (Nat.le_of_ble_eq_true rfl) ?_
  intro p e s m below meth c A ls X hK hP hD hA hS hl
  obtain ⟨hx, hb, hml, hr, hts, hown, hlocks⟩ := id X
  have hl : lv_has ls 6 [(0, .ref (q 0)), (1, .int (iI p9)), (2, .int (iI k)), (3, .int (iI b9)), (4, .int (iI l9))] := hl
  have f_63 := hts (Cond.fieldLink RX6 63 "TwoKeysModel" "thrown" "I") (by decide +kernel)
  have K_70 := hts (Cond.constantLong RX6 70 (23)) (by decide +kernel)
  have K_126 := hts (Cond.constantLong RX6 126 (999)) (by decide +kernel)
  have K_146 := hts (Cond.constantLong RX6 146 (99)) (by decide +kernel)
  have f_35 := hts (Cond.fieldLink RX6 35 "TwoKeysModel" "notes" "[I") (by decide +kernel)
  have f_38 := hts (Cond.fieldLink RX6 38 "TwoKeysModel" "noteKey" "[I") (by decide +kernel)
  have f_41 := hts (Cond.fieldLink RX6 41 "TwoKeysModel" "begin" "[I") (by decide +kernel)
  have f_44 := hts (Cond.fieldLink RX6 44 "TwoKeysModel" "lasts" "[I") (by decide +kernel)
  have n_X6 : ∀ w ∈ u_ws RX6 TX6 21, w ∈ wsX6_note := by decide +kernel
  have iK := I.nK
  have i9 := I.ns p9
  have i7 := I.bg (40 * p9 + ns p9 - 1)
  rw [show p9 * 40 = 40 * p9 by omega] at hok
  have hok2 : ns p9 = 0 ∨ bg (40 * p9 + ns p9 - 1) ≤ b9 := by (by_cases g : ns p9 = 0); (exact Or.inl g); (rw [if_neg g] at hok; omega)
  refine lv_aload_n hx hb dX6_note_0 rfl (lv_at hl 0 rfl) ?_
  refine lv_iconst (v := iI (0)) hx hb dX6_note_1 rfl ?_
  refine va_put (D := D) (ci := 6) (v := .int (iI 0)) (ty := .int) (C := RX6) (T := TX6) (N := 21) hx hb hts n_X6 tyX6 tyX6_ok nmX6 hown hK hP hD hS 0 rfl rfl 0 (by decide) f_63 (fun _ h9 => h9) rfl (by decide +kernel) rfl rfl (Nat.le_of_ble_eq_true rfl) dX6_note_2 (fun H locs hP hD hS => ?_)
  have hP : va_P D vwCl (wM q cy nK st le be te ab bl ka bg ln ns me sc pi re bk 0 co bs gr lo) H := hP
  have hD : va_D A (wM q cy nK st le be te ab bl ka bg ln ns me sc pi re bk 0 co bs gr lo) := hD
  refine lv_iload_n hx hb dX6_note_5 rfl (lv_at hl 1 rfl) ?_
  refine z_callSi (As := [.int (iI p9)]) (rest := []) X hK hP hD hA hS hl.1 gX6_note_X6_noPiece rfl ⟨rfl, rfl⟩ hd_X6_noPiece ⟨Nat.le_of_ble_eq_true rfl, Nat.le_of_ble_eq_true rfl⟩ rfl (Nat.le_of_ble_eq_true rfl) ⟨Nat.zero_le _, Nat.zero_le _⟩ rfl dX6_note_6 (c_X6_noPiece p9 (by omega)) (fun H locs hP hD hS => ?_)
  refine z_ifp_eq (tgt := 15) hx hb dX6_note_9 (by decide) (fun c_1 => ?_) (fun c_1 => ?_)
  · refine lv_iload_n hx hb dX6_note_15 rfl (lv_at hl 2 rfl) ?_
    refine z_i2l hx hb dX6_note_16 (by omega) ?_
    refine lv_lconst (v := lI (0)) hx hb dX6_note_17 (by decide) ?_
    refine z_ldc2 (n := 23) hx hb hown K_70 (by decide) dX6_note_18 ?_
    refine z_callSi (As := [.long (lI k), .long (lI 0), .long (lI 23)]) (rest := []) X hK hP hD hA hS hl.1 gX6_note_X6_in rfl ⟨rfl, rfl⟩ hd_X6_in ⟨Nat.le_of_ble_eq_true rfl, Nat.le_of_ble_eq_true rfl⟩ rfl (Nat.le_of_ble_eq_true rfl) ⟨Nat.zero_le _, Nat.zero_le _⟩ rfl dX6_note_21 (c_X6_in k 0 23 (by omega)) (fun H locs hP hD hS => ?_)
    refine z_ifp_eq (tgt := 52) hx hb dX6_note_24 (by decide) (fun c_2 => ?_) (fun c_2 => ?_)
    · exact absurd c_2 (by omega)
    · refine lv_iload_n hx hb dX6_note_27 rfl (lv_at hl 3 rfl) ?_
      refine z_i2l hx hb dX6_note_28 (by omega) ?_
      refine lv_lconst (v := lI (0)) hx hb dX6_note_29 (by decide) ?_
      refine z_ldc2 (n := 999) hx hb hown K_126 (by decide) dX6_note_30 ?_
      refine z_callSi (As := [.long (lI b9), .long (lI 0), .long (lI 999)]) (rest := []) X hK hP hD hA hS hl.1 gX6_note_X6_in rfl ⟨rfl, rfl⟩ hd_X6_in ⟨Nat.le_of_ble_eq_true rfl, Nat.le_of_ble_eq_true rfl⟩ rfl (Nat.le_of_ble_eq_true rfl) ⟨Nat.zero_le _, Nat.zero_le _⟩ rfl dX6_note_33 (c_X6_in b9 0 999 (by omega)) (fun H locs hP hD hS => ?_)
      refine z_ifp_eq (tgt := 52) hx hb dX6_note_36 (by decide) (fun c_3 => ?_) (fun c_3 => ?_)
      · exact absurd c_3 (by omega)
      · refine lv_iload hx hb dX6_note_39 (lv_at hl 4 rfl) ?_
        refine z_i2l hx hb dX6_note_41 (by omega) ?_
        refine lv_lconst (v := lI (1)) hx hb dX6_note_42 (by decide) ?_
        refine z_ldc2 (n := 99) hx hb hown K_146 (by decide) dX6_note_43 ?_
        refine z_callSi (As := [.long (lI l9), .long (lI 1), .long (lI 99)]) (rest := []) X hK hP hD hA hS hl.1 gX6_note_X6_in rfl ⟨rfl, rfl⟩ hd_X6_in ⟨Nat.le_of_ble_eq_true rfl, Nat.le_of_ble_eq_true rfl⟩ rfl (Nat.le_of_ble_eq_true rfl) ⟨Nat.zero_le _, Nat.zero_le _⟩ rfl dX6_note_46 (c_X6_in l9 1 99 (by omega)) (fun H locs hP hD hS => ?_)
        refine z_ifp_ne (tgt := 55) hx hb dX6_note_49 (by decide) (fun c_4 => ?_) (fun c_4 => ?_)
        · refine lv_aload_n hx hb dX6_note_55 rfl (lv_at hl 0 rfl) ?_
          refine va_get (D := D) (ci := 6) (v := .ref (q 7)) (C := RX6) (T := TX6) (N := 21) hx hb hts n_X6 hown hK hP 0 rfl rfl 10 (by decide) f_35 (fun _ h9 => h9) rfl dX6_note_56 ?_
          refine lv_iload_n hx hb dX6_note_59 rfl (lv_at hl 1 rfl) ?_
          refine z_iald hx hb hK hP 7 0 rfl rfl (by omega) dX6_note_60 ?_
          have b_5 := I.ns p9
          refine lv_istore (lv' := [(5, .int (iI (ns p9))), (0, .ref (q 0)), (1, .int (iI p9)), (2, .int (iI k)), (3, .int (iI b9)), (4, .int (iI l9))]) hx hb dX6_note_61 hl (by decide) rfl (fun ls hl => ?_)
          refine lv_iload hx hb dX6_note_63 (lv_at hl 0 rfl) ?_
          refine z_if_le (tgt := 89) hx hb dX6_note_65 (by decide) (by omega) (fun c_6 => ?_) (fun c_6 => ?_)
          · refine lv_iload hx hb dX6_note_89 (lv_at hl 0 rfl) ?_
            refine lv_bipush (v := iI (40)) hx hb dX6_note_91 (by decide) ?_
            refine z_icmp_ne (tgt := 99) hx hb dX6_note_93 (by decide) (by omega) (fun c_7 => ?_) (fun c_7 => ?_)
            · refine lv_aload_n hx hb dX6_note_99 rfl (lv_at hl 1 rfl) ?_
              refine va_get (D := D) (ci := 6) (v := .ref (q 8)) (C := RX6) (T := TX6) (N := 21) hx hb hts n_X6 hown hK hP 0 rfl rfl 11 (by decide) f_38 (fun _ h9 => h9) rfl dX6_note_100 ?_
              refine lv_bipush (v := iI (40)) hx hb dX6_note_103 (by decide) ?_
              refine lv_iload_n hx hb dX6_note_105 rfl (lv_at hl 2 rfl) ?_
              refine z_imul hx hb dX6_note_106 ?_
              refine lv_iload hx hb dX6_note_107 (lv_at hl 0 rfl) ?_
              refine z_iadd hx hb dX6_note_109 ?_
              refine lv_iload_n hx hb dX6_note_110 rfl (lv_at hl 3 rfl) ?_
              refine z_iast (v := k) hx hb hK hP hD hS 8 0 rfl rfl (by omega) dX6_note_111 (fun H locs hP hD hS => ?_)
              have hP : va_P D vwCl (wM q cy nK st le be te ab bl (uZ ka ((40 * p9) + (ns p9)) k) bg ln ns me sc pi re bk 0 co bs gr lo) H := hP
              have hD : va_D A (wM q cy nK st le be te ab bl (uZ ka ((40 * p9) + (ns p9)) k) bg ln ns me sc pi re bk 0 co bs gr lo) := hD
              refine lv_aload_n hx hb dX6_note_112 rfl (lv_at hl 1 rfl) ?_
              refine va_get (D := D) (ci := 6) (v := .ref (q 9)) (C := RX6) (T := TX6) (N := 21) hx hb hts n_X6 hown hK hP 0 rfl rfl 12 (by decide) f_41 (fun _ h9 => h9) rfl dX6_note_113 ?_
              refine lv_bipush (v := iI (40)) hx hb dX6_note_116 (by decide) ?_
              refine lv_iload_n hx hb dX6_note_118 rfl (lv_at hl 2 rfl) ?_
              refine z_imul hx hb dX6_note_119 ?_
              refine lv_iload hx hb dX6_note_120 (lv_at hl 0 rfl) ?_
              refine z_iadd hx hb dX6_note_122 ?_
              refine lv_iload_n hx hb dX6_note_123 rfl (lv_at hl 4 rfl) ?_
              refine z_iast (v := b9) hx hb hK hP hD hS 9 0 rfl rfl (by omega) dX6_note_124 (fun H locs hP hD hS => ?_)
              have hP : va_P D vwCl (wM q cy nK st le be te ab bl (uZ ka ((40 * p9) + (ns p9)) k) (uZ bg ((40 * p9) + (ns p9)) b9) ln ns me sc pi re bk 0 co bs gr lo) H := hP
              have hD : va_D A (wM q cy nK st le be te ab bl (uZ ka ((40 * p9) + (ns p9)) k) (uZ bg ((40 * p9) + (ns p9)) b9) ln ns me sc pi re bk 0 co bs gr lo) := hD
              refine lv_aload_n hx hb dX6_note_125 rfl (lv_at hl 1 rfl) ?_
              refine va_get (D := D) (ci := 6) (v := .ref (q 10)) (C := RX6) (T := TX6) (N := 21) hx hb hts n_X6 hown hK hP 0 rfl rfl 13 (by decide) f_44 (fun _ h9 => h9) rfl dX6_note_126 ?_
              refine lv_bipush (v := iI (40)) hx hb dX6_note_129 (by decide) ?_
              refine lv_iload_n hx hb dX6_note_131 rfl (lv_at hl 2 rfl) ?_
              refine z_imul hx hb dX6_note_132 ?_
              refine lv_iload hx hb dX6_note_133 (lv_at hl 0 rfl) ?_
              refine z_iadd hx hb dX6_note_135 ?_
              refine lv_iload hx hb dX6_note_136 (lv_at hl 5 rfl) ?_
              refine z_iast (v := l9) hx hb hK hP hD hS 10 0 rfl rfl (by omega) dX6_note_138 (fun H locs hP hD hS => ?_)
              have hP : va_P D vwCl (wM q cy nK st le be te ab bl (uZ ka ((40 * p9) + (ns p9)) k) (uZ bg ((40 * p9) + (ns p9)) b9) (uZ ln ((40 * p9) + (ns p9)) l9) ns me sc pi re bk 0 co bs gr lo) H := hP
              have hD : va_D A (wM q cy nK st le be te ab bl (uZ ka ((40 * p9) + (ns p9)) k) (uZ bg ((40 * p9) + (ns p9)) b9) (uZ ln ((40 * p9) + (ns p9)) l9) ns me sc pi re bk 0 co bs gr lo) := hD
              refine lv_aload_n hx hb dX6_note_139 rfl (lv_at hl 1 rfl) ?_
              refine va_get (D := D) (ci := 6) (v := .ref (q 7)) (C := RX6) (T := TX6) (N := 21) hx hb hts n_X6 hown hK hP 0 rfl rfl 10 (by decide) f_35 (fun _ h9 => h9) rfl dX6_note_140 ?_
              refine lv_iload_n hx hb dX6_note_143 rfl (lv_at hl 2 rfl) ?_
              refine lv_dup2_11 hx hb dX6_note_144 rfl rfl ?_
              refine z_iald hx hb hK hP 7 0 rfl rfl (by omega) dX6_note_145 ?_
              have b_8 := I.ns p9
              refine lv_iconst (v := iI (1)) hx hb dX6_note_146 rfl ?_
              refine z_iadd hx hb dX6_note_147 ?_
              refine z_iast (v := (ns p9) + 1) hx hb hK hP hD hS 7 0 rfl rfl (by omega) dX6_note_148 (fun H locs hP hD hS => ?_)
              have hP : va_P D vwCl (wM q cy nK st le be te ab bl (uZ ka ((40 * p9) + (ns p9)) k) (uZ bg ((40 * p9) + (ns p9)) b9) (uZ ln ((40 * p9) + (ns p9)) l9) (uZ ns p9 ((ns p9) + 1)) me sc pi re bk 0 co bs gr lo) H := hP
              have hD : va_D A (wM q cy nK st le be te ab bl (uZ ka ((40 * p9) + (ns p9)) k) (uZ bg ((40 * p9) + (ns p9)) b9) (uZ ln ((40 * p9) + (ns p9)) l9) (uZ ns p9 ((ns p9) + 1)) me sc pi re bk 0 co bs gr lo) := hD
              refine lv_iload hx hb dX6_note_149 (lv_at hl 0 rfl) ?_
              have hw9 : wM q cy nK st le be te ab bl (uZ ka ((40 * p9) + (ns p9)) k) (uZ bg ((40 * p9) + (ns p9)) b9) (uZ ln ((40 * p9) + (ns p9)) l9) (uZ ns p9 ((ns p9) + 1)) me sc pi re bk 0 co bs gr lo = wM q cy nK st le be te ab bl (uZ ka (p9 * 40 + ns p9) k) (uZ bg (p9 * 40 + ns p9) b9) (uZ ln (p9 * 40 + ns p9) l9) (uZ ns p9 (ns p9 + 1)) me sc pi re bk 0 co bs gr lo := by rw [Int.mul_comm p9 40]
              rw [hw9] at hP hD
              exact z_iret X hK hP hD hS dX6_note_151 (by first | rfl | omega | grind)
            · exact absurd c_7 (by omega)
          · refine lv_iload_n hx hb dX6_note_68 rfl (lv_at hl 4 rfl) ?_
            refine lv_aload_n hx hb dX6_note_69 rfl (lv_at hl 1 rfl) ?_
            refine va_get (D := D) (ci := 6) (v := .ref (q 9)) (C := RX6) (T := TX6) (N := 21) hx hb hts n_X6 hown hK hP 0 rfl rfl 12 (by decide) f_41 (fun _ h9 => h9) rfl dX6_note_70 ?_
            refine lv_bipush (v := iI (40)) hx hb dX6_note_73 (by decide) ?_
            refine lv_iload_n hx hb dX6_note_75 rfl (lv_at hl 2 rfl) ?_
            refine z_imul hx hb dX6_note_76 ?_
            refine lv_iload hx hb dX6_note_77 (lv_at hl 0 rfl) ?_
            refine z_iadd hx hb dX6_note_79 ?_
            refine lv_iconst (v := iI (1)) hx hb dX6_note_80 rfl ?_
            refine z_isub hx hb dX6_note_81 ?_
            refine z_iald hx hb hK hP 9 0 rfl rfl (by omega) dX6_note_82 ?_
            have b_9 := I.bg (((40 * p9) + (ns p9)) - 1)
            refine z_icmp_ge (tgt := 89) hx hb dX6_note_83 (by decide) (by omega) (fun c_10 => ?_) (fun c_10 => ?_)
            · refine lv_iload hx hb dX6_note_89 (lv_at hl 0 rfl) ?_
              refine lv_bipush (v := iI (40)) hx hb dX6_note_91 (by decide) ?_
              refine z_icmp_ne (tgt := 99) hx hb dX6_note_93 (by decide) (by omega) (fun c_11 => ?_) (fun c_11 => ?_)
              · refine lv_aload_n hx hb dX6_note_99 rfl (lv_at hl 1 rfl) ?_
                refine va_get (D := D) (ci := 6) (v := .ref (q 8)) (C := RX6) (T := TX6) (N := 21) hx hb hts n_X6 hown hK hP 0 rfl rfl 11 (by decide) f_38 (fun _ h9 => h9) rfl dX6_note_100 ?_
                refine lv_bipush (v := iI (40)) hx hb dX6_note_103 (by decide) ?_
                refine lv_iload_n hx hb dX6_note_105 rfl (lv_at hl 2 rfl) ?_
                refine z_imul hx hb dX6_note_106 ?_
                refine lv_iload hx hb dX6_note_107 (lv_at hl 0 rfl) ?_
                refine z_iadd hx hb dX6_note_109 ?_
                refine lv_iload_n hx hb dX6_note_110 rfl (lv_at hl 3 rfl) ?_
                refine z_iast (v := k) hx hb hK hP hD hS 8 0 rfl rfl (by omega) dX6_note_111 (fun H locs hP hD hS => ?_)
                have hP : va_P D vwCl (wM q cy nK st le be te ab bl (uZ ka ((40 * p9) + (ns p9)) k) bg ln ns me sc pi re bk 0 co bs gr lo) H := hP
                have hD : va_D A (wM q cy nK st le be te ab bl (uZ ka ((40 * p9) + (ns p9)) k) bg ln ns me sc pi re bk 0 co bs gr lo) := hD
                refine lv_aload_n hx hb dX6_note_112 rfl (lv_at hl 1 rfl) ?_
                refine va_get (D := D) (ci := 6) (v := .ref (q 9)) (C := RX6) (T := TX6) (N := 21) hx hb hts n_X6 hown hK hP 0 rfl rfl 12 (by decide) f_41 (fun _ h9 => h9) rfl dX6_note_113 ?_
                refine lv_bipush (v := iI (40)) hx hb dX6_note_116 (by decide) ?_
                refine lv_iload_n hx hb dX6_note_118 rfl (lv_at hl 2 rfl) ?_
                refine z_imul hx hb dX6_note_119 ?_
                refine lv_iload hx hb dX6_note_120 (lv_at hl 0 rfl) ?_
                refine z_iadd hx hb dX6_note_122 ?_
                refine lv_iload_n hx hb dX6_note_123 rfl (lv_at hl 4 rfl) ?_
                refine z_iast (v := b9) hx hb hK hP hD hS 9 0 rfl rfl (by omega) dX6_note_124 (fun H locs hP hD hS => ?_)
                have hP : va_P D vwCl (wM q cy nK st le be te ab bl (uZ ka ((40 * p9) + (ns p9)) k) (uZ bg ((40 * p9) + (ns p9)) b9) ln ns me sc pi re bk 0 co bs gr lo) H := hP
                have hD : va_D A (wM q cy nK st le be te ab bl (uZ ka ((40 * p9) + (ns p9)) k) (uZ bg ((40 * p9) + (ns p9)) b9) ln ns me sc pi re bk 0 co bs gr lo) := hD
                refine lv_aload_n hx hb dX6_note_125 rfl (lv_at hl 1 rfl) ?_
                refine va_get (D := D) (ci := 6) (v := .ref (q 10)) (C := RX6) (T := TX6) (N := 21) hx hb hts n_X6 hown hK hP 0 rfl rfl 13 (by decide) f_44 (fun _ h9 => h9) rfl dX6_note_126 ?_
                refine lv_bipush (v := iI (40)) hx hb dX6_note_129 (by decide) ?_
                refine lv_iload_n hx hb dX6_note_131 rfl (lv_at hl 2 rfl) ?_
                refine z_imul hx hb dX6_note_132 ?_
                refine lv_iload hx hb dX6_note_133 (lv_at hl 0 rfl) ?_
                refine z_iadd hx hb dX6_note_135 ?_
                refine lv_iload hx hb dX6_note_136 (lv_at hl 5 rfl) ?_
                refine z_iast (v := l9) hx hb hK hP hD hS 10 0 rfl rfl (by omega) dX6_note_138 (fun H locs hP hD hS => ?_)
                have hP : va_P D vwCl (wM q cy nK st le be te ab bl (uZ ka ((40 * p9) + (ns p9)) k) (uZ bg ((40 * p9) + (ns p9)) b9) (uZ ln ((40 * p9) + (ns p9)) l9) ns me sc pi re bk 0 co bs gr lo) H := hP
                have hD : va_D A (wM q cy nK st le be te ab bl (uZ ka ((40 * p9) + (ns p9)) k) (uZ bg ((40 * p9) + (ns p9)) b9) (uZ ln ((40 * p9) + (ns p9)) l9) ns me sc pi re bk 0 co bs gr lo) := hD
                refine lv_aload_n hx hb dX6_note_139 rfl (lv_at hl 1 rfl) ?_
                refine va_get (D := D) (ci := 6) (v := .ref (q 7)) (C := RX6) (T := TX6) (N := 21) hx hb hts n_X6 hown hK hP 0 rfl rfl 10 (by decide) f_35 (fun _ h9 => h9) rfl dX6_note_140 ?_
                refine lv_iload_n hx hb dX6_note_143 rfl (lv_at hl 2 rfl) ?_
                refine lv_dup2_11 hx hb dX6_note_144 rfl rfl ?_
                refine z_iald hx hb hK hP 7 0 rfl rfl (by omega) dX6_note_145 ?_
                have b_12 := I.ns p9
                refine lv_iconst (v := iI (1)) hx hb dX6_note_146 rfl ?_
                refine z_iadd hx hb dX6_note_147 ?_
                refine z_iast (v := (ns p9) + 1) hx hb hK hP hD hS 7 0 rfl rfl (by omega) dX6_note_148 (fun H locs hP hD hS => ?_)
                have hP : va_P D vwCl (wM q cy nK st le be te ab bl (uZ ka ((40 * p9) + (ns p9)) k) (uZ bg ((40 * p9) + (ns p9)) b9) (uZ ln ((40 * p9) + (ns p9)) l9) (uZ ns p9 ((ns p9) + 1)) me sc pi re bk 0 co bs gr lo) H := hP
                have hD : va_D A (wM q cy nK st le be te ab bl (uZ ka ((40 * p9) + (ns p9)) k) (uZ bg ((40 * p9) + (ns p9)) b9) (uZ ln ((40 * p9) + (ns p9)) l9) (uZ ns p9 ((ns p9) + 1)) me sc pi re bk 0 co bs gr lo) := hD
                refine lv_iload hx hb dX6_note_149 (lv_at hl 0 rfl) ?_
                have hw9 : wM q cy nK st le be te ab bl (uZ ka ((40 * p9) + (ns p9)) k) (uZ bg ((40 * p9) + (ns p9)) b9) (uZ ln ((40 * p9) + (ns p9)) l9) (uZ ns p9 ((ns p9) + 1)) me sc pi re bk 0 co bs gr lo = wM q cy nK st le be te ab bl (uZ ka (p9 * 40 + ns p9) k) (uZ bg (p9 * 40 + ns p9) b9) (uZ ln (p9 * 40 + ns p9) l9) (uZ ns p9 (ns p9 + 1)) me sc pi re bk 0 co bs gr lo := by rw [Int.mul_comm p9 40]
                rw [hw9] at hP hD
                exact z_iret X hK hP hD hS dX6_note_151 (by first | rfl | omega | grind)
              · exact absurd c_11 (by omega)
            · exact absurd c_10 (by omega)
        · exact absurd c_4 (by omega)
  · exact absurd c_1 (by omega)

set_option maxHeartbeats 4000000 in
set_option maxRecDepth 100000 in
theorem c_X6_note_no (I : okS nK st le be te ab bl ka bg ln ns me sc pi re bk) (p9 : Int) (k : Int) (b9 : Int) (l9 : Int) (h : -2147483648 ≤ p9 ∧ p9 ≤ 2147483647 ∧ -2147483648 ≤ k ∧ k ≤ 2147483647 ∧ -2147483648 ≤ b9 ∧ b9 ≤ 2147483647 ∧ -2147483648 ≤ l9 ∧ l9 ≤ 2147483647) (hno : ¬ ((0 ≤ p9 ∧ p9 ≤ 3) ∧ ((0 ≤ k ∧ k ≤ 23) ∧ (0 ≤ b9 ∧ b9 ≤ 999) ∧ (1 ≤ l9 ∧ l9 ≤ 99)) ∧ (if ns p9 = 0 then 0 else bg (p9 * 40 + ns p9 - 1)) ≤ b9 ∧ ns p9 < 40)) : MI l D cy yX6_note wsX6_note ({ frames := 2, cells := 0, slots := 0, locals := 45 } : Room) [.ref (q 0), .int (iI p9), .int (iI k), .int (iI b9), .int (iI l9)] (wM q cy nK st le be te ab bl ka bg ln ns me sc pi re bk th co bs gr lo) (if 0 ≤ p9 ∧ p9 ≤ 3 then (if (0 ≤ k ∧ k ≤ 23) ∧ (0 ≤ b9 ∧ b9 ≤ 999) ∧ (1 ≤ l9 ∧ l9 ≤ 99) then (if b9 < (if ns p9 = 0 then 0 else bg (p9 * 40 + ns p9 - 1)) then (-100003) else (-100004)) else (-100002)) else (-100001)) (wM q cy nK st le be te ab bl ka bg ln ns me sc pi re bk 0 co bs gr lo) := by
  refine MI.ofW (cc := cX6_note) (maxL := 6) (ret := (some .int)) (by decide) rfl (Nat.le_of_ble_eq_true rfl) ?_
  intro p e s m below meth c A ls X hK hP hD hA hS hl
  obtain ⟨hx, hb, hml, hr, hts, hown, hlocks⟩ := id X
  have hl : lv_has ls 6 [(0, .ref (q 0)), (1, .int (iI p9)), (2, .int (iI k)), (3, .int (iI b9)), (4, .int (iI l9))] := hl
  have f_63 := hts (Cond.fieldLink RX6 63 "TwoKeysModel" "thrown" "I") (by decide +kernel)
  have K_70 := hts (Cond.constantLong RX6 70 (23)) (by decide +kernel)
  have k_78 := hts (Cond.constant RX6 78 (-100002)) (by decide +kernel)
  have K_126 := hts (Cond.constantLong RX6 126 (999)) (by decide +kernel)
  have K_146 := hts (Cond.constantLong RX6 146 (99)) (by decide +kernel)
  have f_35 := hts (Cond.fieldLink RX6 35 "TwoKeysModel" "notes" "[I") (by decide +kernel)
  have k_149 := hts (Cond.constant RX6 149 (-100004)) (by decide +kernel)
  have f_41 := hts (Cond.fieldLink RX6 41 "TwoKeysModel" "begin" "[I") (by decide +kernel)
  have k_148 := hts (Cond.constant RX6 148 (-100003)) (by decide +kernel)
  have k_86 := hts (Cond.constant RX6 86 (-100001)) (by decide +kernel)
  have n_X6 : ∀ w ∈ u_ws RX6 TX6 21, w ∈ wsX6_note := by decide +kernel
  have iK := I.nK
  have i9 := I.ns p9
  have i7 := I.bg (40 * p9 + ns p9 - 1)
  have i8 : (ns p9 = 0 ∧ (if ns p9 = 0 then 0 else bg (p9 * 40 + ns p9 - 1)) = 0) ∨ (ns p9 ≠ 0 ∧ (if ns p9 = 0 then 0 else bg (p9 * 40 + ns p9 - 1)) = bg (40 * p9 + ns p9 - 1)) := by (by_cases g : ns p9 = 0); (exact Or.inl ⟨g, if_pos g⟩); (exact Or.inr ⟨g, by rw [if_neg g, Int.mul_comm p9 40]⟩)
  generalize (if ns p9 = 0 then 0 else bg (p9 * 40 + ns p9 - 1)) = L9 at hno i8 ⊢
  refine lv_aload_n hx hb dX6_note_0 rfl (lv_at hl 0 rfl) ?_
  refine lv_iconst (v := iI (0)) hx hb dX6_note_1 rfl ?_
  refine va_put (D := D) (ci := 6) (v := .int (iI 0)) (ty := .int) (C := RX6) (T := TX6) (N := 21) hx hb hts n_X6 tyX6 tyX6_ok nmX6 hown hK hP hD hS 0 rfl rfl 0 (by decide) f_63 (fun _ h9 => h9) rfl (by decide +kernel) rfl rfl (Nat.le_of_ble_eq_true rfl) dX6_note_2 (fun H locs hP hD hS => ?_)
  have hP : va_P D vwCl (wM q cy nK st le be te ab bl ka bg ln ns me sc pi re bk 0 co bs gr lo) H := hP
  have hD : va_D A (wM q cy nK st le be te ab bl ka bg ln ns me sc pi re bk 0 co bs gr lo) := hD
  refine lv_iload_n hx hb dX6_note_5 rfl (lv_at hl 1 rfl) ?_
  refine z_callSi (As := [.int (iI p9)]) (rest := []) X hK hP hD hA hS hl.1 gX6_note_X6_noPiece rfl ⟨rfl, rfl⟩ hd_X6_noPiece ⟨Nat.le_of_ble_eq_true rfl, Nat.le_of_ble_eq_true rfl⟩ rfl (Nat.le_of_ble_eq_true rfl) ⟨Nat.zero_le _, Nat.zero_le _⟩ rfl dX6_note_6 (c_X6_noPiece p9 (by omega)) (fun H locs hP hD hS => ?_)
  refine z_ifp_eq (tgt := 15) hx hb dX6_note_9 (by decide) (fun c_1 => ?_) (fun c_1 => ?_)
  · refine lv_iload_n hx hb dX6_note_15 rfl (lv_at hl 2 rfl) ?_
    refine z_i2l hx hb dX6_note_16 (by omega) ?_
    refine lv_lconst (v := lI (0)) hx hb dX6_note_17 (by decide) ?_
    refine z_ldc2 (n := 23) hx hb hown K_70 (by decide) dX6_note_18 ?_
    refine z_callSi (As := [.long (lI k), .long (lI 0), .long (lI 23)]) (rest := []) X hK hP hD hA hS hl.1 gX6_note_X6_in rfl ⟨rfl, rfl⟩ hd_X6_in ⟨Nat.le_of_ble_eq_true rfl, Nat.le_of_ble_eq_true rfl⟩ rfl (Nat.le_of_ble_eq_true rfl) ⟨Nat.zero_le _, Nat.zero_le _⟩ rfl dX6_note_21 (c_X6_in k 0 23 (by omega)) (fun H locs hP hD hS => ?_)
    refine z_ifp_eq (tgt := 52) hx hb dX6_note_24 (by decide) (fun c_2 => ?_) (fun c_2 => ?_)
    · refine z_ldc (n := -100002) hx hb hown k_78 (by decide) dX6_note_52 ?_
      exact z_iret X hK hP hD hS dX6_note_54 (by (repeat' split) <;> first | rfl | omega)
    · refine lv_iload_n hx hb dX6_note_27 rfl (lv_at hl 3 rfl) ?_
      refine z_i2l hx hb dX6_note_28 (by omega) ?_
      refine lv_lconst (v := lI (0)) hx hb dX6_note_29 (by decide) ?_
      refine z_ldc2 (n := 999) hx hb hown K_126 (by decide) dX6_note_30 ?_
      refine z_callSi (As := [.long (lI b9), .long (lI 0), .long (lI 999)]) (rest := []) X hK hP hD hA hS hl.1 gX6_note_X6_in rfl ⟨rfl, rfl⟩ hd_X6_in ⟨Nat.le_of_ble_eq_true rfl, Nat.le_of_ble_eq_true rfl⟩ rfl (Nat.le_of_ble_eq_true rfl) ⟨Nat.zero_le _, Nat.zero_le _⟩ rfl dX6_note_33 (c_X6_in b9 0 999 (by omega)) (fun H locs hP hD hS => ?_)
      refine z_ifp_eq (tgt := 52) hx hb dX6_note_36 (by decide) (fun c_3 => ?_) (fun c_3 => ?_)
      · refine z_ldc (n := -100002) hx hb hown k_78 (by decide) dX6_note_52 ?_
        exact z_iret X hK hP hD hS dX6_note_54 (by (repeat' split) <;> first | rfl | omega)
      · refine lv_iload hx hb dX6_note_39 (lv_at hl 4 rfl) ?_
        refine z_i2l hx hb dX6_note_41 (by omega) ?_
        refine lv_lconst (v := lI (1)) hx hb dX6_note_42 (by decide) ?_
        refine z_ldc2 (n := 99) hx hb hown K_146 (by decide) dX6_note_43 ?_
        refine z_callSi (As := [.long (lI l9), .long (lI 1), .long (lI 99)]) (rest := []) X hK hP hD hA hS hl.1 gX6_note_X6_in rfl ⟨rfl, rfl⟩ hd_X6_in ⟨Nat.le_of_ble_eq_true rfl, Nat.le_of_ble_eq_true rfl⟩ rfl (Nat.le_of_ble_eq_true rfl) ⟨Nat.zero_le _, Nat.zero_le _⟩ rfl dX6_note_46 (c_X6_in l9 1 99 (by omega)) (fun H locs hP hD hS => ?_)
        refine z_ifp_ne (tgt := 55) hx hb dX6_note_49 (by decide) (fun c_4 => ?_) (fun c_4 => ?_)
        · refine lv_aload_n hx hb dX6_note_55 rfl (lv_at hl 0 rfl) ?_
          refine va_get (D := D) (ci := 6) (v := .ref (q 7)) (C := RX6) (T := TX6) (N := 21) hx hb hts n_X6 hown hK hP 0 rfl rfl 10 (by decide) f_35 (fun _ h9 => h9) rfl dX6_note_56 ?_
          refine lv_iload_n hx hb dX6_note_59 rfl (lv_at hl 1 rfl) ?_
          refine z_iald hx hb hK hP 7 0 rfl rfl (by omega) dX6_note_60 ?_
          have b_5 := I.ns p9
          refine lv_istore (lv' := [(5, .int (iI (ns p9))), (0, .ref (q 0)), (1, .int (iI p9)), (2, .int (iI k)), (3, .int (iI b9)), (4, .int (iI l9))]) hx hb dX6_note_61 hl (by decide) rfl (fun ls hl => ?_)
          refine lv_iload hx hb dX6_note_63 (lv_at hl 0 rfl) ?_
          refine z_if_le (tgt := 89) hx hb dX6_note_65 (by decide) (by omega) (fun c_6 => ?_) (fun c_6 => ?_)
          · refine lv_iload hx hb dX6_note_89 (lv_at hl 0 rfl) ?_
            refine lv_bipush (v := iI (40)) hx hb dX6_note_91 (by decide) ?_
            refine z_icmp_ne (tgt := 99) hx hb dX6_note_93 (by decide) (by omega) (fun c_7 => ?_) (fun c_7 => ?_)
            · exact absurd c_7 (by omega)
            · refine z_ldc (n := -100004) hx hb hown k_149 (by decide) dX6_note_96 ?_
              exact z_iret X hK hP hD hS dX6_note_98 (by (repeat' split) <;> first | rfl | omega)
          · refine lv_iload_n hx hb dX6_note_68 rfl (lv_at hl 4 rfl) ?_
            refine lv_aload_n hx hb dX6_note_69 rfl (lv_at hl 1 rfl) ?_
            refine va_get (D := D) (ci := 6) (v := .ref (q 9)) (C := RX6) (T := TX6) (N := 21) hx hb hts n_X6 hown hK hP 0 rfl rfl 12 (by decide) f_41 (fun _ h9 => h9) rfl dX6_note_70 ?_
            refine lv_bipush (v := iI (40)) hx hb dX6_note_73 (by decide) ?_
            refine lv_iload_n hx hb dX6_note_75 rfl (lv_at hl 2 rfl) ?_
            refine z_imul hx hb dX6_note_76 ?_
            refine lv_iload hx hb dX6_note_77 (lv_at hl 0 rfl) ?_
            refine z_iadd hx hb dX6_note_79 ?_
            refine lv_iconst (v := iI (1)) hx hb dX6_note_80 rfl ?_
            refine z_isub hx hb dX6_note_81 ?_
            refine z_iald hx hb hK hP 9 0 rfl rfl (by omega) dX6_note_82 ?_
            have b_8 := I.bg (((40 * p9) + (ns p9)) - 1)
            refine z_icmp_ge (tgt := 89) hx hb dX6_note_83 (by decide) (by omega) (fun c_9 => ?_) (fun c_9 => ?_)
            · refine lv_iload hx hb dX6_note_89 (lv_at hl 0 rfl) ?_
              refine lv_bipush (v := iI (40)) hx hb dX6_note_91 (by decide) ?_
              refine z_icmp_ne (tgt := 99) hx hb dX6_note_93 (by decide) (by omega) (fun c_10 => ?_) (fun c_10 => ?_)
              · exact absurd c_10 (by omega)
              · refine z_ldc (n := -100004) hx hb hown k_149 (by decide) dX6_note_96 ?_
                exact z_iret X hK hP hD hS dX6_note_98 (by (repeat' split) <;> first | rfl | omega)
            · refine z_ldc (n := -100003) hx hb hown k_148 (by decide) dX6_note_86 ?_
              exact z_iret X hK hP hD hS dX6_note_88 (by (repeat' split) <;> first | rfl | omega)
        · refine z_ldc (n := -100002) hx hb hown k_78 (by decide) dX6_note_52 ?_
          exact z_iret X hK hP hD hS dX6_note_54 (by (repeat' split) <;> first | rfl | omega)
  · refine z_ldc (n := -100001) hx hb hown k_86 (by decide) dX6_note_12 ?_
    exact z_iret X hK hP hD hS dX6_note_14 (by (repeat' split) <;> first | rfl | omega)

theorem hd_X6_clashes : yX6_clashes.cls = RX6 ∧ yX6_clashes.cls ≠ "java/lang/invoke/MethodHandle" ∧ yX6_clashes.cls ≠ "java/lang/invoke/VarHandle" ∧ (parseMethodDescriptor yX6_clashes.desc).map (fun d => d.parameters.length) = some 1 := by decide +kernel
set_option maxHeartbeats 4000000 in
set_option maxRecDepth 100000 in
theorem c_X6_clashes (I : okS nK st le be te ab bl ka bg ln ns me sc pi re bk) (p9 : Int) (h : -2147483648 ≤ p9 ∧ p9 ≤ 2147483647) : MI l D cy yX6_clashes wsX6_clashes ({ frames := 2, cells := 0, slots := 0, locals := 48 } : Room) [.ref (q 0), .int (iI p9)] (wM q cy nK st le be te ab bl ka bg ln ns me sc pi re bk th co bs gr lo) (if 0 ≤ p9 ∧ p9 ≤ 3 then clN nK st ka bg ln (p9 * 40) (p9 * 40 + ns p9) else (-100001)) (wM q cy nK st le be te ab bl ka bg ln ns me sc pi re bk 0 co bs gr lo) := by
  refine MI.ofW (cc := cX6_clashes) (maxL := 2) (ret := (some .int)) (by decide) rfl (Nat.le_of_ble_eq_true rfl) ?_
  intro p e s m below meth c A ls X hK hP hD hA hS hl
  obtain ⟨hx, hb, hml, hr, hts, hown, hlocks⟩ := id X
  have hl : lv_has ls 2 [(0, .ref (q 0)), (1, .int (iI p9))] := hl
  have f_63 := hts (Cond.fieldLink RX6 63 "TwoKeysModel" "thrown" "I") (by decide +kernel)
  have k_86 := hts (Cond.constant RX6 86 (-100001)) (by decide +kernel)
  have n_X6 : ∀ w ∈ u_ws RX6 TX6 21, w ∈ wsX6_clashes := by decide +kernel
  have iK := I.nK
  refine lv_aload_n hx hb dX6_clashes_0 rfl (lv_at hl 0 rfl) ?_
  refine lv_iconst (v := iI (0)) hx hb dX6_clashes_1 rfl ?_
  refine va_put (D := D) (ci := 6) (v := .int (iI 0)) (ty := .int) (C := RX6) (T := TX6) (N := 21) hx hb hts n_X6 tyX6 tyX6_ok nmX6 hown hK hP hD hS 0 rfl rfl 0 (by decide) f_63 (fun _ h9 => h9) rfl (by decide +kernel) rfl rfl (Nat.le_of_ble_eq_true rfl) dX6_clashes_2 (fun H locs hP hD hS => ?_)
  have hP : va_P D vwCl (wM q cy nK st le be te ab bl ka bg ln ns me sc pi re bk 0 co bs gr lo) H := hP
  have hD : va_D A (wM q cy nK st le be te ab bl ka bg ln ns me sc pi re bk 0 co bs gr lo) := hD
  refine lv_iload_n hx hb dX6_clashes_5 rfl (lv_at hl 1 rfl) ?_
  refine z_callSi (As := [.int (iI p9)]) (rest := []) X hK hP hD hA hS hl.1 gX6_clashes_X6_noPiece rfl ⟨rfl, rfl⟩ hd_X6_noPiece ⟨Nat.le_of_ble_eq_true rfl, Nat.le_of_ble_eq_true rfl⟩ rfl (Nat.le_of_ble_eq_true rfl) ⟨Nat.zero_le _, Nat.zero_le _⟩ rfl dX6_clashes_6 (c_X6_noPiece p9 (by omega)) (fun H locs hP hD hS => ?_)
  refine z_ifp_eq (tgt := 17) hx hb dX6_clashes_9 (by decide) (fun c_1 => ?_) (fun c_1 => ?_)
  · refine lv_aload_n hx hb dX6_clashes_17 rfl (lv_at hl 0 rfl) ?_
    refine lv_iload_n hx hb dX6_clashes_18 rfl (lv_at hl 1 rfl) ?_
    refine z_callVi (ci := 6) (q0 := 0) (As := [.int (iI p9)]) (rest := []) X hK hP hD hA hS hl.1 gX6_clashes_X6_clashesOf rfl ⟨rfl, rfl⟩ hd_X6_clashesOf ⟨Nat.le_of_ble_eq_true rfl, Nat.le_of_ble_eq_true rfl⟩ rfl rfl rfl (Nat.le_of_ble_eq_true rfl) ⟨Nat.zero_le _, Nat.zero_le _⟩ rfl dX6_clashes_19 (c_X6_clashesOf I p9 (by omega)) (fun H locs hP hD hS => ?_)
    exact z_iret X hK hP hD hS dX6_clashes_22 (by (repeat' split) <;> first | rfl | omega)
  · refine z_ldc (n := -100001) hx hb hown k_86 (by decide) dX6_clashes_12 ?_
    refine lv_goto (tgt := 22) hx hb dX6_clashes_14 (by decide) ?_
    exact z_iret X hK hP hD hS dX6_clashes_22 (by (repeat' split) <;> first | rfl | omega)

theorem hd_X6_measure : yX6_measure.cls = RX6 ∧ yX6_measure.cls ≠ "java/lang/invoke/MethodHandle" ∧ yX6_measure.cls ≠ "java/lang/invoke/VarHandle" ∧ (parseMethodDescriptor yX6_measure.desc).map (fun d => d.parameters.length) = some 2 := by decide +kernel
set_option maxHeartbeats 4000000 in
set_option maxRecDepth 100000 in
theorem c_X6_measure_ok (I : okS nK st le be te ab bl ka bg ln ns me sc pi re bk) (k : Int) (t9 : Int) (h : -2147483648 ≤ k ∧ k ≤ 2147483647 ∧ -2147483648 ≤ t9 ∧ t9 ≤ 2147483647) (hok : (0 ≤ k ∧ k < nK) ∧ (t9 = -100009 ∨ (100 ≤ t9 ∧ t9 ≤ 400000))) : MI l D cy yX6_measure wsX6_measure ({ frames := 2, cells := 0, slots := 0, locals := 46 } : Room) [.ref (q 0), .int (iI k), .int (iI t9)] (wM q cy nK st le be te ab bl ka bg ln ns me sc pi re bk th co bs gr lo) (me k) (wM q cy nK st le be te ab bl ka bg ln ns (uZ me k t9) sc pi re bk 0 co bs gr lo) := by
  refine MI.ofW (cc := cX6_measure) (maxL := 4) (ret := (some .int)) (by decide) rfl (Nat.le_of_ble_eq_true rfl) ?_
  intro p e s m below meth c A ls X hK hP hD hA hS hl
  obtain ⟨hx, hb, hml, hr, hts, hown, hlocks⟩ := id X
  have hl : lv_has ls 4 [(0, .ref (q 0)), (1, .int (iI k)), (2, .int (iI t9))] := hl
  have f_63 := hts (Cond.fieldLink RX6 63 "TwoKeysModel" "thrown" "I") (by decide +kernel)
  have k_62 := hts (Cond.constant RX6 62 (-100009)) (by decide +kernel)
  have f_50 := hts (Cond.fieldLink RX6 50 "TwoKeysModel" "measured" "[I") (by decide +kernel)
  have K_91 := hts (Cond.constantLong RX6 91 (100)) (by decide +kernel)
  have K_190 := hts (Cond.constantLong RX6 190 (400000)) (by decide +kernel)
  have n_X6 : ∀ w ∈ u_ws RX6 TX6 21, w ∈ wsX6_measure := by decide +kernel
  have iK := I.nK
  refine lv_aload_n hx hb dX6_measure_0 rfl (lv_at hl 0 rfl) ?_
  refine lv_iconst (v := iI (0)) hx hb dX6_measure_1 rfl ?_
  refine va_put (D := D) (ci := 6) (v := .int (iI 0)) (ty := .int) (C := RX6) (T := TX6) (N := 21) hx hb hts n_X6 tyX6 tyX6_ok nmX6 hown hK hP hD hS 0 rfl rfl 0 (by decide) f_63 (fun _ h9 => h9) rfl (by decide +kernel) rfl rfl (Nat.le_of_ble_eq_true rfl) dX6_measure_2 (fun H locs hP hD hS => ?_)
  have hP : va_P D vwCl (wM q cy nK st le be te ab bl ka bg ln ns me sc pi re bk 0 co bs gr lo) H := hP
  have hD : va_D A (wM q cy nK st le be te ab bl ka bg ln ns me sc pi re bk 0 co bs gr lo) := hD
  refine lv_aload_n hx hb dX6_measure_5 rfl (lv_at hl 0 rfl) ?_
  refine lv_iload_n hx hb dX6_measure_6 rfl (lv_at hl 1 rfl) ?_
  refine z_callVi (ci := 6) (q0 := 0) (As := [.int (iI k)]) (rest := []) X hK hP hD hA hS hl.1 gX6_measure_X6_noKey rfl ⟨rfl, rfl⟩ hd_X6_noKey ⟨Nat.le_of_ble_eq_true rfl, Nat.le_of_ble_eq_true rfl⟩ rfl rfl rfl (Nat.le_of_ble_eq_true rfl) ⟨Nat.zero_le _, Nat.zero_le _⟩ rfl dX6_measure_7 (c_X6_noKey I k (by omega)) (fun H locs hP hD hS => ?_)
  refine z_ifp_eq (tgt := 16) hx hb dX6_measure_10 (by decide) (fun c_1 => ?_) (fun c_1 => ?_)
  · refine lv_iload_n hx hb dX6_measure_16 rfl (lv_at hl 2 rfl) ?_
    refine z_ldc (n := -100009) hx hb hown k_62 (by decide) dX6_measure_17 ?_
    refine z_icmp_eq (tgt := 39) hx hb dX6_measure_19 (by decide) (by omega) (fun c_2 => ?_) (fun c_2 => ?_)
    · refine lv_aload_n hx hb dX6_measure_39 rfl (lv_at hl 0 rfl) ?_
      refine va_get (D := D) (ci := 6) (v := .ref (q 11)) (C := RX6) (T := TX6) (N := 21) hx hb hts n_X6 hown hK hP 0 rfl rfl 16 (by decide) f_50 (fun _ h9 => h9) rfl dX6_measure_40 ?_
      refine lv_iload_n hx hb dX6_measure_43 rfl (lv_at hl 1 rfl) ?_
      refine z_iald hx hb hK hP 11 0 rfl rfl (by omega) dX6_measure_44 ?_
      have b_3 := I.me k
      refine lv_istore_n (lv' := [(3, .int (iI (me k))), (0, .ref (q 0)), (1, .int (iI k)), (2, .int (iI t9))]) hx hb dX6_measure_45 rfl hl (by decide) rfl (fun ls hl => ?_)
      refine lv_aload_n hx hb dX6_measure_46 rfl (lv_at hl 1 rfl) ?_
      refine va_get (D := D) (ci := 6) (v := .ref (q 11)) (C := RX6) (T := TX6) (N := 21) hx hb hts n_X6 hown hK hP 0 rfl rfl 16 (by decide) f_50 (fun _ h9 => h9) rfl dX6_measure_47 ?_
      refine lv_iload_n hx hb dX6_measure_50 rfl (lv_at hl 2 rfl) ?_
      refine lv_iload_n hx hb dX6_measure_51 rfl (lv_at hl 3 rfl) ?_
      refine z_iast (v := t9) hx hb hK hP hD hS 11 0 rfl rfl (by omega) dX6_measure_52 (fun H locs hP hD hS => ?_)
      have hP : va_P D vwCl (wM q cy nK st le be te ab bl ka bg ln ns (uZ me k t9) sc pi re bk 0 co bs gr lo) H := hP
      have hD : va_D A (wM q cy nK st le be te ab bl ka bg ln ns (uZ me k t9) sc pi re bk 0 co bs gr lo) := hD
      refine lv_iload_n hx hb dX6_measure_53 rfl (lv_at hl 0 rfl) ?_
      exact z_iret X hK hP hD hS dX6_measure_54 (by first | rfl | omega | grind)
    · refine lv_iload_n hx hb dX6_measure_22 rfl (lv_at hl 2 rfl) ?_
      refine z_i2l hx hb dX6_measure_23 (by omega) ?_
      refine z_ldc2 (n := 100) hx hb hown K_91 (by decide) dX6_measure_24 ?_
      refine z_ldc2 (n := 400000) hx hb hown K_190 (by decide) dX6_measure_27 ?_
      refine z_callSi (As := [.long (lI t9), .long (lI 100), .long (lI 400000)]) (rest := []) X hK hP hD hA hS hl.1 gX6_measure_X6_in rfl ⟨rfl, rfl⟩ hd_X6_in ⟨Nat.le_of_ble_eq_true rfl, Nat.le_of_ble_eq_true rfl⟩ rfl (Nat.le_of_ble_eq_true rfl) ⟨Nat.zero_le _, Nat.zero_le _⟩ rfl dX6_measure_30 (c_X6_in t9 100 400000 (by omega)) (fun H locs hP hD hS => ?_)
      refine z_ifp_ne (tgt := 39) hx hb dX6_measure_33 (by decide) (fun c_4 => ?_) (fun c_4 => ?_)
      · refine lv_aload_n hx hb dX6_measure_39 rfl (lv_at hl 0 rfl) ?_
        refine va_get (D := D) (ci := 6) (v := .ref (q 11)) (C := RX6) (T := TX6) (N := 21) hx hb hts n_X6 hown hK hP 0 rfl rfl 16 (by decide) f_50 (fun _ h9 => h9) rfl dX6_measure_40 ?_
        refine lv_iload_n hx hb dX6_measure_43 rfl (lv_at hl 1 rfl) ?_
        refine z_iald hx hb hK hP 11 0 rfl rfl (by omega) dX6_measure_44 ?_
        have b_5 := I.me k
        refine lv_istore_n (lv' := [(3, .int (iI (me k))), (0, .ref (q 0)), (1, .int (iI k)), (2, .int (iI t9))]) hx hb dX6_measure_45 rfl hl (by decide) rfl (fun ls hl => ?_)
        refine lv_aload_n hx hb dX6_measure_46 rfl (lv_at hl 1 rfl) ?_
        refine va_get (D := D) (ci := 6) (v := .ref (q 11)) (C := RX6) (T := TX6) (N := 21) hx hb hts n_X6 hown hK hP 0 rfl rfl 16 (by decide) f_50 (fun _ h9 => h9) rfl dX6_measure_47 ?_
        refine lv_iload_n hx hb dX6_measure_50 rfl (lv_at hl 2 rfl) ?_
        refine lv_iload_n hx hb dX6_measure_51 rfl (lv_at hl 3 rfl) ?_
        refine z_iast (v := t9) hx hb hK hP hD hS 11 0 rfl rfl (by omega) dX6_measure_52 (fun H locs hP hD hS => ?_)
        have hP : va_P D vwCl (wM q cy nK st le be te ab bl ka bg ln ns (uZ me k t9) sc pi re bk 0 co bs gr lo) H := hP
        have hD : va_D A (wM q cy nK st le be te ab bl ka bg ln ns (uZ me k t9) sc pi re bk 0 co bs gr lo) := hD
        refine lv_iload_n hx hb dX6_measure_53 rfl (lv_at hl 0 rfl) ?_
        exact z_iret X hK hP hD hS dX6_measure_54 (by first | rfl | omega | grind)
      · exact absurd c_4 (by omega)
  · exact absurd c_1 (by omega)

set_option maxHeartbeats 4000000 in
set_option maxRecDepth 100000 in
theorem c_X6_measure_no (I : okS nK st le be te ab bl ka bg ln ns me sc pi re bk) (k : Int) (t9 : Int) (h : -2147483648 ≤ k ∧ k ≤ 2147483647 ∧ -2147483648 ≤ t9 ∧ t9 ≤ 2147483647) (hno : ¬ ((0 ≤ k ∧ k < nK) ∧ (t9 = -100009 ∨ (100 ≤ t9 ∧ t9 ≤ 400000)))) : MI l D cy yX6_measure wsX6_measure ({ frames := 2, cells := 0, slots := 0, locals := 46 } : Room) [.ref (q 0), .int (iI k), .int (iI t9)] (wM q cy nK st le be te ab bl ka bg ln ns me sc pi re bk th co bs gr lo) (if 0 ≤ k ∧ k < nK then (-100002) else (-100001)) (wM q cy nK st le be te ab bl ka bg ln ns me sc pi re bk 0 co bs gr lo) := by
  refine MI.ofW (cc := cX6_measure) (maxL := 4) (ret := (some .int)) (by decide) rfl (Nat.le_of_ble_eq_true rfl) ?_
  intro p e s m below meth c A ls X hK hP hD hA hS hl
  obtain ⟨hx, hb, hml, hr, hts, hown, hlocks⟩ := id X
  have hl : lv_has ls 4 [(0, .ref (q 0)), (1, .int (iI k)), (2, .int (iI t9))] := hl
  have f_63 := hts (Cond.fieldLink RX6 63 "TwoKeysModel" "thrown" "I") (by decide +kernel)
  have k_62 := hts (Cond.constant RX6 62 (-100009)) (by decide +kernel)
  have K_91 := hts (Cond.constantLong RX6 91 (100)) (by decide +kernel)
  have K_190 := hts (Cond.constantLong RX6 190 (400000)) (by decide +kernel)
  have k_78 := hts (Cond.constant RX6 78 (-100002)) (by decide +kernel)
  have k_86 := hts (Cond.constant RX6 86 (-100001)) (by decide +kernel)
  have n_X6 : ∀ w ∈ u_ws RX6 TX6 21, w ∈ wsX6_measure := by decide +kernel
  have iK := I.nK
  refine lv_aload_n hx hb dX6_measure_0 rfl (lv_at hl 0 rfl) ?_
  refine lv_iconst (v := iI (0)) hx hb dX6_measure_1 rfl ?_
  refine va_put (D := D) (ci := 6) (v := .int (iI 0)) (ty := .int) (C := RX6) (T := TX6) (N := 21) hx hb hts n_X6 tyX6 tyX6_ok nmX6 hown hK hP hD hS 0 rfl rfl 0 (by decide) f_63 (fun _ h9 => h9) rfl (by decide +kernel) rfl rfl (Nat.le_of_ble_eq_true rfl) dX6_measure_2 (fun H locs hP hD hS => ?_)
  have hP : va_P D vwCl (wM q cy nK st le be te ab bl ka bg ln ns me sc pi re bk 0 co bs gr lo) H := hP
  have hD : va_D A (wM q cy nK st le be te ab bl ka bg ln ns me sc pi re bk 0 co bs gr lo) := hD
  refine lv_aload_n hx hb dX6_measure_5 rfl (lv_at hl 0 rfl) ?_
  refine lv_iload_n hx hb dX6_measure_6 rfl (lv_at hl 1 rfl) ?_
  refine z_callVi (ci := 6) (q0 := 0) (As := [.int (iI k)]) (rest := []) X hK hP hD hA hS hl.1 gX6_measure_X6_noKey rfl ⟨rfl, rfl⟩ hd_X6_noKey ⟨Nat.le_of_ble_eq_true rfl, Nat.le_of_ble_eq_true rfl⟩ rfl rfl rfl (Nat.le_of_ble_eq_true rfl) ⟨Nat.zero_le _, Nat.zero_le _⟩ rfl dX6_measure_7 (c_X6_noKey I k (by omega)) (fun H locs hP hD hS => ?_)
  refine z_ifp_eq (tgt := 16) hx hb dX6_measure_10 (by decide) (fun c_1 => ?_) (fun c_1 => ?_)
  · refine lv_iload_n hx hb dX6_measure_16 rfl (lv_at hl 2 rfl) ?_
    refine z_ldc (n := -100009) hx hb hown k_62 (by decide) dX6_measure_17 ?_
    refine z_icmp_eq (tgt := 39) hx hb dX6_measure_19 (by decide) (by omega) (fun c_2 => ?_) (fun c_2 => ?_)
    · exact absurd c_2 (by omega)
    · refine lv_iload_n hx hb dX6_measure_22 rfl (lv_at hl 2 rfl) ?_
      refine z_i2l hx hb dX6_measure_23 (by omega) ?_
      refine z_ldc2 (n := 100) hx hb hown K_91 (by decide) dX6_measure_24 ?_
      refine z_ldc2 (n := 400000) hx hb hown K_190 (by decide) dX6_measure_27 ?_
      refine z_callSi (As := [.long (lI t9), .long (lI 100), .long (lI 400000)]) (rest := []) X hK hP hD hA hS hl.1 gX6_measure_X6_in rfl ⟨rfl, rfl⟩ hd_X6_in ⟨Nat.le_of_ble_eq_true rfl, Nat.le_of_ble_eq_true rfl⟩ rfl (Nat.le_of_ble_eq_true rfl) ⟨Nat.zero_le _, Nat.zero_le _⟩ rfl dX6_measure_30 (c_X6_in t9 100 400000 (by omega)) (fun H locs hP hD hS => ?_)
      refine z_ifp_ne (tgt := 39) hx hb dX6_measure_33 (by decide) (fun c_3 => ?_) (fun c_3 => ?_)
      · exact absurd c_3 (by omega)
      · refine z_ldc (n := -100002) hx hb hown k_78 (by decide) dX6_measure_36 ?_
        exact z_iret X hK hP hD hS dX6_measure_38 (by (repeat' split) <;> first | rfl | omega)
  · refine z_ldc (n := -100001) hx hb hown k_86 (by decide) dX6_measure_13 ?_
    exact z_iret X hK hP hD hS dX6_measure_15 (by (repeat' split) <;> first | rfl | omega)

theorem hd_X6_wrong : yX6_wrong.cls = RX6 ∧ yX6_wrong.cls ≠ "java/lang/invoke/MethodHandle" ∧ yX6_wrong.cls ≠ "java/lang/invoke/VarHandle" ∧ (parseMethodDescriptor yX6_wrong.desc).map (fun d => d.parameters.length) = some 0 := by decide +kernel
set_option maxHeartbeats 4000000 in
set_option maxRecDepth 100000 in
theorem c_X6_wrong (I : okS nK st le be te ab bl ka bg ln ns me sc pi re bk)   : MI l D cy yX6_wrong wsX6_wrong ({ frames := 4, cells := 0, slots := 0, locals := 85 } : Room) [.ref (q 0)] (wM q cy nK st le be te ab bl ka bg ln ns me sc pi re bk th co bs gr lo) (sZ (fun k => aZ (er st le be te ab bl sc pi k)) 0 nK) (wM q cy nK st le be te ab bl ka bg ln ns me sc pi re bk 0 co bs gr lo) := by
  refine MI.ofW (cc := cX6_wrong) (maxL := 1) (ret := (some .int)) (by decide) rfl (Nat.le_of_ble_eq_true rfl) ?_
  intro p e s m below meth c A ls X hK hP hD hA hS hl
  obtain ⟨hx, hb, hml, hr, hts, hown, hlocks⟩ := id X
  have hl : lv_has ls 1 [(0, .ref (q 0))] := hl
  have f_63 := hts (Cond.fieldLink RX6 63 "TwoKeysModel" "thrown" "I") (by decide +kernel)
  have n_X6 : ∀ w ∈ u_ws RX6 TX6 21, w ∈ wsX6_wrong := by decide +kernel
  have iK := I.nK
  refine lv_aload_n hx hb dX6_wrong_0 rfl (lv_at hl 0 rfl) ?_
  refine lv_iconst (v := iI (0)) hx hb dX6_wrong_1 rfl ?_
  refine va_put (D := D) (ci := 6) (v := .int (iI 0)) (ty := .int) (C := RX6) (T := TX6) (N := 21) hx hb hts n_X6 tyX6 tyX6_ok nmX6 hown hK hP hD hS 0 rfl rfl 0 (by decide) f_63 (fun _ h9 => h9) rfl (by decide +kernel) rfl rfl (Nat.le_of_ble_eq_true rfl) dX6_wrong_2 (fun H locs hP hD hS => ?_)
  have hP : va_P D vwCl (wM q cy nK st le be te ab bl ka bg ln ns me sc pi re bk 0 co bs gr lo) H := hP
  have hD : va_D A (wM q cy nK st le be te ab bl ka bg ln ns me sc pi re bk 0 co bs gr lo) := hD
  refine lv_aload_n hx hb dX6_wrong_5 rfl (lv_at hl 0 rfl) ?_
  refine z_callVi (ci := 6) (q0 := 0) (As := []) (rest := []) X hK hP hD hA hS hl.1 gX6_wrong_X6_allWrong rfl ⟨rfl, rfl⟩ hd_X6_allWrong ⟨Nat.le_of_ble_eq_true rfl, Nat.le_of_ble_eq_true rfl⟩ rfl rfl rfl (Nat.le_of_ble_eq_true rfl) ⟨Nat.zero_le _, Nat.zero_le _⟩ rfl dX6_wrong_6 (c_X6_allWrong I) (fun H locs hP hD hS => ?_)
  exact z_iret X hK hP hD hS dX6_wrong_9 (by first | rfl | omega | grind)

theorem hd_X6_worst : yX6_worst.cls = RX6 ∧ yX6_worst.cls ≠ "java/lang/invoke/MethodHandle" ∧ yX6_worst.cls ≠ "java/lang/invoke/VarHandle" ∧ (parseMethodDescriptor yX6_worst.desc).map (fun d => d.parameters.length) = some 0 := by decide +kernel
set_option maxHeartbeats 4000000 in
set_option maxRecDepth 100000 in
theorem c_X6_worst (I : okS nK st le be te ab bl ka bg ln ns me sc pi re bk)   : MI l D cy yX6_worst wsX6_worst ({ frames := 3, cells := 0, slots := 0, locals := 63 } : Room) [.ref (q 0)] (wM q cy nK st le be te ab bl ka bg ln ns me sc pi re bk th co bs gr lo) (wsZ (fun k => aZ (er st le be te ab bl sc pi k)) (nK - 1).toNat) (wM q cy nK st le be te ab bl ka bg ln ns me sc pi re bk 0 co bs gr lo) := by
  refine MI.ofW (cc := cX6_worst) (maxL := 3) (ret := (some .int)) (by decide) rfl (Nat.le_of_ble_eq_true rfl) ?_
  intro p e s m below meth c A ls X hK hP hD hA hS hl
  obtain ⟨hx, hb, hml, hr, hts, hown, hlocks⟩ := id X
  have hl : lv_has ls 3 [(0, .ref (q 0))] := hl
  have f_63 := hts (Cond.fieldLink RX6 63 "TwoKeysModel" "thrown" "I") (by decide +kernel)
  have f_7 := hts (Cond.fieldLink RX6 7 "TwoKeysModel" "keys" "I") (by decide +kernel)
  have n_X6 : ∀ w ∈ u_ws RX6 TX6 21, w ∈ wsX6_worst := by decide +kernel
  have iK := I.nK
  refine lv_aload_n hx hb dX6_worst_0 rfl (lv_at hl 0 rfl) ?_
  refine lv_iconst (v := iI (0)) hx hb dX6_worst_1 rfl ?_
  refine va_put (D := D) (ci := 6) (v := .int (iI 0)) (ty := .int) (C := RX6) (T := TX6) (N := 21) hx hb hts n_X6 tyX6 tyX6_ok nmX6 hown hK hP hD hS 0 rfl rfl 0 (by decide) f_63 (fun _ h9 => h9) rfl (by decide +kernel) rfl rfl (Nat.le_of_ble_eq_true rfl) dX6_worst_2 (fun H locs hP hD hS => ?_)
  have hP : va_P D vwCl (wM q cy nK st le be te ab bl ka bg ln ns me sc pi re bk 0 co bs gr lo) H := hP
  have hD : va_D A (wM q cy nK st le be te ab bl ka bg ln ns me sc pi re bk 0 co bs gr lo) := hD
  refine lv_iconst (v := iI (0)) hx hb dX6_worst_5 rfl ?_
  refine lv_istore_n (lv' := [(1, .int (iI 0)), (0, .ref (q 0))]) hx hb dX6_worst_6 rfl hl (by decide) rfl (fun ls hl => ?_)
  refine lv_iconst (v := iI (1)) hx hb dX6_worst_7 rfl ?_
  refine lv_istore_n (lv' := [(2, .int (iI 1)), (1, .int (iI 0)), (0, .ref (q 0))]) hx hb dX6_worst_8 rfl hl (by decide) rfl (fun ls hl => ?_)
  have L_9 : ∀ (n : Nat) (at9 : Int) (k : Int), (h0 : 1 ≤ k ∧ k ≤ nK) → (hf : nK - k < n) → (hr : at9 = wsZ (fun k => aZ (er st le be te ab bl sc pi k)) (k - 1).toNat) → (ha : 0 ≤ at9 ∧ at9 < 24) → ∀ (H : Heap) (locs : List Loc) (ls : Array Slot), va_P D vwCl (wM q cy nK st le be te ab bl ka bg ln ns me sc pi re bk 0 co bs gr lo) H → va_D A (wM q cy nK st le be te ab bl ka bg ln ns me sc pi re bk 0 co bs gr lo) → va_S A s.heap H locs → lv_has ls 3 [(2, .int (iI k)), (1, .int (iI at9)), (0, .ref (q 0))] → W p l e ({ frames := 3, cells := 0, slots := 0, locals := 63 } : Room) s m [.ref (q 0)].toArray below meth c H locs 0 0 (MQ below (zQi D cy (wM q cy nK st le be te ab bl ka bg ln ns me sc pi re bk 0 co bs gr lo) A (wsZ (fun k => aZ (er st le be te ab bl sc pi k)) (nK - 1).toNat)) [.ref (q 0)].toArray s 0 0 A) (F0 m 9 ls []) := by
    intro n
    induction n with
    | zero =>
      intro at9 k h0 hf hr ha
      exfalso; omega
    | succ n ih_9 =>
      intro at9 k h0 hf hr ha H locs ls hP hD hS hl
      have b5 := er_b I at9
      have b3 := aZ_b (er st le be te ab bl sc pi at9)
      refine lv_iload_n hx hb dX6_worst_9 rfl (lv_at hl 0 rfl) ?_
      refine lv_aload_n hx hb dX6_worst_10 rfl (lv_at hl 2 rfl) ?_
      refine va_get (D := D) (ci := 6) (v := .int (iI nK)) (C := RX6) (T := TX6) (N := 21) hx hb hts n_X6 hown hK hP 0 rfl rfl 1 (by decide) f_7 (fun _ h9 => h9) rfl dX6_worst_11 ?_
      refine z_icmp_ge (tgt := 48) hx hb dX6_worst_14 (by decide) (by omega) (fun c_1 => ?_) (fun c_1 => ?_)
      · refine lv_iload_n hx hb dX6_worst_48 rfl (lv_at hl 1 rfl) ?_
        exact z_iret X hK hP hD hS dX6_worst_49 (by rw [hr, show k = nK by omega])
      · refine lv_aload_n hx hb dX6_worst_17 rfl (lv_at hl 2 rfl) ?_
        refine lv_iload_n hx hb dX6_worst_18 rfl (lv_at hl 0 rfl) ?_
        refine z_callVi (ci := 6) (q0 := 0) (As := [.int (iI k)]) (rest := []) X hK hP hD hA hS hl.1 gX6_worst_X6_errorOf rfl ⟨rfl, rfl⟩ hd_X6_errorOf ⟨Nat.le_of_ble_eq_true rfl, Nat.le_of_ble_eq_true rfl⟩ rfl rfl rfl (Nat.le_of_ble_eq_true rfl) ⟨Nat.zero_le _, Nat.zero_le _⟩ rfl dX6_worst_19 (c_X6_errorOf I k (by omega)) (fun H locs hP hD hS => ?_)
        have b7 := er_b I k
        have b2 := aZ_b (er st le be te ab bl sc pi k)
        refine z_callSi (As := [.int (iI (er st le be te ab bl sc pi k))]) (rest := []) X hK hP hD hA hS hl.1 gX6_worst_X6_size rfl ⟨rfl, rfl⟩ hd_X6_size ⟨Nat.le_of_ble_eq_true rfl, Nat.le_of_ble_eq_true rfl⟩ rfl (Nat.le_of_ble_eq_true rfl) ⟨Nat.zero_le _, Nat.zero_le _⟩ rfl dX6_worst_22 (c_X6_size (er st le be te ab bl sc pi k) (by omega)) (fun H locs hP hD hS => ?_)
        refine lv_aload_n hx hb dX6_worst_25 rfl (lv_at hl 2 rfl) ?_
        refine lv_iload_n hx hb dX6_worst_26 rfl (lv_at hl 1 rfl) ?_
        refine z_callVi (ci := 6) (q0 := 0) (As := [.int (iI at9)]) (rest := [.int (iI (aZ (er st le be te ab bl sc pi k)))]) X hK hP hD hA hS hl.1 gX6_worst_X6_errorOf rfl ⟨rfl, rfl⟩ hd_X6_errorOf ⟨Nat.le_of_ble_eq_true rfl, Nat.le_of_ble_eq_true rfl⟩ rfl rfl rfl (Nat.le_of_ble_eq_true rfl) ⟨Nat.zero_le _, Nat.zero_le _⟩ rfl dX6_worst_27 (c_X6_errorOf I at9 (by omega)) (fun H locs hP hD hS => ?_)
        refine z_callSi (As := [.int (iI (er st le be te ab bl sc pi at9))]) (rest := [.int (iI (aZ (er st le be te ab bl sc pi k)))]) X hK hP hD hA hS hl.1 gX6_worst_X6_size rfl ⟨rfl, rfl⟩ hd_X6_size ⟨Nat.le_of_ble_eq_true rfl, Nat.le_of_ble_eq_true rfl⟩ rfl (Nat.le_of_ble_eq_true rfl) ⟨Nat.zero_le _, Nat.zero_le _⟩ rfl dX6_worst_30 (c_X6_size (er st le be te ab bl sc pi at9) (by omega)) (fun H locs hP hD hS => ?_)
        refine z_icmp_le (tgt := 40) hx hb dX6_worst_33 (by decide) (by omega) (fun c_2 => ?_) (fun c_2 => ?_)
        · refine lv_iload_n hx hb dX6_worst_40 rfl (lv_at hl 1 rfl) ?_
          refine lv_istore_n (lv' := [(1, .int (iI at9)), (2, .int (iI k)), (0, .ref (q 0))]) hx hb dX6_worst_41 rfl hl (by decide) rfl (fun ls hl => ?_)
          refine lv_iinc (v := iI (k + 1)) (lv' := [(2, .int (iI (k + 1))), (1, .int (iI at9)), (0, .ref (q 0))]) hx hb dX6_worst_42 hl (k := 1) rfl (iI_add _ _) (by decide) rfl (fun ls hl => ?_)
          refine lv_goto (tgt := 9) hx hb dX6_worst_45 (by decide) ?_
          exact ih_9 at9 (k + 1) (by omega) (by omega) (by first | exact wsZ_gt (by omega) hr rfl (by omega) | exact wsZ_le (by omega) hr rfl (by omega)) (by omega) _ _ _ hP hD hS (lv_sub hl [0, 1, 2] rfl)
        · refine lv_iload_n hx hb dX6_worst_36 rfl (lv_at hl 0 rfl) ?_
          refine lv_goto (tgt := 41) hx hb dX6_worst_37 (by decide) ?_
          refine lv_istore_n (lv' := [(1, .int (iI k)), (2, .int (iI k)), (0, .ref (q 0))]) hx hb dX6_worst_41 rfl hl (by decide) rfl (fun ls hl => ?_)
          refine lv_iinc (v := iI (k + 1)) (lv' := [(2, .int (iI (k + 1))), (1, .int (iI k)), (0, .ref (q 0))]) hx hb dX6_worst_42 hl (k := 1) rfl (iI_add _ _) (by decide) rfl (fun ls hl => ?_)
          refine lv_goto (tgt := 9) hx hb dX6_worst_45 (by decide) ?_
          exact ih_9 k (k + 1) (by omega) (by omega) (by first | exact wsZ_gt (by omega) hr rfl (by omega) | exact wsZ_le (by omega) hr rfl (by omega)) (by omega) _ _ _ hP hD hS (lv_sub hl [0, 1, 2] rfl)
  exact L_9 25 0 1 (by omega) (by omega) rfl (by omega) _ _ _ hP hD hS (lv_sub hl [0, 1, 2] rfl)

theorem hd_X6_passes : yX6_passes.cls = RX6 ∧ yX6_passes.cls ≠ "java/lang/invoke/MethodHandle" ∧ yX6_passes.cls ≠ "java/lang/invoke/VarHandle" ∧ (parseMethodDescriptor yX6_passes.desc).map (fun d => d.parameters.length) = some 1 := by decide +kernel
set_option maxHeartbeats 4000000 in
set_option maxRecDepth 100000 in
theorem c_X6_passes (I : okS nK st le be te ab bl ka bg ln ns me sc pi re bk) (p9 : Int) (h : -2147483648 ≤ p9 ∧ p9 ≤ 2147483647) : MI l D cy yX6_passes wsX6_passes ({ frames := 2, cells := 0, slots := 0, locals := 48 } : Room) [.ref (q 0), .int (iI p9)] (wM q cy nK st le be te ab bl ka bg ln ns me sc pi re bk th co bs gr lo) (if 0 ≤ p9 ∧ p9 ≤ 3 then bP ((∀ a, p9 * 40 ≤ a → a < p9 * 40 + ns p9 → ka a < nK) ∧ clN nK st ka bg ln (p9 * 40) (p9 * 40 + ns p9) = 0) else (-100001)) (wM q cy nK st le be te ab bl ka bg ln ns me sc pi re bk 0 co bs gr lo) := by
  refine MI.ofW (cc := cX6_passes) (maxL := 4) (ret := (some .int)) (by decide) rfl (Nat.le_of_ble_eq_true rfl) ?_
  intro p e s m below meth c A ls X hK hP hD hA hS hl
  obtain ⟨hx, hb, hml, hr, hts, hown, hlocks⟩ := id X
  have hl : lv_has ls 4 [(0, .ref (q 0)), (1, .int (iI p9))] := hl
  have f_63 := hts (Cond.fieldLink RX6 63 "TwoKeysModel" "thrown" "I") (by decide +kernel)
  have f_35 := hts (Cond.fieldLink RX6 35 "TwoKeysModel" "notes" "[I") (by decide +kernel)
  have f_38 := hts (Cond.fieldLink RX6 38 "TwoKeysModel" "noteKey" "[I") (by decide +kernel)
  have f_7 := hts (Cond.fieldLink RX6 7 "TwoKeysModel" "keys" "I") (by decide +kernel)
  have k_86 := hts (Cond.constant RX6 86 (-100001)) (by decide +kernel)
  have n_X6 : ∀ w ∈ u_ws RX6 TX6 21, w ∈ wsX6_passes := by decide +kernel
  have iK := I.nK
  refine lv_aload_n hx hb dX6_passes_0 rfl (lv_at hl 0 rfl) ?_
  refine lv_iconst (v := iI (0)) hx hb dX6_passes_1 rfl ?_
  refine va_put (D := D) (ci := 6) (v := .int (iI 0)) (ty := .int) (C := RX6) (T := TX6) (N := 21) hx hb hts n_X6 tyX6 tyX6_ok nmX6 hown hK hP hD hS 0 rfl rfl 0 (by decide) f_63 (fun _ h9 => h9) rfl (by decide +kernel) rfl rfl (Nat.le_of_ble_eq_true rfl) dX6_passes_2 (fun H locs hP hD hS => ?_)
  have hP : va_P D vwCl (wM q cy nK st le be te ab bl ka bg ln ns me sc pi re bk 0 co bs gr lo) H := hP
  have hD : va_D A (wM q cy nK st le be te ab bl ka bg ln ns me sc pi re bk 0 co bs gr lo) := hD
  refine lv_iload_n hx hb dX6_passes_5 rfl (lv_at hl 1 rfl) ?_
  refine z_callSi (As := [.int (iI p9)]) (rest := []) X hK hP hD hA hS hl.1 gX6_passes_X6_noPiece rfl ⟨rfl, rfl⟩ hd_X6_noPiece ⟨Nat.le_of_ble_eq_true rfl, Nat.le_of_ble_eq_true rfl⟩ rfl (Nat.le_of_ble_eq_true rfl) ⟨Nat.zero_le _, Nat.zero_le _⟩ rfl dX6_passes_6 (c_X6_noPiece p9 (by omega)) (fun H locs hP hD hS => ?_)
  refine z_ifp_eq (tgt := 15) hx hb dX6_passes_9 (by decide) (fun c_1 => ?_) (fun c_1 => ?_)
  · have i9 := I.ns p9
    refine lv_iconst (v := iI (1)) hx hb dX6_passes_15 rfl ?_
    refine lv_istore_n (lv' := [(2, .int (iI 1)), (0, .ref (q 0)), (1, .int (iI p9))]) hx hb dX6_passes_16 rfl hl (by decide) rfl (fun ls hl => ?_)
    refine lv_bipush (v := iI (40)) hx hb dX6_passes_17 (by decide) ?_
    refine lv_iload_n hx hb dX6_passes_19 rfl (lv_at hl 2 rfl) ?_
    refine z_imul hx hb dX6_passes_20 ?_
    refine lv_istore_n (lv' := [(3, .int (iI (40 * p9))), (2, .int (iI 1)), (0, .ref (q 0)), (1, .int (iI p9))]) hx hb dX6_passes_21 rfl hl (by decide) rfl (fun ls hl => ?_)
    have L_22 : ∀ (n : Nat) (th9 : Bool) (a : Int), (h0 : 40 * p9 ≤ a ∧ a ≤ 40 * p9 + ns p9) → (hf : 40 * p9 + ns p9 - a < n) → (hr : th9 = true ↔ ∀ x, 40 * p9 ≤ x → x < a → ka x < nK) → ∀ (H : Heap) (locs : List Loc) (ls : Array Slot), va_P D vwCl (wM q cy nK st le be te ab bl ka bg ln ns me sc pi re bk 0 co bs gr lo) H → va_D A (wM q cy nK st le be te ab bl ka bg ln ns me sc pi re bk 0 co bs gr lo) → va_S A s.heap H locs → lv_has ls 4 [(3, .int (iI a)), (2, .int (iI (bZ th9))), (0, .ref (q 0)), (1, .int (iI p9))] → W p l e ({ frames := 2, cells := 0, slots := 0, locals := 48 } : Room) s m [.ref (q 0), .int (iI p9)].toArray below meth c H locs 0 0 (MQ below (zQi D cy (wM q cy nK st le be te ab bl ka bg ln ns me sc pi re bk 0 co bs gr lo) A (if 0 ≤ p9 ∧ p9 ≤ 3 then bP ((∀ a, p9 * 40 ≤ a → a < p9 * 40 + ns p9 → ka a < nK) ∧ clN nK st ka bg ln (p9 * 40) (p9 * 40 + ns p9) = 0) else (-100001))) [.ref (q 0), .int (iI p9)].toArray s 0 0 A) (F0 m 22 ls []) := by
      intro n
      induction n with
      | zero =>
        intro th9 a h0 hf hr
        exfalso; omega
      | succ n ih_22 =>
        intro th9 a h0 hf hr H locs ls hP hD hS hl
        refine lv_iload_n hx hb dX6_passes_22 rfl (lv_at hl 0 rfl) ?_
        refine lv_bipush (v := iI (40)) hx hb dX6_passes_23 (by decide) ?_
        refine lv_iload_n hx hb dX6_passes_25 rfl (lv_at hl 3 rfl) ?_
        refine z_imul hx hb dX6_passes_26 ?_
        refine lv_aload_n hx hb dX6_passes_27 rfl (lv_at hl 2 rfl) ?_
        refine va_get (D := D) (ci := 6) (v := .ref (q 7)) (C := RX6) (T := TX6) (N := 21) hx hb hts n_X6 hown hK hP 0 rfl rfl 10 (by decide) f_35 (fun _ h9 => h9) rfl dX6_passes_28 ?_
        refine lv_iload_n hx hb dX6_passes_31 rfl (lv_at hl 3 rfl) ?_
        refine z_iald hx hb hK hP 7 0 rfl rfl (by omega) dX6_passes_32 ?_
        have b_2 := I.ns p9
        refine z_iadd hx hb dX6_passes_33 ?_
        refine z_icmp_ge (tgt := 66) hx hb dX6_passes_34 (by decide) (by omega) (fun c_3 => ?_) (fun c_3 => ?_)
        · refine lv_iload_n hx hb dX6_passes_66 rfl (lv_at hl 1 rfl) ?_
          refine z_ifb_eq (tgt := 82) hx hb dX6_passes_67 (by decide) (fun c_4 => ?_) (fun c_4 => ?_)
          · refine lv_iconst (v := iI (0)) hx hb dX6_passes_82 rfl ?_
            exact z_iret X hK hP hD hS dX6_passes_83 (by rw [if_pos (by omega)]; first | exact (bP_1 ⟨fun x h1 h2 => hr.mp (by assumption) x (by omega) (by omega), by assumption⟩).symm | exact (bP_0 (fun z => absurd z.2 (by assumption))).symm | exact (bP_0 (fun z => by have := hr.mpr (fun x h1 h2 => z.1 x (by omega) (by omega)); simp_all)).symm)
          · refine lv_aload_n hx hb dX6_passes_70 rfl (lv_at hl 2 rfl) ?_
            refine lv_iload_n hx hb dX6_passes_71 rfl (lv_at hl 3 rfl) ?_
            refine z_callVi (ci := 6) (q0 := 0) (As := [.int (iI p9)]) (rest := []) X hK hP hD hA hS hl.1 gX6_passes_X6_clashesOf rfl ⟨rfl, rfl⟩ hd_X6_clashesOf ⟨Nat.le_of_ble_eq_true rfl, Nat.le_of_ble_eq_true rfl⟩ rfl rfl rfl (Nat.le_of_ble_eq_true rfl) ⟨Nat.zero_le _, Nat.zero_le _⟩ rfl dX6_passes_72 (c_X6_clashesOf I p9 (by omega)) (fun H locs hP hD hS => ?_)
            have b6 := clN_b (nK := nK) (st := st) (ka := ka) (bg := bg) (ln := ln) (lo := p9 * 40) (hi := p9 * 40 + ns p9) (by omega) (by omega)
            refine z_if_ne (tgt := 82) hx hb dX6_passes_75 (by decide) (by omega) (fun c_5 => ?_) (fun c_5 => ?_)
            · refine lv_iconst (v := iI (0)) hx hb dX6_passes_82 rfl ?_
              exact z_iret X hK hP hD hS dX6_passes_83 (by rw [if_pos (by omega)]; first | exact (bP_1 ⟨fun x h1 h2 => hr.mp (by assumption) x (by omega) (by omega), by assumption⟩).symm | exact (bP_0 (fun z => absurd z.2 (by assumption))).symm | exact (bP_0 (fun z => by have := hr.mpr (fun x h1 h2 => z.1 x (by omega) (by omega)); simp_all)).symm)
            · refine lv_iconst (v := iI (1)) hx hb dX6_passes_78 rfl ?_
              refine lv_goto (tgt := 83) hx hb dX6_passes_79 (by decide) ?_
              exact z_iret X hK hP hD hS dX6_passes_83 (by rw [if_pos (by omega)]; first | exact (bP_1 ⟨fun x h1 h2 => hr.mp (by assumption) x (by omega) (by omega), by assumption⟩).symm | exact (bP_0 (fun z => absurd z.2 (by assumption))).symm | exact (bP_0 (fun z => by have := hr.mpr (fun x h1 h2 => z.1 x (by omega) (by omega)); simp_all)).symm)
        · refine lv_iload_n hx hb dX6_passes_37 rfl (lv_at hl 1 rfl) ?_
          refine z_ifb_eq (tgt := 58) hx hb dX6_passes_38 (by decide) (fun c_6 => ?_) (fun c_6 => ?_)
          · refine lv_iconst (v := iI (0)) hx hb dX6_passes_58 rfl ?_
            refine lv_istore_n (lv' := [(2, .int (iI 0)), (3, .int (iI a)), (0, .ref (q 0)), (1, .int (iI p9))]) hx hb dX6_passes_59 rfl hl (by decide) rfl (fun ls hl => ?_)
            refine lv_iinc (v := iI (a + 1)) (lv' := [(3, .int (iI (a + 1))), (2, .int (iI 0)), (0, .ref (q 0)), (1, .int (iI p9))]) hx hb dX6_passes_60 hl (k := 1) rfl (iI_add _ _) (by decide) rfl (fun ls hl => ?_)
            refine lv_goto (tgt := 22) hx hb dX6_passes_63 (by decide) ?_
            exact ih_22 false (a + 1) (by omega) (by omega) (by first | exact pa_f hr (by assumption) | exact pa_t hr (by assumption) (by omega) | exact pa_x hr (by omega) (by omega)) _ _ _ hP hD hS (lv_sub hl [0, 1, 2, 3] rfl)
          · refine lv_aload_n hx hb dX6_passes_41 rfl (lv_at hl 2 rfl) ?_
            refine va_get (D := D) (ci := 6) (v := .ref (q 8)) (C := RX6) (T := TX6) (N := 21) hx hb hts n_X6 hown hK hP 0 rfl rfl 11 (by decide) f_38 (fun _ h9 => h9) rfl dX6_passes_42 ?_
            refine lv_iload_n hx hb dX6_passes_45 rfl (lv_at hl 0 rfl) ?_
            refine z_iald hx hb hK hP 8 0 rfl rfl (by omega) dX6_passes_46 ?_
            have b_7 := I.ka a
            refine lv_aload_n hx hb dX6_passes_47 rfl (lv_at hl 2 rfl) ?_
            refine va_get (D := D) (ci := 6) (v := .int (iI nK)) (C := RX6) (T := TX6) (N := 21) hx hb hts n_X6 hown hK hP 0 rfl rfl 1 (by decide) f_7 (fun _ h9 => h9) rfl dX6_passes_48 ?_
            refine z_icmp_ge (tgt := 58) hx hb dX6_passes_51 (by decide) (by omega) (fun c_8 => ?_) (fun c_8 => ?_)
            · refine lv_iconst (v := iI (0)) hx hb dX6_passes_58 rfl ?_
              refine lv_istore_n (lv' := [(2, .int (iI 0)), (3, .int (iI a)), (0, .ref (q 0)), (1, .int (iI p9))]) hx hb dX6_passes_59 rfl hl (by decide) rfl (fun ls hl => ?_)
              refine lv_iinc (v := iI (a + 1)) (lv' := [(3, .int (iI (a + 1))), (2, .int (iI 0)), (0, .ref (q 0)), (1, .int (iI p9))]) hx hb dX6_passes_60 hl (k := 1) rfl (iI_add _ _) (by decide) rfl (fun ls hl => ?_)
              refine lv_goto (tgt := 22) hx hb dX6_passes_63 (by decide) ?_
              exact ih_22 false (a + 1) (by omega) (by omega) (by first | exact pa_f hr (by assumption) | exact pa_t hr (by assumption) (by omega) | exact pa_x hr (by omega) (by omega)) _ _ _ hP hD hS (lv_sub hl [0, 1, 2, 3] rfl)
            · refine lv_iconst (v := iI (1)) hx hb dX6_passes_54 rfl ?_
              refine lv_goto (tgt := 59) hx hb dX6_passes_55 (by decide) ?_
              refine lv_istore_n (lv' := [(2, .int (iI 1)), (3, .int (iI a)), (0, .ref (q 0)), (1, .int (iI p9))]) hx hb dX6_passes_59 rfl hl (by decide) rfl (fun ls hl => ?_)
              refine lv_iinc (v := iI (a + 1)) (lv' := [(3, .int (iI (a + 1))), (2, .int (iI 1)), (0, .ref (q 0)), (1, .int (iI p9))]) hx hb dX6_passes_60 hl (k := 1) rfl (iI_add _ _) (by decide) rfl (fun ls hl => ?_)
              refine lv_goto (tgt := 22) hx hb dX6_passes_63 (by decide) ?_
              exact ih_22 true (a + 1) (by omega) (by omega) (by first | exact pa_f hr (by assumption) | exact pa_t hr (by assumption) (by omega) | exact pa_x hr (by omega) (by omega)) _ _ _ hP hD hS (lv_sub hl [0, 1, 2, 3] rfl)
    exact L_22 41 true (40 * p9) (by omega) (by omega) (⟨fun _ x h1 h2 => by omega, fun _ => rfl⟩) _ _ _ hP hD hS (lv_sub hl [0, 1, 2, 3] rfl)
  · refine z_ldc (n := -100001) hx hb hown k_86 (by decide) dX6_passes_12 ?_
    exact z_iret X hK hP hD hS dX6_passes_14 (by (repeat' split) <;> first | rfl | omega)
