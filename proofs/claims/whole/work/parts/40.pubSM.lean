variable {l : Launch} {D : va_G} {cy : ClassId} {q : Nat → Nat} {nK sc pi re bk ss sm pf mf th lo : Int} {st le be te ab bl ka bg ln ns me pa lz go co bs gr : Int → Int}
theorem c_X6_shareBest (I : okS nK st le be te ab bl ka bg ln ns me sc pi re bk) (m9 : Int) (s9 : Int) (h : (1 ≤ m9 ∧ m9 ≤ 6) ∧ (0 ≤ s9 ∧ s9 ≤ 24)) : MR l D cy yX6_shareBest wsX6_shareBest ({ frames := 3, cells := 0, slots := 0, locals := 79 } : Room) [.ref (q 0), .int (iI m9), .int (iI s9)] (wM q cy nK st le be te ab bl ka bg ln ns me sc pi re bk th co bs gr lo) (fun r8 w8 => ∃ co2 : Int → Int, ∃ bs2 : Int → Int, ∃ gr2 : Int → Int, ∃ lo2 : Int, w8 = wM q cy nK st le be te ab bl ka bg ln ns me sc pi re bk th co2 bs2 gr2 lo2 ∧ r8 = stF (tog ka bg ln ns bk) nK m9 s9 ∧ ((s9 ≠ 0 → stF (tog ka bg ln ns bk) nK m9 s9 ≠ -100009 → lo2 = dp (tog ka bg ln ns bk) nK m9 (stF (tog ka bg ln ns bk) nK m9 s9) 0) ∧ (stF (tog ka bg ln ns bk) nK m9 s9 ≠ -100009 → ∀ k, 0 ≤ k → k < nK → gr2 k = gF (tog ka bg ln ns bk) nK m9 (stF (tog ka bg ln ns bk) nK m9 s9) k))) := by
  rcases (show s9 = 0 ∨ s9 ≠ 0 by omega) with z | z
  · exact c_X6_shareBest_z I m9 s9 h z
  · exact c_X6_shareBest_p I m9 s9 h z
theorem hd_X6_fewest : yX6_fewest.cls = RX6 ∧ yX6_fewest.cls ≠ "java/lang/invoke/MethodHandle" ∧ yX6_fewest.cls ≠ "java/lang/invoke/VarHandle" ∧ (parseMethodDescriptor yX6_fewest.desc).map (fun d => d.parameters.length) = some 1 := by decide +kernel
set_option maxHeartbeats 4000000 in
set_option maxRecDepth 100000 in
theorem c_X6_fewest (I : okS nK st le be te ab bl ka bg ln ns me sc pi re bk) (m9 : Int) (h : -2147483648 ≤ m9 ∧ m9 ≤ 2147483647) : MR l D cy yX6_fewest wsX6_fewest ({ frames := 4, cells := 0, slots := 0, locals := 107 } : Room) [.ref (q 0), .int (iI m9)] (wM q cy nK st le be te ab bl ka bg ln ns me sc pi re bk th co bs gr lo) (fun r8 w8 => ∃ co2 : Int → Int, ∃ bs2 : Int → Int, ∃ gr2 : Int → Int, ∃ lo2 : Int, w8 = wM q cy nK st le be te ab bl ka bg ln ns me sc pi re bk 0 co2 bs2 gr2 lo2 ∧ r8 = if 1 ≤ m9 ∧ m9 ≤ 6 then stF (tog ka bg ln ns bk) nK m9 0 else (-100002)) := by
  refine MR.ofW (cc := cX6_fewest) (maxL := 2) (ret := (some .int)) (by decide) rfl (Nat.le_of_ble_eq_true rfl) ?_
  intro p e s m below meth c A ls X hK hP hD hA hS hl
  obtain ⟨hx, hb, hml, hr, hts, hown, hlocks⟩ := id X
  have hl : lv_has ls 2 [(0, .ref (q 0)), (1, .int (iI m9))] := hl
  have f_63 := hts (Cond.fieldLink RX6 63 "TwoKeysModel" "thrown" "I") (by decide +kernel)
  have K_182 := hts (Cond.constantLong RX6 182 (6)) (by decide +kernel)
  have k_78 := hts (Cond.constant RX6 78 (-100002)) (by decide +kernel)
  have n_X6 : ∀ w ∈ u_ws RX6 TX6 21, w ∈ wsX6_fewest := by decide +kernel
  have iK := I.nK
  refine lv_aload_n hx hb dX6_fewest_0 rfl (lv_at hl 0 rfl) ?_
  refine lv_iconst (v := iI (0)) hx hb dX6_fewest_1 rfl ?_
  refine va_put (D := D) (ci := 6) (v := .int (iI 0)) (ty := .int) (C := RX6) (T := TX6) (N := 21) hx hb hts n_X6 tyX6 tyX6_ok nmX6 hown hK hP hD hS 0 rfl rfl 0 (by decide) f_63 (fun _ h9 => h9) rfl (by decide +kernel) rfl rfl (Nat.le_of_ble_eq_true rfl) dX6_fewest_2 (fun H locs hP hD hS => ?_)
  have hP : va_P D vwCl (wM q cy nK st le be te ab bl ka bg ln ns me sc pi re bk 0 co bs gr lo) H := hP
  have hD : va_D A (wM q cy nK st le be te ab bl ka bg ln ns me sc pi re bk 0 co bs gr lo) := hD
  refine lv_iload_n hx hb dX6_fewest_5 rfl (lv_at hl 1 rfl) ?_
  refine z_i2l hx hb dX6_fewest_6 (by omega) ?_
  refine lv_lconst (v := lI (1)) hx hb dX6_fewest_7 (by decide) ?_
  refine z_ldc2 (n := 6) hx hb hown K_182 (by decide) dX6_fewest_8 ?_
  refine z_callSi (As := [.long (lI m9), .long (lI 1), .long (lI 6)]) (rest := []) X hK hP hD hA hS hl.1 gX6_fewest_X6_in rfl ⟨rfl, rfl⟩ hd_X6_in ⟨Nat.le_of_ble_eq_true rfl, Nat.le_of_ble_eq_true rfl⟩ rfl (Nat.le_of_ble_eq_true rfl) ⟨Nat.zero_le _, Nat.zero_le _⟩ rfl dX6_fewest_11 (c_X6_in m9 1 6 (by omega)) (fun H locs hP hD hS => ?_)
  refine z_ifp_eq (tgt := 26) hx hb dX6_fewest_14 (by decide) (fun c_1 => ?_) (fun c_1 => ?_)
  · refine z_ldc (n := -100002) hx hb hown k_78 (by decide) dX6_fewest_26 ?_
    exact z_iretR X hK hP hD hS dX6_fewest_28 (⟨_, _, _, _, rfl, by (repeat' split) <;> first | rfl | omega⟩)
  · refine lv_aload_n hx hb dX6_fewest_17 rfl (lv_at hl 0 rfl) ?_
    refine lv_iload_n hx hb dX6_fewest_18 rfl (lv_at hl 1 rfl) ?_
    refine lv_iconst (v := iI (0)) hx hb dX6_fewest_19 rfl ?_
    refine z_callVr (ci := 6) (q0 := 0) (As := [.int (iI m9), .int (iI 0)]) (rest := []) X hK hP hD hA hS hl.1 gX6_fewest_X6_shareBest rfl ⟨rfl, rfl⟩ hd_X6_shareBest ⟨Nat.le_of_ble_eq_true rfl, Nat.le_of_ble_eq_true rfl⟩ rfl rfl rfl (Nat.le_of_ble_eq_true rfl) ⟨Nat.zero_le _, Nat.zero_le _⟩ rfl dX6_fewest_20 (c_X6_shareBest I m9 0 (by omega)) (fun r8 w8 H locs hΨ hP hD hS => ?_)
    obtain ⟨co2_2, bs2_2, gr2_2, lo2_2, rfl, rfl, hq_2⟩ := hΨ
    refine lv_goto (tgt := 28) hx hb dX6_fewest_23 (by decide) ?_
    exact z_iretR X hK hP hD hS dX6_fewest_28 (⟨_, _, _, _, rfl, by (repeat' split) <;> first | rfl | omega⟩)

theorem hd_X6_least : yX6_least.cls = RX6 ∧ yX6_least.cls ≠ "java/lang/invoke/MethodHandle" ∧ yX6_least.cls ≠ "java/lang/invoke/VarHandle" ∧ (parseMethodDescriptor yX6_least.desc).map (fun d => d.parameters.length) = some 2 := by decide +kernel
set_option maxHeartbeats 4000000 in
set_option maxRecDepth 100000 in
theorem c_X6_least (I : okS nK st le be te ab bl ka bg ln ns me sc pi re bk) (m9 : Int) (s9 : Int) (h : -2147483648 ≤ m9 ∧ m9 ≤ 2147483647 ∧ -2147483648 ≤ s9 ∧ s9 ≤ 2147483647) : MR l D cy yX6_least wsX6_least ({ frames := 4, cells := 0, slots := 0, locals := 107 } : Room) [.ref (q 0), .int (iI m9), .int (iI s9)] (wM q cy nK st le be te ab bl ka bg ln ns me sc pi re bk th co bs gr lo) (fun r8 w8 => ∃ co2 : Int → Int, ∃ bs2 : Int → Int, ∃ gr2 : Int → Int, ∃ lo2 : Int, w8 = wM q cy nK st le be te ab bl ka bg ln ns me sc pi re bk 0 co2 bs2 gr2 lo2 ∧ r8 = if (1 ≤ m9 ∧ m9 ≤ 6) ∧ (1 ≤ s9 ∧ s9 ≤ 24) then (if stF (tog ka bg ln ns bk) nK m9 s9 = -100009 then (-100009) else dp (tog ka bg ln ns bk) nK m9 (stF (tog ka bg ln ns bk) nK m9 s9) 0) else (-100002)) := by
  refine MR.ofW (cc := cX6_least) (maxL := 3) (ret := (some .int)) (by decide) rfl (Nat.le_of_ble_eq_true rfl) ?_
  intro p e s m below meth c A ls X hK hP hD hA hS hl
  obtain ⟨hx, hb, hml, hr, hts, hown, hlocks⟩ := id X
  have hl : lv_has ls 3 [(0, .ref (q 0)), (1, .int (iI m9)), (2, .int (iI s9))] := hl
  have f_63 := hts (Cond.fieldLink RX6 63 "TwoKeysModel" "thrown" "I") (by decide +kernel)
  have k_78 := hts (Cond.constant RX6 78 (-100002)) (by decide +kernel)
  have k_62 := hts (Cond.constant RX6 62 (-100009)) (by decide +kernel)
  have f_179 := hts (Cond.fieldLink RX6 179 "TwoKeysModel" "leastOf" "I") (by decide +kernel)
  have n_X6 : ∀ w ∈ u_ws RX6 TX6 21, w ∈ wsX6_least := by decide +kernel
  have iK := I.nK
  have tb9 : ∀ x y, 0 ≤ (tog ka bg ln ns bk) x y ∧ (tog ka bg ln ns bk) x y ≤ 6400 := fun x y => tog_b I.ns
  have tP : ∀ x y, 0 ≤ (tog ka bg ln ns bk) x y := fun x y => (tog_b I.ns).1
  have tO : ∀ x, (tog ka bg ln ns bk) x x = 0 := fun x => tog_one
  refine lv_aload_n hx hb dX6_least_0 rfl (lv_at hl 0 rfl) ?_
  refine lv_iconst (v := iI (0)) hx hb dX6_least_1 rfl ?_
  refine va_put (D := D) (ci := 6) (v := .int (iI 0)) (ty := .int) (C := RX6) (T := TX6) (N := 21) hx hb hts n_X6 tyX6 tyX6_ok nmX6 hown hK hP hD hS 0 rfl rfl 0 (by decide) f_63 (fun _ h9 => h9) rfl (by decide +kernel) rfl rfl (Nat.le_of_ble_eq_true rfl) dX6_least_2 (fun H locs hP hD hS => ?_)
  have hP : va_P D vwCl (wM q cy nK st le be te ab bl ka bg ln ns me sc pi re bk 0 co bs gr lo) H := hP
  have hD : va_D A (wM q cy nK st le be te ab bl ka bg ln ns me sc pi re bk 0 co bs gr lo) := hD
  refine lv_iload_n hx hb dX6_least_5 rfl (lv_at hl 1 rfl) ?_
  refine lv_iload_n hx hb dX6_least_6 rfl (lv_at hl 2 rfl) ?_
  refine z_callSi (As := [.int (iI m9), .int (iI s9)]) (rest := []) X hK hP hD hA hS hl.1 gX6_least_X6_badSharing rfl ⟨rfl, rfl⟩ hd_X6_badSharing ⟨Nat.le_of_ble_eq_true rfl, Nat.le_of_ble_eq_true rfl⟩ rfl (Nat.le_of_ble_eq_true rfl) ⟨Nat.zero_le _, Nat.zero_le _⟩ rfl dX6_least_7 (c_X6_badSharing m9 s9 (by omega)) (fun H locs hP hD hS => ?_)
  refine z_ifp_ne (tgt := 17) hx hb dX6_least_10 (by decide) (fun c_1 => ?_) (fun c_1 => ?_)
  · refine z_ldc (n := -100002) hx hb hown k_78 (by decide) dX6_least_17 ?_
    exact z_iretR X hK hP hD hS dX6_least_19 (⟨_, _, _, _, rfl, by (repeat' split) <;> first | rfl | omega⟩)
  · refine lv_iload_n hx hb dX6_least_13 rfl (lv_at hl 2 rfl) ?_
    refine z_if_ne (tgt := 20) hx hb dX6_least_14 (by decide) (by omega) (fun c_2 => ?_) (fun c_2 => ?_)
    · refine lv_aload_n hx hb dX6_least_20 rfl (lv_at hl 0 rfl) ?_
      refine lv_iload_n hx hb dX6_least_21 rfl (lv_at hl 1 rfl) ?_
      refine lv_iload_n hx hb dX6_least_22 rfl (lv_at hl 2 rfl) ?_
      refine z_callVr (ci := 6) (q0 := 0) (As := [.int (iI m9), .int (iI s9)]) (rest := []) X hK hP hD hA hS hl.1 gX6_least_X6_shareBest rfl ⟨rfl, rfl⟩ hd_X6_shareBest ⟨Nat.le_of_ble_eq_true rfl, Nat.le_of_ble_eq_true rfl⟩ rfl rfl rfl (Nat.le_of_ble_eq_true rfl) ⟨Nat.zero_le _, Nat.zero_le _⟩ rfl dX6_least_23 (c_X6_shareBest I m9 s9 (by omega)) (fun r8 w8 H locs hΨ hP hD hS => ?_)
      obtain ⟨co2_3, bs2_3, gr2_3, lo2_3, rfl, rfl, hq_3⟩ := hΨ
      have sb := stF_b (C := (tog ka bg ln ns bk)) (n := nK) (m := m9) (s := s9) tP tO (by omega) (by omega) (by omega)
      have hq9 := hq_3
      refine z_ldc (n := -100009) hx hb hown k_62 (by decide) dX6_least_26 ?_
      refine z_icmp_ne (tgt := 36) hx hb dX6_least_28 (by decide) (by omega) (fun c_4 => ?_) (fun c_4 => ?_)
      · refine lv_aload_n hx hb dX6_least_36 rfl (lv_at hl 0 rfl) ?_
        refine va_get (D := D) (ci := 6) (v := .int (iI lo2_3)) (C := RX6) (T := TX6) (N := 21) hx hb hts n_X6 hown hK hP 0 rfl rfl 20 (by decide) f_179 (fun _ h9 => h9) rfl dX6_least_37 ?_
        exact z_iretR X hK hP hD hS dX6_least_40 (⟨_, _, _, _, rfl, by rw [if_pos (by omega)]; first | (rw [if_pos (by assumption)]; done) | (rw [if_neg (by assumption)]; exact hq9.1 (by omega) (by assumption))⟩)
      · refine z_ldc (n := -100009) hx hb hown k_62 (by decide) dX6_least_31 ?_
        refine lv_goto (tgt := 40) hx hb dX6_least_33 (by decide) ?_
        exact z_iretR X hK hP hD hS dX6_least_40 (⟨_, _, _, _, rfl, by rw [if_pos (by omega)]; first | (rw [if_pos (by assumption)]; done) | (rw [if_neg (by assumption)]; exact hq9.1 (by omega) (by assumption))⟩)
    · refine z_ldc (n := -100002) hx hb hown k_78 (by decide) dX6_least_17 ?_
      exact z_iretR X hK hP hD hS dX6_least_19 (⟨_, _, _, _, rfl, by (repeat' split) <;> first | rfl | omega⟩)

theorem hd_X6_group : yX6_group.cls = RX6 ∧ yX6_group.cls ≠ "java/lang/invoke/MethodHandle" ∧ yX6_group.cls ≠ "java/lang/invoke/VarHandle" ∧ (parseMethodDescriptor yX6_group.desc).map (fun d => d.parameters.length) = some 3 := by decide +kernel
set_option maxHeartbeats 4000000 in
set_option maxRecDepth 100000 in
theorem c_X6_group (I : okS nK st le be te ab bl ka bg ln ns me sc pi re bk) (m9 : Int) (s9 : Int) (k : Int) (h : -2147483648 ≤ m9 ∧ m9 ≤ 2147483647 ∧ -2147483648 ≤ s9 ∧ s9 ≤ 2147483647 ∧ -2147483648 ≤ k ∧ k ≤ 2147483647) : MR l D cy yX6_group wsX6_group ({ frames := 4, cells := 0, slots := 0, locals := 107 } : Room) [.ref (q 0), .int (iI m9), .int (iI s9), .int (iI k)] (wM q cy nK st le be te ab bl ka bg ln ns me sc pi re bk th co bs gr lo) (fun r8 w8 => ∃ co2 : Int → Int, ∃ bs2 : Int → Int, ∃ gr2 : Int → Int, ∃ lo2 : Int, w8 = wM q cy nK st le be te ab bl ka bg ln ns me sc pi re bk 0 co2 bs2 gr2 lo2 ∧ r8 = if 0 ≤ k ∧ k < nK then (if (1 ≤ m9 ∧ m9 ≤ 6) ∧ (0 ≤ s9 ∧ s9 ≤ 24) then (if stF (tog ka bg ln ns bk) nK m9 s9 = -100009 then (-100009) else gF (tog ka bg ln ns bk) nK m9 (stF (tog ka bg ln ns bk) nK m9 s9) k) else (-100002)) else (-100001)) := by
  refine MR.ofW (cc := cX6_group) (maxL := 4) (ret := (some .int)) (by decide) rfl (Nat.le_of_ble_eq_true rfl) ?_
  intro p e s m below meth c A ls X hK hP hD hA hS hl
  obtain ⟨hx, hb, hml, hr, hts, hown, hlocks⟩ := id X
  have hl : lv_has ls 4 [(0, .ref (q 0)), (1, .int (iI m9)), (2, .int (iI s9)), (3, .int (iI k))] := hl
  have f_63 := hts (Cond.fieldLink RX6 63 "TwoKeysModel" "thrown" "I") (by decide +kernel)
  have k_62 := hts (Cond.constant RX6 62 (-100009)) (by decide +kernel)
  have f_59 := hts (Cond.fieldLink RX6 59 "TwoKeysModel" "groups" "[I") (by decide +kernel)
  have k_78 := hts (Cond.constant RX6 78 (-100002)) (by decide +kernel)
  have k_86 := hts (Cond.constant RX6 86 (-100001)) (by decide +kernel)
  have n_X6 : ∀ w ∈ u_ws RX6 TX6 21, w ∈ wsX6_group := by decide +kernel
  have iK := I.nK
  have tb9 : ∀ x y, 0 ≤ (tog ka bg ln ns bk) x y ∧ (tog ka bg ln ns bk) x y ≤ 6400 := fun x y => tog_b I.ns
  have tP : ∀ x y, 0 ≤ (tog ka bg ln ns bk) x y := fun x y => (tog_b I.ns).1
  have tO : ∀ x, (tog ka bg ln ns bk) x x = 0 := fun x => tog_one
  refine lv_aload_n hx hb dX6_group_0 rfl (lv_at hl 0 rfl) ?_
  refine lv_iconst (v := iI (0)) hx hb dX6_group_1 rfl ?_
  refine va_put (D := D) (ci := 6) (v := .int (iI 0)) (ty := .int) (C := RX6) (T := TX6) (N := 21) hx hb hts n_X6 tyX6 tyX6_ok nmX6 hown hK hP hD hS 0 rfl rfl 0 (by decide) f_63 (fun _ h9 => h9) rfl (by decide +kernel) rfl rfl (Nat.le_of_ble_eq_true rfl) dX6_group_2 (fun H locs hP hD hS => ?_)
  have hP : va_P D vwCl (wM q cy nK st le be te ab bl ka bg ln ns me sc pi re bk 0 co bs gr lo) H := hP
  have hD : va_D A (wM q cy nK st le be te ab bl ka bg ln ns me sc pi re bk 0 co bs gr lo) := hD
  refine lv_aload_n hx hb dX6_group_5 rfl (lv_at hl 0 rfl) ?_
  refine lv_iload_n hx hb dX6_group_6 rfl (lv_at hl 3 rfl) ?_
  refine z_callVi (ci := 6) (q0 := 0) (As := [.int (iI k)]) (rest := []) X hK hP hD hA hS hl.1 gX6_group_X6_noKey rfl ⟨rfl, rfl⟩ hd_X6_noKey ⟨Nat.le_of_ble_eq_true rfl, Nat.le_of_ble_eq_true rfl⟩ rfl rfl rfl (Nat.le_of_ble_eq_true rfl) ⟨Nat.zero_le _, Nat.zero_le _⟩ rfl dX6_group_7 (c_X6_noKey I k (by omega)) (fun H locs hP hD hS => ?_)
  refine z_ifp_eq (tgt := 16) hx hb dX6_group_10 (by decide) (fun c_1 => ?_) (fun c_1 => ?_)
  · refine lv_iload_n hx hb dX6_group_16 rfl (lv_at hl 1 rfl) ?_
    refine lv_iload_n hx hb dX6_group_17 rfl (lv_at hl 2 rfl) ?_
    refine z_callSi (As := [.int (iI m9), .int (iI s9)]) (rest := []) X hK hP hD hA hS hl.1 gX6_group_X6_badSharing rfl ⟨rfl, rfl⟩ hd_X6_badSharing ⟨Nat.le_of_ble_eq_true rfl, Nat.le_of_ble_eq_true rfl⟩ rfl (Nat.le_of_ble_eq_true rfl) ⟨Nat.zero_le _, Nat.zero_le _⟩ rfl dX6_group_18 (c_X6_badSharing m9 s9 (by omega)) (fun H locs hP hD hS => ?_)
    refine z_ifp_eq (tgt := 27) hx hb dX6_group_21 (by decide) (fun c_2 => ?_) (fun c_2 => ?_)
    · refine lv_aload_n hx hb dX6_group_27 rfl (lv_at hl 0 rfl) ?_
      refine lv_iload_n hx hb dX6_group_28 rfl (lv_at hl 1 rfl) ?_
      refine lv_iload_n hx hb dX6_group_29 rfl (lv_at hl 2 rfl) ?_
      refine z_callVr (ci := 6) (q0 := 0) (As := [.int (iI m9), .int (iI s9)]) (rest := []) X hK hP hD hA hS hl.1 gX6_group_X6_shareBest rfl ⟨rfl, rfl⟩ hd_X6_shareBest ⟨Nat.le_of_ble_eq_true rfl, Nat.le_of_ble_eq_true rfl⟩ rfl rfl rfl (Nat.le_of_ble_eq_true rfl) ⟨Nat.zero_le _, Nat.zero_le _⟩ rfl dX6_group_30 (c_X6_shareBest I m9 s9 (by omega)) (fun r8 w8 H locs hΨ hP hD hS => ?_)
      obtain ⟨co2_3, bs2_3, gr2_3, lo2_3, rfl, rfl, hq_3⟩ := hΨ
      have sb := stF_b (C := (tog ka bg ln ns bk)) (n := nK) (m := m9) (s := s9) tP tO (by omega) (by omega) (by omega)
      have hq9 := hq_3
      refine z_ldc (n := -100009) hx hb hown k_62 (by decide) dX6_group_33 ?_
      refine z_icmp_ne (tgt := 43) hx hb dX6_group_35 (by decide) (by omega) (fun c_4 => ?_) (fun c_4 => ?_)
      · refine lv_aload_n hx hb dX6_group_43 rfl (lv_at hl 0 rfl) ?_
        refine va_get (D := D) (ci := 6) (v := .ref (q 14)) (C := RX6) (T := TX6) (N := 21) hx hb hts n_X6 hown hK hP 0 rfl rfl 19 (by decide) f_59 (fun _ h9 => h9) rfl dX6_group_44 ?_
        refine lv_iload_n hx hb dX6_group_47 rfl (lv_at hl 3 rfl) ?_
        refine z_iald hx hb hK hP 14 0 rfl rfl (by omega) dX6_group_48 ?_
        exact z_iretR X hK hP hD hS dX6_group_49 (⟨_, _, _, _, rfl, by rw [if_pos (by omega), if_pos (by omega)]; first | (rw [if_pos (by assumption)]; done) | (rw [if_neg (by assumption)]; exact hq9.2 (by assumption) k (by omega) (by omega))⟩)
      · refine z_ldc (n := -100009) hx hb hown k_62 (by decide) dX6_group_38 ?_
        refine lv_goto (tgt := 49) hx hb dX6_group_40 (by decide) ?_
        exact z_iretR X hK hP hD hS dX6_group_49 (⟨_, _, _, _, rfl, by rw [if_pos (by omega), if_pos (by omega)]; first | (rw [if_pos (by assumption)]; done) | (rw [if_neg (by assumption)]; exact hq9.2 (by assumption) k (by omega) (by omega))⟩)
    · refine z_ldc (n := -100002) hx hb hown k_78 (by decide) dX6_group_24 ?_
      exact z_iretR X hK hP hD hS dX6_group_26 (⟨_, _, _, _, rfl, by (repeat' split) <;> first | rfl | omega⟩)
  · refine z_ldc (n := -100001) hx hb hown k_86 (by decide) dX6_group_13 ?_
    exact z_iretR X hK hP hD hS dX6_group_15 (⟨_, _, _, _, rfl, by (repeat' split) <;> first | rfl | omega⟩)

theorem hd_X6_setUp : yX6_setUp.cls = RX6 ∧ yX6_setUp.cls ≠ "java/lang/invoke/MethodHandle" ∧ yX6_setUp.cls ≠ "java/lang/invoke/VarHandle" ∧ (parseMethodDescriptor yX6_setUp.desc).map (fun d => d.parameters.length) = some 2 := by decide +kernel
set_option maxHeartbeats 4000000 in
set_option maxRecDepth 100000 in
theorem c_X6_setUp_no (I : okS nK st le be te ab bl ka bg ln ns me sc pi re bk) (m9 : Int) (s9 : Int) (h : -2147483648 ≤ m9 ∧ m9 ≤ 2147483647 ∧ -2147483648 ≤ s9 ∧ s9 ≤ 2147483647) (hno : ¬ ((1 ≤ m9 ∧ m9 ≤ 6) ∧ (0 ≤ s9 ∧ s9 ≤ 24))) : MI l D cy yX6_setUp wsX6_setUp ({ frames := 2, cells := 0, slots := 0, locals := 46 } : Room) [.ref (q 0), .int (iI m9), .int (iI s9)] (wM q cy nK st le be te ab bl ka bg ln ns me sc pi re bk th co bs gr lo) (-100002) (wM q cy nK st le be te ab bl ka bg ln ns me sc pi re bk 0 co bs gr lo) := by
  refine MI.ofW (cc := cX6_setUp) (maxL := 5) (ret := (some .int)) (by decide) rfl (Nat.le_of_ble_eq_true rfl) ?_
  intro p e s m below meth c A ls X hK hP hD hA hS hl
  obtain ⟨hx, hb, hml, hr, hts, hown, hlocks⟩ := id X
  have hl : lv_has ls 5 [(0, .ref (q 0)), (1, .int (iI m9)), (2, .int (iI s9))] := hl
  have f_63 := hts (Cond.fieldLink RX6 63 "TwoKeysModel" "thrown" "I") (by decide +kernel)
  have k_78 := hts (Cond.constant RX6 78 (-100002)) (by decide +kernel)
  have n_X6 : ∀ w ∈ u_ws RX6 TX6 21, w ∈ wsX6_setUp := by decide +kernel
  have iK := I.nK
  refine lv_aload_n hx hb dX6_setUp_0 rfl (lv_at hl 0 rfl) ?_
  refine lv_iconst (v := iI (0)) hx hb dX6_setUp_1 rfl ?_
  refine va_put (D := D) (ci := 6) (v := .int (iI 0)) (ty := .int) (C := RX6) (T := TX6) (N := 21) hx hb hts n_X6 tyX6 tyX6_ok nmX6 hown hK hP hD hS 0 rfl rfl 0 (by decide) f_63 (fun _ h9 => h9) rfl (by decide +kernel) rfl rfl (Nat.le_of_ble_eq_true rfl) dX6_setUp_2 (fun H locs hP hD hS => ?_)
  have hP : va_P D vwCl (wM q cy nK st le be te ab bl ka bg ln ns me sc pi re bk 0 co bs gr lo) H := hP
  have hD : va_D A (wM q cy nK st le be te ab bl ka bg ln ns me sc pi re bk 0 co bs gr lo) := hD
  refine lv_iload_n hx hb dX6_setUp_5 rfl (lv_at hl 1 rfl) ?_
  refine lv_iload_n hx hb dX6_setUp_6 rfl (lv_at hl 2 rfl) ?_
  refine z_callSi (As := [.int (iI m9), .int (iI s9)]) (rest := []) X hK hP hD hA hS hl.1 gX6_setUp_X6_badSharing rfl ⟨rfl, rfl⟩ hd_X6_badSharing ⟨Nat.le_of_ble_eq_true rfl, Nat.le_of_ble_eq_true rfl⟩ rfl (Nat.le_of_ble_eq_true rfl) ⟨Nat.zero_le _, Nat.zero_le _⟩ rfl dX6_setUp_7 (c_X6_badSharing m9 s9 (by omega)) (fun H locs hP hD hS => ?_)
  refine z_ifp_eq (tgt := 16) hx hb dX6_setUp_10 (by decide) (fun c_1 => ?_) (fun c_1 => ?_)
  · exact absurd c_1 (by omega)
  · refine z_ldc (n := -100002) hx hb hown k_78 (by decide) dX6_setUp_13 ?_
    exact z_iret X hK hP hD hS dX6_setUp_15 (by first | rfl | omega | grind)

set_option maxHeartbeats 4000000 in
set_option maxRecDepth 100000 in
theorem c_X6_setUp_none (I : okS nK st le be te ab bl ka bg ln ns me sc pi re bk) (m9 : Int) (s9 : Int) (h : -2147483648 ≤ m9 ∧ m9 ≤ 2147483647 ∧ -2147483648 ≤ s9 ∧ s9 ≤ 2147483647) (hok : (1 ≤ m9 ∧ m9 ≤ 6) ∧ (0 ≤ s9 ∧ s9 ≤ 24)) (hn : stF (tog ka bg ln ns bk) nK m9 s9 = -100009) : MR l D cy yX6_setUp wsX6_setUp ({ frames := 4, cells := 0, slots := 0, locals := 107 } : Room) [.ref (q 0), .int (iI m9), .int (iI s9)] (wM q cy nK st le be te ab bl ka bg ln ns me sc pi re bk th co bs gr lo) (fun r8 w8 => ∃ co2 : Int → Int, ∃ bs2 : Int → Int, ∃ gr2 : Int → Int, ∃ lo2 : Int, w8 = wM q cy nK st le be te ab bl ka bg ln ns me sc pi re bk 0 co2 bs2 gr2 lo2 ∧ r8 = (-100009)) := by
  refine MR.ofW (cc := cX6_setUp) (maxL := 5) (ret := (some .int)) (by decide) rfl (Nat.le_of_ble_eq_true rfl) ?_
  intro p e s m below meth c A ls X hK hP hD hA hS hl
  obtain ⟨hx, hb, hml, hr, hts, hown, hlocks⟩ := id X
  have hl : lv_has ls 5 [(0, .ref (q 0)), (1, .int (iI m9)), (2, .int (iI s9))] := hl
  have f_63 := hts (Cond.fieldLink RX6 63 "TwoKeysModel" "thrown" "I") (by decide +kernel)
  have f_7 := hts (Cond.fieldLink RX6 7 "TwoKeysModel" "keys" "I") (by decide +kernel)
  have k_62 := hts (Cond.constant RX6 62 (-100009)) (by decide +kernel)
  have n_X6 : ∀ w ∈ u_ws RX6 TX6 21, w ∈ wsX6_setUp := by decide +kernel
  have iK := I.nK
  have tb9 : ∀ x y, 0 ≤ (tog ka bg ln ns bk) x y ∧ (tog ka bg ln ns bk) x y ≤ 6400 := fun x y => tog_b I.ns
  have tP : ∀ x y, 0 ≤ (tog ka bg ln ns bk) x y := fun x y => (tog_b I.ns).1
  have tO : ∀ x, (tog ka bg ln ns bk) x x = 0 := fun x => tog_one
  refine lv_aload_n hx hb dX6_setUp_0 rfl (lv_at hl 0 rfl) ?_
  refine lv_iconst (v := iI (0)) hx hb dX6_setUp_1 rfl ?_
  refine va_put (D := D) (ci := 6) (v := .int (iI 0)) (ty := .int) (C := RX6) (T := TX6) (N := 21) hx hb hts n_X6 tyX6 tyX6_ok nmX6 hown hK hP hD hS 0 rfl rfl 0 (by decide) f_63 (fun _ h9 => h9) rfl (by decide +kernel) rfl rfl (Nat.le_of_ble_eq_true rfl) dX6_setUp_2 (fun H locs hP hD hS => ?_)
  have hP : va_P D vwCl (wM q cy nK st le be te ab bl ka bg ln ns me sc pi re bk 0 co bs gr lo) H := hP
  have hD : va_D A (wM q cy nK st le be te ab bl ka bg ln ns me sc pi re bk 0 co bs gr lo) := hD
  refine lv_iload_n hx hb dX6_setUp_5 rfl (lv_at hl 1 rfl) ?_
  refine lv_iload_n hx hb dX6_setUp_6 rfl (lv_at hl 2 rfl) ?_
  refine z_callSi (As := [.int (iI m9), .int (iI s9)]) (rest := []) X hK hP hD hA hS hl.1 gX6_setUp_X6_badSharing rfl ⟨rfl, rfl⟩ hd_X6_badSharing ⟨Nat.le_of_ble_eq_true rfl, Nat.le_of_ble_eq_true rfl⟩ rfl (Nat.le_of_ble_eq_true rfl) ⟨Nat.zero_le _, Nat.zero_le _⟩ rfl dX6_setUp_7 (c_X6_badSharing m9 s9 (by omega)) (fun H locs hP hD hS => ?_)
  refine z_ifp_eq (tgt := 16) hx hb dX6_setUp_10 (by decide) (fun c_1 => ?_) (fun c_1 => ?_)
  · refine lv_aload_n hx hb dX6_setUp_16 rfl (lv_at hl 0 rfl) ?_
    refine lv_iload_n hx hb dX6_setUp_17 rfl (lv_at hl 1 rfl) ?_
    refine lv_iload_n hx hb dX6_setUp_18 rfl (lv_at hl 2 rfl) ?_
    refine z_callVr (ci := 6) (q0 := 0) (As := [.int (iI m9), .int (iI s9)]) (rest := []) X hK hP hD hA hS hl.1 gX6_setUp_X6_shareBest rfl ⟨rfl, rfl⟩ hd_X6_shareBest ⟨Nat.le_of_ble_eq_true rfl, Nat.le_of_ble_eq_true rfl⟩ rfl rfl rfl (Nat.le_of_ble_eq_true rfl) ⟨Nat.zero_le _, Nat.zero_le _⟩ rfl dX6_setUp_19 (c_X6_shareBest I m9 s9 (by omega)) (fun r8 w8 H locs hΨ hP hD hS => ?_)
    obtain ⟨co2_2, bs2_2, gr2_2, lo2_2, rfl, rfl, hq_2⟩ := hΨ
    have sb := stF_b (C := (tog ka bg ln ns bk)) (n := nK) (m := m9) (s := s9) tP tO (by omega) (by omega) (by omega)
    have hq9 := hq_2
    refine lv_istore_n (lv' := [(3, .int (iI (stF (tog ka bg ln ns bk) nK m9 s9))), (0, .ref (q 0)), (1, .int (iI m9)), (2, .int (iI s9))]) hx hb dX6_setUp_22 rfl hl (by decide) rfl (fun ls hl => ?_)
    refine lv_iconst (v := iI (0)) hx hb dX6_setUp_23 rfl ?_
    refine lv_istore (lv' := [(4, .int (iI 0)), (3, .int (iI (stF (tog ka bg ln ns bk) nK m9 s9))), (0, .ref (q 0)), (1, .int (iI m9)), (2, .int (iI s9))]) hx hb dX6_setUp_24 hl (by decide) rfl (fun ls hl => ?_)
    have L_26 : ∀ (n : Nat) (k : Int), (h0 : k = 0) → (hf : 0 < n) → ∀ (H : Heap) (locs : List Loc) (ls : Array Slot), va_P D vwCl (wM q cy nK st le be te ab bl ka bg ln ns me sc pi re bk 0 co2_2 bs2_2 gr2_2 lo2_2) H → va_D A (wM q cy nK st le be te ab bl ka bg ln ns me sc pi re bk 0 co2_2 bs2_2 gr2_2 lo2_2) → va_S A s.heap H locs → lv_has ls 5 [(4, .int (iI k)), (3, .int (iI (stF (tog ka bg ln ns bk) nK m9 s9))), (0, .ref (q 0)), (1, .int (iI m9)), (2, .int (iI s9))] → W p l e ({ frames := 4, cells := 0, slots := 0, locals := 107 } : Room) s m [.ref (q 0), .int (iI m9), .int (iI s9)].toArray below meth c H locs 0 0 (MQ below (zQr D cy A (fun r8 w8 => ∃ co2 : Int → Int, ∃ bs2 : Int → Int, ∃ gr2 : Int → Int, ∃ lo2 : Int, w8 = wM q cy nK st le be te ab bl ka bg ln ns me sc pi re bk 0 co2 bs2 gr2 lo2 ∧ r8 = (-100009))) [.ref (q 0), .int (iI m9), .int (iI s9)].toArray s 0 0 A) (F0 m 26 ls []) := by
      intro n
      induction n with
      | zero =>
        intro k h0 hf
        exfalso; omega
      | succ n ih_26 =>
        intro k h0 hf H locs ls hP hD hS hl
        refine lv_iload hx hb dX6_setUp_26 (lv_at hl 0 rfl) ?_
        refine lv_aload_n hx hb dX6_setUp_28 rfl (lv_at hl 2 rfl) ?_
        refine va_get (D := D) (ci := 6) (v := .int (iI nK)) (C := RX6) (T := TX6) (N := 21) hx hb hts n_X6 hown hK hP 0 rfl rfl 1 (by decide) f_7 (fun _ h9 => h9) rfl dX6_setUp_29 ?_
        refine z_icmp_ge (tgt := 61) hx hb dX6_setUp_32 (by decide) (by omega) (fun c_3 => ?_) (fun c_3 => ?_)
        · refine lv_iload_n hx hb dX6_setUp_61 rfl (lv_at hl 1 rfl) ?_
          exact z_iretR X hK hP hD hS dX6_setUp_62 (⟨_, _, _, _, rfl, by omega⟩)
        · refine lv_iload_n hx hb dX6_setUp_35 rfl (lv_at hl 1 rfl) ?_
          refine z_ldc (n := -100009) hx hb hown k_62 (by decide) dX6_setUp_36 ?_
          refine z_icmp_eq (tgt := 61) hx hb dX6_setUp_38 (by decide) (by omega) (fun c_4 => ?_) (fun c_4 => ?_)
          · refine lv_iload_n hx hb dX6_setUp_61 rfl (lv_at hl 1 rfl) ?_
            exact z_iretR X hK hP hD hS dX6_setUp_62 (⟨_, _, _, _, rfl, by omega⟩)
          · exact absurd c_4 (by omega)
    exact L_26 1 0 (by omega) (by omega) _ _ _ hP hD hS (lv_sub hl [0, 1, 2, 3, 4] rfl)
  · exact absurd c_1 (by omega)

set_option maxHeartbeats 4000000 in
set_option maxRecDepth 100000 in
theorem c_X6_setUp_ok (I : okS nK st le be te ab bl ka bg ln ns me sc pi re bk) (m9 : Int) (s9 : Int) (h : -2147483648 ≤ m9 ∧ m9 ≤ 2147483647 ∧ -2147483648 ≤ s9 ∧ s9 ≤ 2147483647) (hok : (1 ≤ m9 ∧ m9 ≤ 6) ∧ (0 ≤ s9 ∧ s9 ≤ 24)) (hn : stF (tog ka bg ln ns bk) nK m9 s9 ≠ -100009) : MR l D cy yX6_setUp wsX6_setUp ({ frames := 4, cells := 0, slots := 0, locals := 107 } : Room) [.ref (q 0), .int (iI m9), .int (iI s9)] (wM q cy nK st le be te ab bl ka bg ln ns me sc pi re bk th co bs gr lo) (fun r8 w8 => ∃ co2 : Int → Int, ∃ bs2 : Int → Int, ∃ gr2 : Int → Int, ∃ lo2 : Int, w8 = wM q cy nK (suS (tog ka bg ln ns bk) nK m9 (stF (tog ka bg ln ns bk) nK m9 s9) st nK) le be te ab bl ka bg ln ns me sc pi re bk 0 co2 bs2 gr2 lo2 ∧ r8 = stF (tog ka bg ln ns bk) nK m9 s9) := by
  refine MR.ofW (cc := cX6_setUp) (maxL := 5) (ret := (some .int)) (by decide) rfl (Nat.le_of_ble_eq_true rfl) ?_
  intro p e s m below meth c A ls X hK hP hD hA hS hl
  obtain ⟨hx, hb, hml, hr, hts, hown, hlocks⟩ := id X
  have hl : lv_has ls 5 [(0, .ref (q 0)), (1, .int (iI m9)), (2, .int (iI s9))] := hl
  have f_63 := hts (Cond.fieldLink RX6 63 "TwoKeysModel" "thrown" "I") (by decide +kernel)
  have f_7 := hts (Cond.fieldLink RX6 7 "TwoKeysModel" "keys" "I") (by decide +kernel)
  have k_62 := hts (Cond.constant RX6 62 (-100009)) (by decide +kernel)
  have f_13 := hts (Cond.fieldLink RX6 13 "TwoKeysModel" "string" "[I") (by decide +kernel)
  have f_59 := hts (Cond.fieldLink RX6 59 "TwoKeysModel" "groups" "[I") (by decide +kernel)
  have n_X6 : ∀ w ∈ u_ws RX6 TX6 21, w ∈ wsX6_setUp := by decide +kernel
  have iK := I.nK
  have tb9 : ∀ x y, 0 ≤ (tog ka bg ln ns bk) x y ∧ (tog ka bg ln ns bk) x y ≤ 6400 := fun x y => tog_b I.ns
  have tP : ∀ x y, 0 ≤ (tog ka bg ln ns bk) x y := fun x y => (tog_b I.ns).1
  have tO : ∀ x, (tog ka bg ln ns bk) x x = 0 := fun x => tog_one
  refine lv_aload_n hx hb dX6_setUp_0 rfl (lv_at hl 0 rfl) ?_
  refine lv_iconst (v := iI (0)) hx hb dX6_setUp_1 rfl ?_
  refine va_put (D := D) (ci := 6) (v := .int (iI 0)) (ty := .int) (C := RX6) (T := TX6) (N := 21) hx hb hts n_X6 tyX6 tyX6_ok nmX6 hown hK hP hD hS 0 rfl rfl 0 (by decide) f_63 (fun _ h9 => h9) rfl (by decide +kernel) rfl rfl (Nat.le_of_ble_eq_true rfl) dX6_setUp_2 (fun H locs hP hD hS => ?_)
  have hP : va_P D vwCl (wM q cy nK st le be te ab bl ka bg ln ns me sc pi re bk 0 co bs gr lo) H := hP
  have hD : va_D A (wM q cy nK st le be te ab bl ka bg ln ns me sc pi re bk 0 co bs gr lo) := hD
  refine lv_iload_n hx hb dX6_setUp_5 rfl (lv_at hl 1 rfl) ?_
  refine lv_iload_n hx hb dX6_setUp_6 rfl (lv_at hl 2 rfl) ?_
  refine z_callSi (As := [.int (iI m9), .int (iI s9)]) (rest := []) X hK hP hD hA hS hl.1 gX6_setUp_X6_badSharing rfl ⟨rfl, rfl⟩ hd_X6_badSharing ⟨Nat.le_of_ble_eq_true rfl, Nat.le_of_ble_eq_true rfl⟩ rfl (Nat.le_of_ble_eq_true rfl) ⟨Nat.zero_le _, Nat.zero_le _⟩ rfl dX6_setUp_7 (c_X6_badSharing m9 s9 (by omega)) (fun H locs hP hD hS => ?_)
  refine z_ifp_eq (tgt := 16) hx hb dX6_setUp_10 (by decide) (fun c_1 => ?_) (fun c_1 => ?_)
  · refine lv_aload_n hx hb dX6_setUp_16 rfl (lv_at hl 0 rfl) ?_
    refine lv_iload_n hx hb dX6_setUp_17 rfl (lv_at hl 1 rfl) ?_
    refine lv_iload_n hx hb dX6_setUp_18 rfl (lv_at hl 2 rfl) ?_
    refine z_callVr (ci := 6) (q0 := 0) (As := [.int (iI m9), .int (iI s9)]) (rest := []) X hK hP hD hA hS hl.1 gX6_setUp_X6_shareBest rfl ⟨rfl, rfl⟩ hd_X6_shareBest ⟨Nat.le_of_ble_eq_true rfl, Nat.le_of_ble_eq_true rfl⟩ rfl rfl rfl (Nat.le_of_ble_eq_true rfl) ⟨Nat.zero_le _, Nat.zero_le _⟩ rfl dX6_setUp_19 (c_X6_shareBest I m9 s9 (by omega)) (fun r8 w8 H locs hΨ hP hD hS => ?_)
    obtain ⟨co2_2, bs2_2, gr2_2, lo2_2, rfl, rfl, hq_2⟩ := hΨ
    have sb := stF_b (C := (tog ka bg ln ns bk)) (n := nK) (m := m9) (s := s9) tP tO (by omega) (by omega) (by omega)
    have hq9 := hq_2
    refine lv_istore_n (lv' := [(3, .int (iI (stF (tog ka bg ln ns bk) nK m9 s9))), (0, .ref (q 0)), (1, .int (iI m9)), (2, .int (iI s9))]) hx hb dX6_setUp_22 rfl hl (by decide) rfl (fun ls hl => ?_)
    refine lv_iconst (v := iI (0)) hx hb dX6_setUp_23 rfl ?_
    refine lv_istore (lv' := [(4, .int (iI 0)), (3, .int (iI (stF (tog ka bg ln ns bk) nK m9 s9))), (0, .ref (q 0)), (1, .int (iI m9)), (2, .int (iI s9))]) hx hb dX6_setUp_24 hl (by decide) rfl (fun ls hl => ?_)
    have L_26 : ∀ (n : Nat) (k : Int) (st1 : Int → Int), (h0 : 0 ≤ k ∧ k ≤ nK) → (hf : nK - k < n) → (hr : st1 = suS (tog ka bg ln ns bk) nK m9 (stF (tog ka bg ln ns bk) nK m9 s9) st k) → ∀ (H : Heap) (locs : List Loc) (ls : Array Slot), va_P D vwCl (wM q cy nK st1 le be te ab bl ka bg ln ns me sc pi re bk 0 co2_2 bs2_2 gr2_2 lo2_2) H → va_D A (wM q cy nK st1 le be te ab bl ka bg ln ns me sc pi re bk 0 co2_2 bs2_2 gr2_2 lo2_2) → va_S A s.heap H locs → lv_has ls 5 [(4, .int (iI k)), (3, .int (iI (stF (tog ka bg ln ns bk) nK m9 s9))), (0, .ref (q 0)), (1, .int (iI m9)), (2, .int (iI s9))] → W p l e ({ frames := 4, cells := 0, slots := 0, locals := 107 } : Room) s m [.ref (q 0), .int (iI m9), .int (iI s9)].toArray below meth c H locs 0 0 (MQ below (zQr D cy A (fun r8 w8 => ∃ co2 : Int → Int, ∃ bs2 : Int → Int, ∃ gr2 : Int → Int, ∃ lo2 : Int, w8 = wM q cy nK (suS (tog ka bg ln ns bk) nK m9 (stF (tog ka bg ln ns bk) nK m9 s9) st nK) le be te ab bl ka bg ln ns me sc pi re bk 0 co2 bs2 gr2 lo2 ∧ r8 = stF (tog ka bg ln ns bk) nK m9 s9)) [.ref (q 0), .int (iI m9), .int (iI s9)].toArray s 0 0 A) (F0 m 26 ls []) := by
      intro n
      induction n with
      | zero =>
        intro k st1 h0 hf hr
        exfalso; omega
      | succ n ih_26 =>
        intro k st1 h0 hf hr H locs ls hP hD hS hl
        refine lv_iload hx hb dX6_setUp_26 (lv_at hl 0 rfl) ?_
        refine lv_aload_n hx hb dX6_setUp_28 rfl (lv_at hl 2 rfl) ?_
        refine va_get (D := D) (ci := 6) (v := .int (iI nK)) (C := RX6) (T := TX6) (N := 21) hx hb hts n_X6 hown hK hP 0 rfl rfl 1 (by decide) f_7 (fun _ h9 => h9) rfl dX6_setUp_29 ?_
        refine z_icmp_ge (tgt := 61) hx hb dX6_setUp_32 (by decide) (by omega) (fun c_3 => ?_) (fun c_3 => ?_)
        · refine lv_iload_n hx hb dX6_setUp_61 rfl (lv_at hl 1 rfl) ?_
          exact z_iretR X hK hP hD hS dX6_setUp_62 (⟨_, _, _, _, by rw [hr, show k = nK by omega], rfl⟩)
        · refine lv_iload_n hx hb dX6_setUp_35 rfl (lv_at hl 1 rfl) ?_
          refine z_ldc (n := -100009) hx hb hown k_62 (by decide) dX6_setUp_36 ?_
          refine z_icmp_eq (tgt := 61) hx hb dX6_setUp_38 (by decide) (by omega) (fun c_4 => ?_) (fun c_4 => ?_)
          · exact absurd c_4 (by omega)
          · refine lv_aload_n hx hb dX6_setUp_41 rfl (lv_at hl 2 rfl) ?_
            refine va_get (D := D) (ci := 6) (v := .ref (q 1)) (C := RX6) (T := TX6) (N := 21) hx hb hts n_X6 hown hK hP 0 rfl rfl 2 (by decide) f_13 (fun _ h9 => h9) rfl dX6_setUp_42 ?_
            refine lv_iload hx hb dX6_setUp_45 (lv_at hl 0 rfl) ?_
            refine lv_aload_n hx hb dX6_setUp_47 rfl (lv_at hl 2 rfl) ?_
            refine va_get (D := D) (ci := 6) (v := .ref (q 14)) (C := RX6) (T := TX6) (N := 21) hx hb hts n_X6 hown hK hP 0 rfl rfl 19 (by decide) f_59 (fun _ h9 => h9) rfl dX6_setUp_48 ?_
            refine lv_iload hx hb dX6_setUp_51 (lv_at hl 0 rfl) ?_
            refine z_iald hx hb hK hP 14 0 rfl rfl (by omega) dX6_setUp_53 ?_
            refine z_iast (v := gr2_2 k) hx hb hK hP hD hS 1 0 rfl rfl (by omega) dX6_setUp_54 (fun H locs hP hD hS => ?_)
            have hP : va_P D vwCl (wM q cy nK (uZ st1 k (gr2_2 k)) le be te ab bl ka bg ln ns me sc pi re bk 0 co2_2 bs2_2 gr2_2 lo2_2) H := hP
            have hD : va_D A (wM q cy nK (uZ st1 k (gr2_2 k)) le be te ab bl ka bg ln ns me sc pi re bk 0 co2_2 bs2_2 gr2_2 lo2_2) := hD
            refine lv_iinc (v := iI (k + 1)) (lv' := [(4, .int (iI (k + 1))), (3, .int (iI (stF (tog ka bg ln ns bk) nK m9 s9))), (0, .ref (q 0)), (1, .int (iI m9)), (2, .int (iI s9))]) hx hb dX6_setUp_55 hl (k := 0) rfl (iI_add _ _) (by decide) rfl (fun ls hl => ?_)
            refine lv_goto (tgt := 26) hx hb dX6_setUp_58 (by decide) ?_
            exact ih_26 (k + 1) (uZ st1 k (gr2_2 k)) (by omega) (by omega) (by rw [hr, hq9.2 hn k (by omega) (by omega)]; exact suS_s (by omega)) _ _ _ hP hD hS (lv_sub hl [0, 1, 2, 3, 4] rfl)
    exact L_26 25 0 st (by omega) (by omega) suS_0 _ _ _ hP hD hS (lv_sub hl [0, 1, 2, 3, 4] rfl)
  · exact absurd c_1 (by omega)
