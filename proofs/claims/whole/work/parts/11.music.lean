variable {l : Launch} {D : va_G} {cy : ClassId} {q : Nat → Nat} {nK sc pi re bk ss sm pf mf th lo : Int} {st le be te ab bl ka bg ln ns me pa lz go co bs gr : Int → Int}
theorem hd_X3_put : yX3_put.cls = RX3 ∧ yX3_put.cls ≠ "java/lang/invoke/MethodHandle" ∧ yX3_put.cls ≠ "java/lang/invoke/VarHandle" ∧ (parseMethodDescriptor yX3_put.desc).map (fun d => d.parameters.length) = some 4 := by decide +kernel
set_option maxHeartbeats 4000000 in
set_option maxRecDepth 100000 in
theorem c_X3_put (s9 : Int) (t9 : Int) (a9 : Int) (b9 : Int) (h : 0 ≤ s9 ∧ s9 ≤ 4) (h2 : 0 ≤ t9 ∧ t9 ≤ 11) : MV l D cy yX3_put wsX3_put ({ frames := 0, cells := 0, slots := 0, locals := 0 } : Room) [.ref (q 6), .int (iI s9), .int (iI t9), .int (iI a9), .int (iI b9)] (wT q cy nK st le be te ab bl ka bg ln ns me sc pi re bk pa lz go ss sm pf mf) (wT q cy nK st le be te (uZ ab (s9 * 12 + t9) a9) (uZ bl (s9 * 12 + t9) b9) ka bg ln ns me sc pi re bk pa lz go ss sm pf mf) := by
  refine MV.ofW (cc := cX3_put) (maxL := 5) (ret := none) (by decide) rfl (Nat.le_of_ble_eq_true rfl) ?_
  intro p e s m below meth c A ls X hK hP hD hA hS hl
  obtain ⟨hx, hb, hml, hr, hts, hown, hlocks⟩ := id X
  have hl : lv_has ls 5 [(0, .ref (q 6)), (1, .int (iI s9)), (2, .int (iI t9)), (3, .int (iI a9)), (4, .int (iI b9))] := hl
  have f_9 := hts (Cond.fieldLink RX3 9 "TwoKeys$Scales" "aboves" "[I") (by decide +kernel)
  have f_15 := hts (Cond.fieldLink RX3 15 "TwoKeys$Scales" "belows" "[I") (by decide +kernel)
  have n_X3 : ∀ w ∈ u_ws RX3 TX3 2, w ∈ wsX3_put := by decide +kernel
  refine lv_aload_n hx hb dX3_put_0 rfl (lv_at hl 0 rfl) ?_
  refine va_get (D := D) (ci := 3) (v := .ref (q 7)) (C := RX3) (T := TX3) (N := 2) hx hb hts n_X3 hown hK hP 6 rfl rfl 0 (by decide) f_9 (fun _ h9 => h9) rfl dX3_put_1 ?_
  refine lv_iload_n hx hb dX3_put_4 rfl (lv_at hl 1 rfl) ?_
  refine lv_bipush (v := iI (12)) hx hb dX3_put_5 (by decide) ?_
  refine z_imul hx hb dX3_put_7 ?_
  refine lv_iload_n hx hb dX3_put_8 rfl (lv_at hl 2 rfl) ?_
  refine z_iadd hx hb dX3_put_9 ?_
  refine lv_iload_n hx hb dX3_put_10 rfl (lv_at hl 3 rfl) ?_
  refine z_iast (v := a9) hx hb hK hP hD hS 7 0 rfl rfl (by omega) dX3_put_11 (fun H locs hP hD hS => ?_)
  have hP : va_P D vwCl (wT q cy nK st le be te (uZ ab ((s9 * 12) + t9) a9) bl ka bg ln ns me sc pi re bk pa lz go ss sm pf mf) H := hP
  have hD : va_D A (wT q cy nK st le be te (uZ ab ((s9 * 12) + t9) a9) bl ka bg ln ns me sc pi re bk pa lz go ss sm pf mf) := hD
  refine lv_aload_n hx hb dX3_put_12 rfl (lv_at hl 0 rfl) ?_
  refine va_get (D := D) (ci := 3) (v := .ref (q 8)) (C := RX3) (T := TX3) (N := 2) hx hb hts n_X3 hown hK hP 6 rfl rfl 1 (by decide) f_15 (fun _ h9 => h9) rfl dX3_put_13 ?_
  refine lv_iload_n hx hb dX3_put_16 rfl (lv_at hl 1 rfl) ?_
  refine lv_bipush (v := iI (12)) hx hb dX3_put_17 (by decide) ?_
  refine z_imul hx hb dX3_put_19 ?_
  refine lv_iload_n hx hb dX3_put_20 rfl (lv_at hl 2 rfl) ?_
  refine z_iadd hx hb dX3_put_21 ?_
  refine lv_iload hx hb dX3_put_22 (lv_at hl 4 rfl) ?_
  refine z_iast (v := b9) hx hb hK hP hD hS 8 0 rfl rfl (by omega) dX3_put_24 (fun H locs hP hD hS => ?_)
  have hP : va_P D vwCl (wT q cy nK st le be te (uZ ab ((s9 * 12) + t9) a9) (uZ bl ((s9 * 12) + t9) b9) ka bg ln ns me sc pi re bk pa lz go ss sm pf mf) H := hP
  have hD : va_D A (wT q cy nK st le be te (uZ ab ((s9 * 12) + t9) a9) (uZ bl ((s9 * 12) + t9) b9) ka bg ln ns me sc pi re bk pa lz go ss sm pf mf) := hD
  exact z_vret X hK hP hD hS dX3_put_25

theorem hd_X3_partOf : yX3_partOf.cls = RX3 ∧ yX3_partOf.cls ≠ "java/lang/invoke/MethodHandle" ∧ yX3_partOf.cls ≠ "java/lang/invoke/VarHandle" ∧ (parseMethodDescriptor yX3_partOf.desc).map (fun d => d.parameters.length) = some 3 := by decide +kernel
set_option maxHeartbeats 4000000 in
set_option maxRecDepth 100000 in
theorem c_X3_partOf (I : okS nK st le be te ab bl ka bg ln ns me sc pi re bk) (s9 : Int) (t9 : Int) (up : Bool) (h : 0 ≤ s9 ∧ s9 ≤ 4) (h2 : 0 ≤ t9 ∧ t9 ≤ 11) : MI l D cy yX3_partOf wsX3_partOf ({ frames := 0, cells := 0, slots := 0, locals := 0 } : Room) [.ref (q 6), .int (iI s9), .int (iI t9), .int (iI (bZ up))] (wT q cy nK st le be te ab bl ka bg ln ns me sc pi re bk pa lz go ss sm pf mf) (if up = true then ab (s9 * 12 + t9) else bl (s9 * 12 + t9)) (wT q cy nK st le be te ab bl ka bg ln ns me sc pi re bk pa lz go ss sm pf mf) := by
  refine MI.ofW (cc := cX3_partOf) (maxL := 5) (ret := (some .int)) (by decide) rfl (Nat.le_of_ble_eq_true rfl) ?_
  intro p e s m below meth c A ls X hK hP hD hA hS hl
  obtain ⟨hx, hb, hml, hr, hts, hown, hlocks⟩ := id X
  have hl : lv_has ls 5 [(0, .ref (q 6)), (1, .int (iI s9)), (2, .int (iI t9)), (3, .int (iI (bZ up)))] := hl
  have f_15 := hts (Cond.fieldLink RX3 15 "TwoKeys$Scales" "belows" "[I") (by decide +kernel)
  have f_9 := hts (Cond.fieldLink RX3 9 "TwoKeys$Scales" "aboves" "[I") (by decide +kernel)
  have n_X3 : ∀ w ∈ u_ws RX3 TX3 2, w ∈ wsX3_partOf := by decide +kernel
  have iK := I.nK
  refine lv_iload_n hx hb dX3_partOf_0 rfl (lv_at hl 1 rfl) ?_
  refine lv_bipush (v := iI (12)) hx hb dX3_partOf_1 (by decide) ?_
  refine z_imul hx hb dX3_partOf_3 ?_
  refine lv_iload_n hx hb dX3_partOf_4 rfl (lv_at hl 2 rfl) ?_
  refine z_iadd hx hb dX3_partOf_5 ?_
  refine lv_istore (lv' := [(4, .int (iI ((s9 * 12) + t9))), (0, .ref (q 6)), (1, .int (iI s9)), (2, .int (iI t9)), (3, .int (iI (bZ up)))]) hx hb dX3_partOf_6 hl (by decide) rfl (fun ls hl => ?_)
  refine lv_iload_n hx hb dX3_partOf_8 rfl (lv_at hl 4 rfl) ?_
  refine z_ifb_eq (tgt := 22) hx hb dX3_partOf_9 (by decide) (fun c_1 => ?_) (fun c_1 => ?_)
  · refine lv_aload_n hx hb dX3_partOf_22 rfl (lv_at hl 1 rfl) ?_
    refine va_get (D := D) (ci := 3) (v := .ref (q 8)) (C := RX3) (T := TX3) (N := 2) hx hb hts n_X3 hown hK hP 6 rfl rfl 1 (by decide) f_15 (fun _ h9 => h9) rfl dX3_partOf_23 ?_
    refine lv_iload hx hb dX3_partOf_26 (lv_at hl 0 rfl) ?_
    refine z_iald hx hb hK hP 8 0 rfl rfl (by omega) dX3_partOf_28 ?_
    have b_2 := I.bl ((s9 * 12) + t9)
    exact z_iret X hK hP hD hS dX3_partOf_29 (by subst c_1; rfl)
  · refine lv_aload_n hx hb dX3_partOf_12 rfl (lv_at hl 1 rfl) ?_
    refine va_get (D := D) (ci := 3) (v := .ref (q 7)) (C := RX3) (T := TX3) (N := 2) hx hb hts n_X3 hown hK hP 6 rfl rfl 0 (by decide) f_9 (fun _ h9 => h9) rfl dX3_partOf_13 ?_
    refine lv_iload hx hb dX3_partOf_16 (lv_at hl 0 rfl) ?_
    refine z_iald hx hb hK hP 7 0 rfl rfl (by omega) dX3_partOf_18 ?_
    have b_3 := I.ab ((s9 * 12) + t9)
    refine lv_goto (tgt := 29) hx hb dX3_partOf_19 (by decide) ?_
    exact z_iret X hK hP hD hS dX3_partOf_29 (by subst c_1; rfl)

theorem hd_X3_goalAt : yX3_goalAt.cls = RX3 ∧ yX3_goalAt.cls ≠ "java/lang/invoke/MethodHandle" ∧ yX3_goalAt.cls ≠ "java/lang/invoke/VarHandle" ∧ (parseMethodDescriptor yX3_goalAt.desc).map (fun d => d.parameters.length) = some 3 := by decide +kernel
set_option maxHeartbeats 4000000 in
set_option maxRecDepth 100000 in
theorem c_X3_goalAt (I : okS nK st le be te ab bl ka bg ln ns me sc pi re bk) (s9 : Int) (p9 : Int) (k : Int) (h : 0 ≤ s9 ∧ s9 ≤ 4) (h2 : 0 ≤ p9 ∧ p9 ≤ 200000) (h3 : 0 ≤ k ∧ k < 24) : MI l D cy yX3_goalAt wsX3_goalAt ({ frames := 0, cells := 0, slots := 0, locals := 0 } : Room) [.ref (q 6), .int (iI s9), .int (iI p9), .int (iI k)] (wT q cy nK st le be te ab bl ka bg ln ns me sc pi re bk pa lz go ss sm pf mf) (gl ab bl s9 p9 k) (wT q cy nK st le be te ab bl ka bg ln ns me sc pi re bk pa lz go ss sm pf mf) := by
  refine MI.ofW (cc := cX3_goalAt) (maxL := 7) (ret := (some .int)) (by decide) rfl (Nat.le_of_ble_eq_true rfl) ?_
  intro p e s m below meth c A ls X hK hP hD hA hS hl
  obtain ⟨hx, hb, hml, hr, hts, hown, hlocks⟩ := id X
  have hl : lv_has ls 7 [(0, .ref (q 6)), (1, .int (iI s9)), (2, .int (iI p9)), (3, .int (iI k))] := hl
  have f_15 := hts (Cond.fieldLink RX3 15 "TwoKeys$Scales" "belows" "[I") (by decide +kernel)
  have f_9 := hts (Cond.fieldLink RX3 9 "TwoKeys$Scales" "aboves" "[I") (by decide +kernel)
  have n_X3 : ∀ w ∈ u_ws RX3 TX3 2, w ∈ wsX3_goalAt := by decide +kernel
  have iK := I.nK
  refine lv_iload_n hx hb dX3_goalAt_0 rfl (lv_at hl 1 rfl) ?_
  refine lv_bipush (v := iI (12)) hx hb dX3_goalAt_1 (by decide) ?_
  refine z_imul hx hb dX3_goalAt_3 ?_
  refine lv_iload_n hx hb dX3_goalAt_4 rfl (lv_at hl 3 rfl) ?_
  refine lv_bipush (v := iI (12)) hx hb dX3_goalAt_5 (by decide) ?_
  refine z_irem hx hb dX3_goalAt_7 (by omega) ?_
  refine z_iadd hx hb dX3_goalAt_8 ?_
  refine lv_istore (lv' := [(4, .int (iI ((s9 * 12) + (k % 12)))), (0, .ref (q 6)), (1, .int (iI s9)), (2, .int (iI p9)), (3, .int (iI k))]) hx hb dX3_goalAt_9 hl (by decide) rfl (fun ls hl => ?_)
  refine lv_iload_n hx hb dX3_goalAt_11 rfl (lv_at hl 3 rfl) ?_
  refine lv_iload_n hx hb dX3_goalAt_12 rfl (lv_at hl 4 rfl) ?_
  refine lv_bipush (v := iI (12)) hx hb dX3_goalAt_13 (by decide) ?_
  refine z_idiv hx hb dX3_goalAt_15 (by omega) ?_
  refine z_ishl hx hb dX3_goalAt_16 (by omega) ?_
  refine lv_istore (lv' := [(5, .int (iI (shZ p9 (k / 12)))), (4, .int (iI ((s9 * 12) + (k % 12)))), (0, .ref (q 6)), (1, .int (iI s9)), (2, .int (iI p9)), (3, .int (iI k))]) hx hb dX3_goalAt_17 hl (by decide) rfl (fun ls hl => ?_)
  refine lv_aload_n hx hb dX3_goalAt_19 rfl (lv_at hl 2 rfl) ?_
  refine va_get (D := D) (ci := 3) (v := .ref (q 8)) (C := RX3) (T := TX3) (N := 2) hx hb hts n_X3 hown hK hP 6 rfl rfl 1 (by decide) f_15 (fun _ h9 => h9) rfl dX3_goalAt_20 ?_
  refine lv_iload hx hb dX3_goalAt_23 (lv_at hl 1 rfl) ?_
  refine z_iald hx hb hK hP 8 0 rfl rfl (by omega) dX3_goalAt_25 ?_
  have b_1 := I.bl ((s9 * 12) + (k % 12))
  refine lv_istore (lv' := [(6, .int (iI (bl ((s9 * 12) + (k % 12))))), (5, .int (iI (shZ p9 (k / 12)))), (4, .int (iI ((s9 * 12) + (k % 12)))), (0, .ref (q 6)), (1, .int (iI s9)), (2, .int (iI p9)), (3, .int (iI k))]) hx hb dX3_goalAt_26 hl (by decide) rfl (fun ls hl => ?_)
  refine lv_iload hx hb dX3_goalAt_28 (lv_at hl 0 rfl) ?_
  refine lv_iconst (v := iI (1)) hx hb dX3_goalAt_30 rfl ?_
  refine z_icmp_ge (tgt := 38) hx hb dX3_goalAt_31 (by decide) (by omega) (fun c_2 => ?_) (fun c_2 => ?_)
  · refine lv_iload hx hb dX3_goalAt_38 (lv_at hl 1 rfl) ?_
    refine lv_aload_n hx hb dX3_goalAt_40 rfl (lv_at hl 3 rfl) ?_
    refine va_get (D := D) (ci := 3) (v := .ref (q 7)) (C := RX3) (T := TX3) (N := 2) hx hb hts n_X3 hown hK hP 6 rfl rfl 0 (by decide) f_9 (fun _ h9 => h9) rfl dX3_goalAt_41 ?_
    refine lv_iload hx hb dX3_goalAt_44 (lv_at hl 2 rfl) ?_
    refine z_iald hx hb hK hP 7 0 rfl rfl (by omega) dX3_goalAt_46 ?_
    have b_3 := I.ab ((s9 * 12) + (k % 12))
    have b8 := mul_b (shZ_b (p := p9) (k := k / 12) h2.1 h2.2).1 (shZ_b h2.1 h2.2).2 (show 0 ≤ ab (s9 * 12 + k % 12) by omega) (show ab (s9 * 12 + k % 12) ≤ 999 by omega)
    refine z_imul hx hb dX3_goalAt_47 ?_
    refine lv_iload hx hb dX3_goalAt_48 (lv_at hl 0 rfl) ?_
    refine z_idiv hx hb dX3_goalAt_50 (by omega) ?_
    exact z_iret X hK hP hD hS dX3_goalAt_51 (by first | omega | (unfold gl shZ; rw [Int.mul_comm s9 12]; by_cases g : k < 12; (rw [if_pos g, if_pos (show k / 12 = 0 by omega), Int.mul_one]); (rw [if_neg g, if_neg (show ¬ k / 12 = 0 by omega), Int.mul_comm 2 p9])))
  · refine lv_iconst (v := iI (0)) hx hb dX3_goalAt_34 rfl ?_
    refine lv_goto (tgt := 51) hx hb dX3_goalAt_35 (by decide) ?_
    exact z_iret X hK hP hD hS dX3_goalAt_51 (by first | omega | (unfold gl shZ; rw [Int.mul_comm s9 12]; by_cases g : k < 12; (rw [if_pos g, if_pos (show k / 12 = 0 by omega), Int.mul_one]); (rw [if_neg g, if_neg (show ¬ k / 12 = 0 by omega), Int.mul_comm 2 p9])))

theorem hd_X1_startOf : yX1_startOf.cls = RX1 ∧ yX1_startOf.cls ≠ "java/lang/invoke/MethodHandle" ∧ yX1_startOf.cls ≠ "java/lang/invoke/VarHandle" ∧ (parseMethodDescriptor yX1_startOf.desc).map (fun d => d.parameters.length) = some 1 := by decide +kernel
set_option maxHeartbeats 4000000 in
set_option maxRecDepth 100000 in
theorem c_X1_startOf (p9 : Int)  : MI l D cy yX1_startOf wsX1_startOf ({ frames := 0, cells := 0, slots := 0, locals := 0 } : Room) [.ref (q 9), .int (iI p9)] (wT q cy nK st le be te ab bl ka bg ln ns me sc pi re bk pa lz go ss sm pf mf) (p9 * 40) (wT q cy nK st le be te ab bl ka bg ln ns me sc pi re bk pa lz go ss sm pf mf) := by
  refine MI.ofW (cc := cX1_startOf) (maxL := 2) (ret := (some .int)) (by decide) rfl (Nat.le_of_ble_eq_true rfl) ?_
  intro p e s m below meth c A ls X hK hP hD hA hS hl
  obtain ⟨hx, hb, hml, hr, hts, hown, hlocks⟩ := id X
  have hl : lv_has ls 2 [(0, .ref (q 9)), (1, .int (iI p9))] := hl
  refine lv_iload_n hx hb dX1_startOf_0 rfl (lv_at hl 1 rfl) ?_
  refine lv_bipush (v := iI (40)) hx hb dX1_startOf_1 (by decide) ?_
  refine z_imul hx hb dX1_startOf_3 ?_
  exact z_iret X hK hP hD hS dX1_startOf_4 (by first | rfl | omega | grind)

theorem hd_X1_endOf : yX1_endOf.cls = RX1 ∧ yX1_endOf.cls ≠ "java/lang/invoke/MethodHandle" ∧ yX1_endOf.cls ≠ "java/lang/invoke/VarHandle" ∧ (parseMethodDescriptor yX1_endOf.desc).map (fun d => d.parameters.length) = some 1 := by decide +kernel
set_option maxHeartbeats 4000000 in
set_option maxRecDepth 100000 in
theorem c_X1_endOf (I : okS nK st le be te ab bl ka bg ln ns me sc pi re bk) (p9 : Int) (h : 0 ≤ p9 ∧ p9 ≤ 3) : MI l D cy yX1_endOf wsX1_endOf ({ frames := 0, cells := 0, slots := 0, locals := 0 } : Room) [.ref (q 9), .int (iI p9)] (wT q cy nK st le be te ab bl ka bg ln ns me sc pi re bk pa lz go ss sm pf mf) (p9 * 40 + ns p9) (wT q cy nK st le be te ab bl ka bg ln ns me sc pi re bk pa lz go ss sm pf mf) := by
  refine MI.ofW (cc := cX1_endOf) (maxL := 2) (ret := (some .int)) (by decide) rfl (Nat.le_of_ble_eq_true rfl) ?_
  intro p e s m below meth c A ls X hK hP hD hA hS hl
  obtain ⟨hx, hb, hml, hr, hts, hown, hlocks⟩ := id X
  have hl : lv_has ls 2 [(0, .ref (q 9)), (1, .int (iI p9))] := hl
  have f_21 := hts (Cond.fieldLink RX1 21 "TwoKeys$Music" "sizes" "[I") (by decide +kernel)
  have n_X1 : ∀ w ∈ u_ws RX1 TX1 5, w ∈ wsX1_endOf := by decide +kernel
  have iK := I.nK
  refine lv_iload_n hx hb dX1_endOf_0 rfl (lv_at hl 1 rfl) ?_
  refine lv_bipush (v := iI (40)) hx hb dX1_endOf_1 (by decide) ?_
  refine z_imul hx hb dX1_endOf_3 ?_
  refine lv_aload_n hx hb dX1_endOf_4 rfl (lv_at hl 0 rfl) ?_
  refine va_get (D := D) (ci := 1) (v := .ref (q 13)) (C := RX1) (T := TX1) (N := 5) hx hb hts n_X1 hown hK hP 9 rfl rfl 4 (by decide) f_21 (fun _ h9 => h9) rfl dX1_endOf_5 ?_
  refine lv_iload_n hx hb dX1_endOf_8 rfl (lv_at hl 1 rfl) ?_
  refine z_iald hx hb hK hP 13 0 rfl rfl (by omega) dX1_endOf_9 ?_
  have b_1 := I.ns p9
  refine z_iadd hx hb dX1_endOf_10 ?_
  exact z_iret X hK hP hD hS dX1_endOf_11 (by first | rfl | omega | grind)

theorem hd_X1_isFull : yX1_isFull.cls = RX1 ∧ yX1_isFull.cls ≠ "java/lang/invoke/MethodHandle" ∧ yX1_isFull.cls ≠ "java/lang/invoke/VarHandle" ∧ (parseMethodDescriptor yX1_isFull.desc).map (fun d => d.parameters.length) = some 1 := by decide +kernel
set_option maxHeartbeats 4000000 in
set_option maxRecDepth 100000 in
theorem c_X1_isFull (I : okS nK st le be te ab bl ka bg ln ns me sc pi re bk) (p9 : Int) (h : 0 ≤ p9 ∧ p9 ≤ 3) : MI l D cy yX1_isFull wsX1_isFull ({ frames := 0, cells := 0, slots := 0, locals := 0 } : Room) [.ref (q 9), .int (iI p9)] (wT q cy nK st le be te ab bl ka bg ln ns me sc pi re bk pa lz go ss sm pf mf) (bP (40 ≤ ns p9)) (wT q cy nK st le be te ab bl ka bg ln ns me sc pi re bk pa lz go ss sm pf mf) := by
  refine MI.ofW (cc := cX1_isFull) (maxL := 2) (ret := (some .boolean)) (by decide) rfl (Nat.le_of_ble_eq_true rfl) ?_
  intro p e s m below meth c A ls X hK hP hD hA hS hl
  obtain ⟨hx, hb, hml, hr, hts, hown, hlocks⟩ := id X
  have hl : lv_has ls 2 [(0, .ref (q 9)), (1, .int (iI p9))] := hl
  have f_21 := hts (Cond.fieldLink RX1 21 "TwoKeys$Music" "sizes" "[I") (by decide +kernel)
  have n_X1 : ∀ w ∈ u_ws RX1 TX1 5, w ∈ wsX1_isFull := by decide +kernel
  have iK := I.nK
  refine lv_aload_n hx hb dX1_isFull_0 rfl (lv_at hl 0 rfl) ?_
  refine va_get (D := D) (ci := 1) (v := .ref (q 13)) (C := RX1) (T := TX1) (N := 5) hx hb hts n_X1 hown hK hP 9 rfl rfl 4 (by decide) f_21 (fun _ h9 => h9) rfl dX1_isFull_1 ?_
  refine lv_iload_n hx hb dX1_isFull_4 rfl (lv_at hl 1 rfl) ?_
  refine z_iald hx hb hK hP 13 0 rfl rfl (by omega) dX1_isFull_5 ?_
  have b_1 := I.ns p9
  refine lv_bipush (v := iI (40)) hx hb dX1_isFull_6 (by decide) ?_
  refine z_icmp_lt (tgt := 15) hx hb dX1_isFull_8 (by decide) (by omega) (fun c_2 => ?_) (fun c_2 => ?_)
  · refine lv_iconst (v := iI (0)) hx hb dX1_isFull_15 rfl ?_
    exact z_pret0 X hK hP hD hS dX1_isFull_16 (by first | rfl | omega | grind)
  · refine lv_iconst (v := iI (1)) hx hb dX1_isFull_11 rfl ?_
    refine lv_goto (tgt := 16) hx hb dX1_isFull_12 (by decide) ?_
    exact z_pret1 X hK hP hD hS dX1_isFull_16 (by first | rfl | omega | grind)

theorem hd_X1_lastBegin : yX1_lastBegin.cls = RX1 ∧ yX1_lastBegin.cls ≠ "java/lang/invoke/MethodHandle" ∧ yX1_lastBegin.cls ≠ "java/lang/invoke/VarHandle" ∧ (parseMethodDescriptor yX1_lastBegin.desc).map (fun d => d.parameters.length) = some 1 := by decide +kernel
set_option maxHeartbeats 4000000 in
set_option maxRecDepth 100000 in
theorem c_X1_lastBegin (I : okS nK st le be te ab bl ka bg ln ns me sc pi re bk) (p9 : Int) (h : 0 ≤ p9 ∧ p9 ≤ 3) : MI l D cy yX1_lastBegin wsX1_lastBegin ({ frames := 1, cells := 0, slots := 0, locals := 21 } : Room) [.ref (q 9), .int (iI p9)] (wT q cy nK st le be te ab bl ka bg ln ns me sc pi re bk pa lz go ss sm pf mf) (if ns p9 = 0 then 0 else bg (p9 * 40 + ns p9 - 1)) (wT q cy nK st le be te ab bl ka bg ln ns me sc pi re bk pa lz go ss sm pf mf) := by
  refine MI.ofW (cc := cX1_lastBegin) (maxL := 2) (ret := (some .int)) (by decide) rfl (Nat.le_of_ble_eq_true rfl) ?_
  intro p e s m below meth c A ls X hK hP hD hA hS hl
  obtain ⟨hx, hb, hml, hr, hts, hown, hlocks⟩ := id X
  have hl : lv_has ls 2 [(0, .ref (q 9)), (1, .int (iI p9))] := hl
  have f_21 := hts (Cond.fieldLink RX1 21 "TwoKeys$Music" "sizes" "[I") (by decide +kernel)
  have f_15 := hts (Cond.fieldLink RX1 15 "TwoKeys$Music" "beginAt" "[I") (by decide +kernel)
  have n_X1 : ∀ w ∈ u_ws RX1 TX1 5, w ∈ wsX1_lastBegin := by decide +kernel
  have iK := I.nK
  refine lv_aload_n hx hb dX1_lastBegin_0 rfl (lv_at hl 0 rfl) ?_
  refine va_get (D := D) (ci := 1) (v := .ref (q 13)) (C := RX1) (T := TX1) (N := 5) hx hb hts n_X1 hown hK hP 9 rfl rfl 4 (by decide) f_21 (fun _ h9 => h9) rfl dX1_lastBegin_1 ?_
  refine lv_iload_n hx hb dX1_lastBegin_4 rfl (lv_at hl 1 rfl) ?_
  refine z_iald hx hb hK hP 13 0 rfl rfl (by omega) dX1_lastBegin_5 ?_
  have b_1 := I.ns p9
  refine z_if_ne (tgt := 13) hx hb dX1_lastBegin_6 (by decide) (by omega) (fun c_2 => ?_) (fun c_2 => ?_)
  · refine lv_aload_n hx hb dX1_lastBegin_13 rfl (lv_at hl 0 rfl) ?_
    refine va_get (D := D) (ci := 1) (v := .ref (q 11)) (C := RX1) (T := TX1) (N := 5) hx hb hts n_X1 hown hK hP 9 rfl rfl 2 (by decide) f_15 (fun _ h9 => h9) rfl dX1_lastBegin_14 ?_
    refine lv_aload_n hx hb dX1_lastBegin_17 rfl (lv_at hl 0 rfl) ?_
    refine lv_iload_n hx hb dX1_lastBegin_18 rfl (lv_at hl 1 rfl) ?_
    refine z_callVi (ci := 1) (q0 := 9) (As := [.int (iI p9)]) (rest := [.ref (q 11)]) X hK hP hD hA hS hl.1 gX1_lastBegin_X1_endOf rfl ⟨rfl, rfl⟩ hd_X1_endOf ⟨Nat.le_of_ble_eq_true rfl, Nat.le_of_ble_eq_true rfl⟩ rfl rfl rfl (Nat.le_of_ble_eq_true rfl) ⟨Nat.zero_le _, Nat.zero_le _⟩ rfl dX1_lastBegin_19 (c_X1_endOf I p9 (by omega)) (fun H locs hP hD hS => ?_)
    refine lv_iconst (v := iI (1)) hx hb dX1_lastBegin_22 rfl ?_
    refine z_isub hx hb dX1_lastBegin_23 ?_
    refine z_iald hx hb hK hP 11 0 rfl rfl (by omega) dX1_lastBegin_24 ?_
    have b_3 := I.bg ((p9 * 40 + ns p9) - 1)
    exact z_iret X hK hP hD hS dX1_lastBegin_25 (by first | rw [if_pos (by assumption)] | rw [if_neg (by assumption)])
  · refine lv_iconst (v := iI (0)) hx hb dX1_lastBegin_9 rfl ?_
    refine lv_goto (tgt := 25) hx hb dX1_lastBegin_10 (by decide) ?_
    exact z_iret X hK hP hD hS dX1_lastBegin_25 (by first | rw [if_pos (by assumption)] | rw [if_neg (by assumption)])

theorem hd_X1_append : yX1_append.cls = RX1 ∧ yX1_append.cls ≠ "java/lang/invoke/MethodHandle" ∧ yX1_append.cls ≠ "java/lang/invoke/VarHandle" ∧ (parseMethodDescriptor yX1_append.desc).map (fun d => d.parameters.length) = some 4 := by decide +kernel
set_option maxHeartbeats 4000000 in
set_option maxRecDepth 100000 in
theorem c_X1_append (I : okS nK st le be te ab bl ka bg ln ns me sc pi re bk) (p9 : Int) (k : Int) (b9 : Int) (l9 : Int) (h : 0 ≤ p9 ∧ p9 ≤ 3) (h2 : ns p9 < 40) : MI l D cy yX1_append wsX1_append ({ frames := 1, cells := 0, slots := 0, locals := 21 } : Room) [.ref (q 9), .int (iI p9), .int (iI k), .int (iI b9), .int (iI l9)] (wT q cy nK st le be te ab bl ka bg ln ns me sc pi re bk pa lz go ss sm pf mf) (ns p9) (wT q cy nK st le be te ab bl (uZ ka (p9 * 40 + ns p9) k) (uZ bg (p9 * 40 + ns p9) b9) (uZ ln (p9 * 40 + ns p9) l9) (uZ ns p9 (ns p9 + 1)) me sc pi re bk pa lz go ss sm pf mf) := by
  refine MI.ofW (cc := cX1_append) (maxL := 6) (ret := (some .int)) (by decide) rfl (Nat.le_of_ble_eq_true rfl) ?_
  intro p e s m below meth c A ls X hK hP hD hA hS hl
  obtain ⟨hx, hb, hml, hr, hts, hown, hlocks⟩ := id X
  have hl : lv_has ls 6 [(0, .ref (q 9)), (1, .int (iI p9)), (2, .int (iI k)), (3, .int (iI b9)), (4, .int (iI l9))] := hl
  have f_9 := hts (Cond.fieldLink RX1 9 "TwoKeys$Music" "keyAt" "[I") (by decide +kernel)
  have f_15 := hts (Cond.fieldLink RX1 15 "TwoKeys$Music" "beginAt" "[I") (by decide +kernel)
  have f_18 := hts (Cond.fieldLink RX1 18 "TwoKeys$Music" "lengthAt" "[I") (by decide +kernel)
  have f_21 := hts (Cond.fieldLink RX1 21 "TwoKeys$Music" "sizes" "[I") (by decide +kernel)
  have n_X1 : ∀ w ∈ u_ws RX1 TX1 5, w ∈ wsX1_append := by decide +kernel
  have iK := I.nK
  have i9 := I.ns p9
  refine lv_aload_n hx hb dX1_append_0 rfl (lv_at hl 0 rfl) ?_
  refine lv_iload_n hx hb dX1_append_1 rfl (lv_at hl 1 rfl) ?_
  refine z_callVi (ci := 1) (q0 := 9) (As := [.int (iI p9)]) (rest := []) X hK hP hD hA hS hl.1 gX1_append_X1_endOf rfl ⟨rfl, rfl⟩ hd_X1_endOf ⟨Nat.le_of_ble_eq_true rfl, Nat.le_of_ble_eq_true rfl⟩ rfl rfl rfl (Nat.le_of_ble_eq_true rfl) ⟨Nat.zero_le _, Nat.zero_le _⟩ rfl dX1_append_2 (c_X1_endOf I p9 (by omega)) (fun H locs hP hD hS => ?_)
  refine lv_istore (lv' := [(5, .int (iI (p9 * 40 + ns p9))), (0, .ref (q 9)), (1, .int (iI p9)), (2, .int (iI k)), (3, .int (iI b9)), (4, .int (iI l9))]) hx hb dX1_append_5 hl (by decide) rfl (fun ls hl => ?_)
  refine lv_aload_n hx hb dX1_append_7 rfl (lv_at hl 1 rfl) ?_
  refine va_get (D := D) (ci := 1) (v := .ref (q 10)) (C := RX1) (T := TX1) (N := 5) hx hb hts n_X1 hown hK hP 9 rfl rfl 1 (by decide) f_9 (fun _ h9 => h9) rfl dX1_append_8 ?_
  refine lv_iload hx hb dX1_append_11 (lv_at hl 0 rfl) ?_
  refine lv_iload_n hx hb dX1_append_13 rfl (lv_at hl 3 rfl) ?_
  refine z_iast (v := k) hx hb hK hP hD hS 10 0 rfl rfl (by omega) dX1_append_14 (fun H locs hP hD hS => ?_)
  have hP : va_P D vwCl (wT q cy nK st le be te ab bl (uZ ka (p9 * 40 + ns p9) k) bg ln ns me sc pi re bk pa lz go ss sm pf mf) H := hP
  have hD : va_D A (wT q cy nK st le be te ab bl (uZ ka (p9 * 40 + ns p9) k) bg ln ns me sc pi re bk pa lz go ss sm pf mf) := hD
  refine lv_aload_n hx hb dX1_append_15 rfl (lv_at hl 1 rfl) ?_
  refine va_get (D := D) (ci := 1) (v := .ref (q 11)) (C := RX1) (T := TX1) (N := 5) hx hb hts n_X1 hown hK hP 9 rfl rfl 2 (by decide) f_15 (fun _ h9 => h9) rfl dX1_append_16 ?_
  refine lv_iload hx hb dX1_append_19 (lv_at hl 0 rfl) ?_
  refine lv_iload_n hx hb dX1_append_21 rfl (lv_at hl 4 rfl) ?_
  refine z_iast (v := b9) hx hb hK hP hD hS 11 0 rfl rfl (by omega) dX1_append_22 (fun H locs hP hD hS => ?_)
  have hP : va_P D vwCl (wT q cy nK st le be te ab bl (uZ ka (p9 * 40 + ns p9) k) (uZ bg (p9 * 40 + ns p9) b9) ln ns me sc pi re bk pa lz go ss sm pf mf) H := hP
  have hD : va_D A (wT q cy nK st le be te ab bl (uZ ka (p9 * 40 + ns p9) k) (uZ bg (p9 * 40 + ns p9) b9) ln ns me sc pi re bk pa lz go ss sm pf mf) := hD
  refine lv_aload_n hx hb dX1_append_23 rfl (lv_at hl 1 rfl) ?_
  refine va_get (D := D) (ci := 1) (v := .ref (q 12)) (C := RX1) (T := TX1) (N := 5) hx hb hts n_X1 hown hK hP 9 rfl rfl 3 (by decide) f_18 (fun _ h9 => h9) rfl dX1_append_24 ?_
  refine lv_iload hx hb dX1_append_27 (lv_at hl 0 rfl) ?_
  refine lv_iload hx hb dX1_append_29 (lv_at hl 5 rfl) ?_
  refine z_iast (v := l9) hx hb hK hP hD hS 12 0 rfl rfl (by omega) dX1_append_31 (fun H locs hP hD hS => ?_)
  have hP : va_P D vwCl (wT q cy nK st le be te ab bl (uZ ka (p9 * 40 + ns p9) k) (uZ bg (p9 * 40 + ns p9) b9) (uZ ln (p9 * 40 + ns p9) l9) ns me sc pi re bk pa lz go ss sm pf mf) H := hP
  have hD : va_D A (wT q cy nK st le be te ab bl (uZ ka (p9 * 40 + ns p9) k) (uZ bg (p9 * 40 + ns p9) b9) (uZ ln (p9 * 40 + ns p9) l9) ns me sc pi re bk pa lz go ss sm pf mf) := hD
  refine lv_aload_n hx hb dX1_append_32 rfl (lv_at hl 1 rfl) ?_
  refine va_get (D := D) (ci := 1) (v := .ref (q 13)) (C := RX1) (T := TX1) (N := 5) hx hb hts n_X1 hown hK hP 9 rfl rfl 4 (by decide) f_21 (fun _ h9 => h9) rfl dX1_append_33 ?_
  refine lv_iload_n hx hb dX1_append_36 rfl (lv_at hl 2 rfl) ?_
  refine lv_dup2_11 hx hb dX1_append_37 rfl rfl ?_
  refine z_iald hx hb hK hP 13 0 rfl rfl (by omega) dX1_append_38 ?_
  have b_1 := I.ns p9
  refine lv_iconst (v := iI (1)) hx hb dX1_append_39 rfl ?_
  refine z_iadd hx hb dX1_append_40 ?_
  refine z_iast (v := (ns p9) + 1) hx hb hK hP hD hS 13 0 rfl rfl (by omega) dX1_append_41 (fun H locs hP hD hS => ?_)
  have hP : va_P D vwCl (wT q cy nK st le be te ab bl (uZ ka (p9 * 40 + ns p9) k) (uZ bg (p9 * 40 + ns p9) b9) (uZ ln (p9 * 40 + ns p9) l9) (uZ ns p9 ((ns p9) + 1)) me sc pi re bk pa lz go ss sm pf mf) H := hP
  have hD : va_D A (wT q cy nK st le be te ab bl (uZ ka (p9 * 40 + ns p9) k) (uZ bg (p9 * 40 + ns p9) b9) (uZ ln (p9 * 40 + ns p9) l9) (uZ ns p9 ((ns p9) + 1)) me sc pi re bk pa lz go ss sm pf mf) := hD
  refine lv_aload_n hx hb dX1_append_42 rfl (lv_at hl 1 rfl) ?_
  refine va_get (D := D) (ci := 1) (v := .ref (q 13)) (C := RX1) (T := TX1) (N := 5) hx hb hts n_X1 hown hK hP 9 rfl rfl 4 (by decide) f_21 (fun _ h9 => h9) rfl dX1_append_43 ?_
  refine lv_iload_n hx hb dX1_append_46 rfl (lv_at hl 2 rfl) ?_
  refine z_iald hx hb hK hP 13 0 rfl rfl (by omega) dX1_append_47 ?_
  refine lv_iconst (v := iI (1)) hx hb dX1_append_48 rfl ?_
  refine z_isub hx hb dX1_append_49 ?_
  exact z_iret X hK hP hD hS dX1_append_50 (by show uZ ns p9 (ns p9 + 1) p9 - 1 = ns p9; unfold uZ; rw [if_pos rfl]; omega)

theorem hd_X1_countNotes : yX1_countNotes.cls = RX1 ∧ yX1_countNotes.cls ≠ "java/lang/invoke/MethodHandle" ∧ yX1_countNotes.cls ≠ "java/lang/invoke/VarHandle" ∧ (parseMethodDescriptor yX1_countNotes.desc).map (fun d => d.parameters.length) = some 0 := by decide +kernel
set_option maxHeartbeats 4000000 in
set_option maxRecDepth 100000 in
theorem c_X1_countNotes (I : okS nK st le be te ab bl ka bg ln ns me sc pi re bk)   : MI l D cy yX1_countNotes wsX1_countNotes ({ frames := 0, cells := 0, slots := 0, locals := 0 } : Room) [.ref (q 9)] (wT q cy nK st le be te ab bl ka bg ln ns me sc pi re bk pa lz go ss sm pf mf) (sZ ns 0 4) (wT q cy nK st le be te ab bl ka bg ln ns me sc pi re bk pa lz go ss sm pf mf) := by
  refine MI.ofW (cc := cX1_countNotes) (maxL := 3) (ret := (some .int)) (by decide) rfl (Nat.le_of_ble_eq_true rfl) ?_
  intro p e s m below meth c A ls X hK hP hD hA hS hl
  obtain ⟨hx, hb, hml, hr, hts, hown, hlocks⟩ := id X
  have hl : lv_has ls 3 [(0, .ref (q 9))] := hl
  have f_21 := hts (Cond.fieldLink RX1 21 "TwoKeys$Music" "sizes" "[I") (by decide +kernel)
  have n_X1 : ∀ w ∈ u_ws RX1 TX1 5, w ∈ wsX1_countNotes := by decide +kernel
  have iK := I.nK
  refine lv_iconst (v := iI (0)) hx hb dX1_countNotes_0 rfl ?_
  refine lv_istore_n (lv' := [(1, .int (iI 0)), (0, .ref (q 9))]) hx hb dX1_countNotes_1 rfl hl (by decide) rfl (fun ls hl => ?_)
  refine lv_iconst (v := iI (0)) hx hb dX1_countNotes_2 rfl ?_
  refine lv_istore_n (lv' := [(2, .int (iI 0)), (1, .int (iI 0)), (0, .ref (q 9))]) hx hb dX1_countNotes_3 rfl hl (by decide) rfl (fun ls hl => ?_)
  have L_4 : ∀ (n : Nat) (acc : Int) (p9 : Int), (h0 : 0 ≤ p9 ∧ p9 ≤ 4) → (hf : 4 - p9 < n) → (hr : acc = sZ ns 0 p9) → ∀ (H : Heap) (locs : List Loc) (ls : Array Slot), va_P D vwCl (wT q cy nK st le be te ab bl ka bg ln ns me sc pi re bk pa lz go ss sm pf mf) H → va_D A (wT q cy nK st le be te ab bl ka bg ln ns me sc pi re bk pa lz go ss sm pf mf) → va_S A s.heap H locs → lv_has ls 3 [(2, .int (iI p9)), (1, .int (iI acc)), (0, .ref (q 9))] → W p l e ({ frames := 0, cells := 0, slots := 0, locals := 0 } : Room) s m [.ref (q 9)].toArray below meth c H locs 0 0 (MQ below (zQi D cy (wT q cy nK st le be te ab bl ka bg ln ns me sc pi re bk pa lz go ss sm pf mf) A (sZ ns 0 4)) [.ref (q 9)].toArray s 0 0 A) (F0 m 4 ls []) := by
    intro n
    induction n with
    | zero =>
      intro acc p9 h0 hf hr
      exfalso; omega
    | succ n ih_4 =>
      intro acc p9 h0 hf hr H locs ls hP hD hS hl
      refine lv_iload_n hx hb dX1_countNotes_4 rfl (lv_at hl 0 rfl) ?_
      refine lv_iconst (v := iI (4)) hx hb dX1_countNotes_5 rfl ?_
      refine z_icmp_ge (tgt := 24) hx hb dX1_countNotes_6 (by decide) (by omega) (fun c_1 => ?_) (fun c_1 => ?_)
      · refine lv_iload_n hx hb dX1_countNotes_24 rfl (lv_at hl 1 rfl) ?_
        exact z_iret X hK hP hD hS dX1_countNotes_25 (by rw [hr, show p9 = 4 by omega])
      · refine lv_iload_n hx hb dX1_countNotes_9 rfl (lv_at hl 1 rfl) ?_
        refine lv_aload_n hx hb dX1_countNotes_10 rfl (lv_at hl 2 rfl) ?_
        refine va_get (D := D) (ci := 1) (v := .ref (q 13)) (C := RX1) (T := TX1) (N := 5) hx hb hts n_X1 hown hK hP 9 rfl rfl 4 (by decide) f_21 (fun _ h9 => h9) rfl dX1_countNotes_11 ?_
        refine lv_iload_n hx hb dX1_countNotes_14 rfl (lv_at hl 0 rfl) ?_
        refine z_iald hx hb hK hP 13 0 rfl rfl (by omega) dX1_countNotes_15 ?_
        have b_2 := I.ns p9
        refine z_iadd hx hb dX1_countNotes_16 ?_
        refine lv_istore_n (lv' := [(1, .int (iI (acc + (ns p9)))), (2, .int (iI p9)), (0, .ref (q 9))]) hx hb dX1_countNotes_17 rfl hl (by decide) rfl (fun ls hl => ?_)
        refine lv_iinc (v := iI (p9 + 1)) (lv' := [(2, .int (iI (p9 + 1))), (1, .int (iI (acc + (ns p9)))), (0, .ref (q 9))]) hx hb dX1_countNotes_18 hl (k := 1) rfl (iI_add _ _) (by decide) rfl (fun ls hl => ?_)
        refine lv_goto (tgt := 4) hx hb dX1_countNotes_21 (by decide) ?_
        exact ih_4 (acc + (ns p9)) (p9 + 1) (by omega) (by omega) (by rw [sZ_step (by omega), ← hr]) _ _ _ hP hD hS (lv_sub hl [0, 1, 2] rfl)
  exact L_4 5 0 0 (by omega) (by omega) ((sZ_nil (by omega)).symm) _ _ _ hP hD hS (lv_sub hl [0, 1, 2] rfl)

theorem hd_X1_tickBehind : yX1_tickBehind.cls = RX1 ∧ yX1_tickBehind.cls ≠ "java/lang/invoke/MethodHandle" ∧ yX1_tickBehind.cls ≠ "java/lang/invoke/VarHandle" ∧ (parseMethodDescriptor yX1_tickBehind.desc).map (fun d => d.parameters.length) = some 1 := by decide +kernel
set_option maxHeartbeats 4000000 in
set_option maxRecDepth 100000 in
theorem c_X1_tickBehind (I : okS nK st le be te ab bl ka bg ln ns me sc pi re bk) (a : Int) (h : 0 ≤ a ∧ a < 160) : MI l D cy yX1_tickBehind wsX1_tickBehind ({ frames := 0, cells := 0, slots := 0, locals := 0 } : Room) [.ref (q 9), .int (iI a)] (wT q cy nK st le be te ab bl ka bg ln ns me sc pi re bk pa lz go ss sm pf mf) (bg a + ln a) (wT q cy nK st le be te ab bl ka bg ln ns me sc pi re bk pa lz go ss sm pf mf) := by
  refine MI.ofW (cc := cX1_tickBehind) (maxL := 2) (ret := (some .int)) (by decide) rfl (Nat.le_of_ble_eq_true rfl) ?_
  intro p e s m below meth c A ls X hK hP hD hA hS hl
  obtain ⟨hx, hb, hml, hr, hts, hown, hlocks⟩ := id X
  have hl : lv_has ls 2 [(0, .ref (q 9)), (1, .int (iI a))] := hl
  have f_15 := hts (Cond.fieldLink RX1 15 "TwoKeys$Music" "beginAt" "[I") (by decide +kernel)
  have f_18 := hts (Cond.fieldLink RX1 18 "TwoKeys$Music" "lengthAt" "[I") (by decide +kernel)
  have n_X1 : ∀ w ∈ u_ws RX1 TX1 5, w ∈ wsX1_tickBehind := by decide +kernel
  have iK := I.nK
  refine lv_aload_n hx hb dX1_tickBehind_0 rfl (lv_at hl 0 rfl) ?_
  refine va_get (D := D) (ci := 1) (v := .ref (q 11)) (C := RX1) (T := TX1) (N := 5) hx hb hts n_X1 hown hK hP 9 rfl rfl 2 (by decide) f_15 (fun _ h9 => h9) rfl dX1_tickBehind_1 ?_
  refine lv_iload_n hx hb dX1_tickBehind_4 rfl (lv_at hl 1 rfl) ?_
  refine z_iald hx hb hK hP 11 0 rfl rfl (by omega) dX1_tickBehind_5 ?_
  have b_1 := I.bg a
  refine lv_aload_n hx hb dX1_tickBehind_6 rfl (lv_at hl 0 rfl) ?_
  refine va_get (D := D) (ci := 1) (v := .ref (q 12)) (C := RX1) (T := TX1) (N := 5) hx hb hts n_X1 hown hK hP 9 rfl rfl 3 (by decide) f_18 (fun _ h9 => h9) rfl dX1_tickBehind_7 ?_
  refine lv_iload_n hx hb dX1_tickBehind_10 rfl (lv_at hl 1 rfl) ?_
  refine z_iald hx hb hK hP 12 0 rfl rfl (by omega) dX1_tickBehind_11 ?_
  have b_2 := I.ln a
  refine z_iadd hx hb dX1_tickBehind_12 ?_
  exact z_iret X hK hP hD hS dX1_tickBehind_13 (by first | rfl | omega | grind)

theorem hd_X1_soundsAt : yX1_soundsAt.cls = RX1 ∧ yX1_soundsAt.cls ≠ "java/lang/invoke/MethodHandle" ∧ yX1_soundsAt.cls ≠ "java/lang/invoke/VarHandle" ∧ (parseMethodDescriptor yX1_soundsAt.desc).map (fun d => d.parameters.length) = some 2 := by decide +kernel
set_option maxHeartbeats 4000000 in
set_option maxRecDepth 100000 in
theorem c_X1_soundsAt (I : okS nK st le be te ab bl ka bg ln ns me sc pi re bk) (a : Int) (t9 : Int) (h : 0 ≤ a ∧ a < 160) (h2 : -2147483648 ≤ t9 ∧ t9 ≤ 2147483647) : MI l D cy yX1_soundsAt wsX1_soundsAt ({ frames := 1, cells := 0, slots := 0, locals := 21 } : Room) [.ref (q 9), .int (iI a), .int (iI t9)] (wT q cy nK st le be te ab bl ka bg ln ns me sc pi re bk pa lz go ss sm pf mf) (bP (bg a ≤ t9 ∧ t9 < bg a + ln a)) (wT q cy nK st le be te ab bl ka bg ln ns me sc pi re bk pa lz go ss sm pf mf) := by
  refine MI.ofW (cc := cX1_soundsAt) (maxL := 3) (ret := (some .boolean)) (by decide) rfl (Nat.le_of_ble_eq_true rfl) ?_
  intro p e s m below meth c A ls X hK hP hD hA hS hl
  obtain ⟨hx, hb, hml, hr, hts, hown, hlocks⟩ := id X
  have hl : lv_has ls 3 [(0, .ref (q 9)), (1, .int (iI a)), (2, .int (iI t9))] := hl
  have f_15 := hts (Cond.fieldLink RX1 15 "TwoKeys$Music" "beginAt" "[I") (by decide +kernel)
  have n_X1 : ∀ w ∈ u_ws RX1 TX1 5, w ∈ wsX1_soundsAt := by decide +kernel
  have iK := I.nK
  have := I.ln a
  have := I.bg a
  refine lv_aload_n hx hb dX1_soundsAt_0 rfl (lv_at hl 0 rfl) ?_
  refine va_get (D := D) (ci := 1) (v := .ref (q 11)) (C := RX1) (T := TX1) (N := 5) hx hb hts n_X1 hown hK hP 9 rfl rfl 2 (by decide) f_15 (fun _ h9 => h9) rfl dX1_soundsAt_1 ?_
  refine lv_iload_n hx hb dX1_soundsAt_4 rfl (lv_at hl 1 rfl) ?_
  refine z_iald hx hb hK hP 11 0 rfl rfl (by omega) dX1_soundsAt_5 ?_
  have b_1 := I.bg a
  refine lv_iload_n hx hb dX1_soundsAt_6 rfl (lv_at hl 2 rfl) ?_
  refine z_icmp_gt (tgt := 23) hx hb dX1_soundsAt_7 (by decide) (by omega) (fun c_2 => ?_) (fun c_2 => ?_)
  · refine lv_iconst (v := iI (0)) hx hb dX1_soundsAt_23 rfl ?_
    exact z_pret0 X hK hP hD hS dX1_soundsAt_24 (by first | rfl | omega | grind)
  · refine lv_iload_n hx hb dX1_soundsAt_10 rfl (lv_at hl 2 rfl) ?_
    refine lv_aload_n hx hb dX1_soundsAt_11 rfl (lv_at hl 0 rfl) ?_
    refine lv_iload_n hx hb dX1_soundsAt_12 rfl (lv_at hl 1 rfl) ?_
    refine z_callVi (ci := 1) (q0 := 9) (As := [.int (iI a)]) (rest := [.int (iI t9)]) X hK hP hD hA hS hl.1 gX1_soundsAt_X1_tickBehind rfl ⟨rfl, rfl⟩ hd_X1_tickBehind ⟨Nat.le_of_ble_eq_true rfl, Nat.le_of_ble_eq_true rfl⟩ rfl rfl rfl (Nat.le_of_ble_eq_true rfl) ⟨Nat.zero_le _, Nat.zero_le _⟩ rfl dX1_soundsAt_13 (c_X1_tickBehind I a (by omega)) (fun H locs hP hD hS => ?_)
    refine z_icmp_ge (tgt := 23) hx hb dX1_soundsAt_16 (by decide) (by omega) (fun c_3 => ?_) (fun c_3 => ?_)
    · refine lv_iconst (v := iI (0)) hx hb dX1_soundsAt_23 rfl ?_
      exact z_pret0 X hK hP hD hS dX1_soundsAt_24 (by first | rfl | omega | grind)
    · refine lv_iconst (v := iI (1)) hx hb dX1_soundsAt_19 rfl ?_
      refine lv_goto (tgt := 24) hx hb dX1_soundsAt_20 (by decide) ?_
      exact z_pret1 X hK hP hD hS dX1_soundsAt_24 (by first | rfl | omega | grind)

theorem hd_X1_soundAtOnce : yX1_soundAtOnce.cls = RX1 ∧ yX1_soundAtOnce.cls ≠ "java/lang/invoke/MethodHandle" ∧ yX1_soundAtOnce.cls ≠ "java/lang/invoke/VarHandle" ∧ (parseMethodDescriptor yX1_soundAtOnce.desc).map (fun d => d.parameters.length) = some 2 := by decide +kernel
set_option maxHeartbeats 4000000 in
set_option maxRecDepth 100000 in
theorem c_X1_soundAtOnce (I : okS nK st le be te ab bl ka bg ln ns me sc pi re bk) (a : Int) (b : Int) (h : 0 ≤ a ∧ a < 160) (h2 : 0 ≤ b ∧ b < 160) : MI l D cy yX1_soundAtOnce wsX1_soundAtOnce ({ frames := 1, cells := 0, slots := 0, locals := 21 } : Room) [.ref (q 9), .int (iI a), .int (iI b)] (wT q cy nK st le be te ab bl ka bg ln ns me sc pi re bk pa lz go ss sm pf mf) (bP (onP bg ln a b)) (wT q cy nK st le be te ab bl ka bg ln ns me sc pi re bk pa lz go ss sm pf mf) := by
  refine MI.ofW (cc := cX1_soundAtOnce) (maxL := 3) (ret := (some .boolean)) (by decide) rfl (Nat.le_of_ble_eq_true rfl) ?_
  intro p e s m below meth c A ls X hK hP hD hA hS hl
  obtain ⟨hx, hb, hml, hr, hts, hown, hlocks⟩ := id X
  have hl : lv_has ls 3 [(0, .ref (q 9)), (1, .int (iI a)), (2, .int (iI b))] := hl
  have f_15 := hts (Cond.fieldLink RX1 15 "TwoKeys$Music" "beginAt" "[I") (by decide +kernel)
  have n_X1 : ∀ w ∈ u_ws RX1 TX1 5, w ∈ wsX1_soundAtOnce := by decide +kernel
  have iK := I.nK
  have := I.ln a
  have := I.bg a
  have := I.ln b
  have := I.bg b
  refine lv_aload_n hx hb dX1_soundAtOnce_0 rfl (lv_at hl 0 rfl) ?_
  refine va_get (D := D) (ci := 1) (v := .ref (q 11)) (C := RX1) (T := TX1) (N := 5) hx hb hts n_X1 hown hK hP 9 rfl rfl 2 (by decide) f_15 (fun _ h9 => h9) rfl dX1_soundAtOnce_1 ?_
  refine lv_iload_n hx hb dX1_soundAtOnce_4 rfl (lv_at hl 1 rfl) ?_
  refine z_iald hx hb hK hP 11 0 rfl rfl (by omega) dX1_soundAtOnce_5 ?_
  have b_1 := I.bg a
  refine lv_aload_n hx hb dX1_soundAtOnce_6 rfl (lv_at hl 0 rfl) ?_
  refine lv_iload_n hx hb dX1_soundAtOnce_7 rfl (lv_at hl 2 rfl) ?_
  refine z_callVi (ci := 1) (q0 := 9) (As := [.int (iI b)]) (rest := [.int (iI (bg a))]) X hK hP hD hA hS hl.1 gX1_soundAtOnce_X1_tickBehind rfl ⟨rfl, rfl⟩ hd_X1_tickBehind ⟨Nat.le_of_ble_eq_true rfl, Nat.le_of_ble_eq_true rfl⟩ rfl rfl rfl (Nat.le_of_ble_eq_true rfl) ⟨Nat.zero_le _, Nat.zero_le _⟩ rfl dX1_soundAtOnce_8 (c_X1_tickBehind I b (by omega)) (fun H locs hP hD hS => ?_)
  refine z_icmp_ge (tgt := 32) hx hb dX1_soundAtOnce_11 (by decide) (by omega) (fun c_2 => ?_) (fun c_2 => ?_)
  · refine lv_iconst (v := iI (0)) hx hb dX1_soundAtOnce_32 rfl ?_
    exact z_pret0 X hK hP hD hS dX1_soundAtOnce_33 (by first | rfl | omega | grind)
  · refine lv_aload_n hx hb dX1_soundAtOnce_14 rfl (lv_at hl 0 rfl) ?_
    refine va_get (D := D) (ci := 1) (v := .ref (q 11)) (C := RX1) (T := TX1) (N := 5) hx hb hts n_X1 hown hK hP 9 rfl rfl 2 (by decide) f_15 (fun _ h9 => h9) rfl dX1_soundAtOnce_15 ?_
    refine lv_iload_n hx hb dX1_soundAtOnce_18 rfl (lv_at hl 2 rfl) ?_
    refine z_iald hx hb hK hP 11 0 rfl rfl (by omega) dX1_soundAtOnce_19 ?_
    have b_3 := I.bg b
    refine lv_aload_n hx hb dX1_soundAtOnce_20 rfl (lv_at hl 0 rfl) ?_
    refine lv_iload_n hx hb dX1_soundAtOnce_21 rfl (lv_at hl 1 rfl) ?_
    refine z_callVi (ci := 1) (q0 := 9) (As := [.int (iI a)]) (rest := [.int (iI (bg b))]) X hK hP hD hA hS hl.1 gX1_soundAtOnce_X1_tickBehind rfl ⟨rfl, rfl⟩ hd_X1_tickBehind ⟨Nat.le_of_ble_eq_true rfl, Nat.le_of_ble_eq_true rfl⟩ rfl rfl rfl (Nat.le_of_ble_eq_true rfl) ⟨Nat.zero_le _, Nat.zero_le _⟩ rfl dX1_soundAtOnce_22 (c_X1_tickBehind I a (by omega)) (fun H locs hP hD hS => ?_)
    refine z_icmp_ge (tgt := 32) hx hb dX1_soundAtOnce_25 (by decide) (by omega) (fun c_4 => ?_) (fun c_4 => ?_)
    · refine lv_iconst (v := iI (0)) hx hb dX1_soundAtOnce_32 rfl ?_
      exact z_pret0 X hK hP hD hS dX1_soundAtOnce_33 (by first | rfl | omega | grind)
    · refine lv_iconst (v := iI (1)) hx hb dX1_soundAtOnce_28 rfl ?_
      refine lv_goto (tgt := 33) hx hb dX1_soundAtOnce_29 (by decide) ?_
      exact z_pret1 X hK hP hD hS dX1_soundAtOnce_33 (by first | rfl | omega | grind)

theorem hd_X1_doClash : yX1_doClash.cls = RX1 ∧ yX1_doClash.cls ≠ "java/lang/invoke/MethodHandle" ∧ yX1_doClash.cls ≠ "java/lang/invoke/VarHandle" ∧ (parseMethodDescriptor yX1_doClash.desc).map (fun d => d.parameters.length) = some 2 := by decide +kernel
set_option maxHeartbeats 4000000 in
set_option maxRecDepth 100000 in
theorem c_X1_doClash (I : okS nK st le be te ab bl ka bg ln ns me sc pi re bk) (a : Int) (b : Int) (h : 0 ≤ a ∧ a < 160) (h2 : 0 ≤ b ∧ b < 160) : MI l D cy yX1_doClash wsX1_doClash ({ frames := 2, cells := 0, slots := 0, locals := 43 } : Room) [.ref (q 9), .int (iI a), .int (iI b)] (wT q cy nK st le be te ab bl ka bg ln ns me sc pi re bk pa lz go ss sm pf mf) (bP (clP nK st ka bg ln a b)) (wT q cy nK st le be te ab bl ka bg ln ns me sc pi re bk pa lz go ss sm pf mf) := by
  refine MI.ofW (cc := cX1_doClash) (maxL := 3) (ret := (some .boolean)) (by decide) rfl (Nat.le_of_ble_eq_true rfl) ?_
  intro p e s m below meth c A ls X hK hP hD hA hS hl
  obtain ⟨hx, hb, hml, hr, hts, hown, hlocks⟩ := id X
  have hl : lv_has ls 3 [(0, .ref (q 9)), (1, .int (iI a)), (2, .int (iI b))] := hl
  have f_24 := hts (Cond.fieldLink RX1 24 "TwoKeys$Music" "board" "LTwoKeys$Board;") (by decide +kernel)
  have f_9 := hts (Cond.fieldLink RX1 9 "TwoKeys$Music" "keyAt" "[I") (by decide +kernel)
  have n_X1 : ∀ w ∈ u_ws RX1 TX1 5, w ∈ wsX1_doClash := by decide +kernel
  have iK := I.nK
  refine lv_aload_n hx hb dX1_doClash_0 rfl (lv_at hl 0 rfl) ?_
  refine va_get (D := D) (ci := 1) (v := .ref (q 1)) (C := RX1) (T := TX1) (N := 5) hx hb hts n_X1 hown hK hP 9 rfl rfl 0 (by decide) f_24 (fun _ h9 => h9) rfl dX1_doClash_1 ?_
  refine lv_aload_n hx hb dX1_doClash_4 rfl (lv_at hl 0 rfl) ?_
  refine va_get (D := D) (ci := 1) (v := .ref (q 10)) (C := RX1) (T := TX1) (N := 5) hx hb hts n_X1 hown hK hP 9 rfl rfl 1 (by decide) f_9 (fun _ h9 => h9) rfl dX1_doClash_5 ?_
  refine lv_iload_n hx hb dX1_doClash_8 rfl (lv_at hl 1 rfl) ?_
  refine z_iald hx hb hK hP 10 0 rfl rfl (by omega) dX1_doClash_9 ?_
  have b_1 := I.ka a
  refine lv_aload_n hx hb dX1_doClash_10 rfl (lv_at hl 0 rfl) ?_
  refine va_get (D := D) (ci := 1) (v := .ref (q 10)) (C := RX1) (T := TX1) (N := 5) hx hb hts n_X1 hown hK hP 9 rfl rfl 1 (by decide) f_9 (fun _ h9 => h9) rfl dX1_doClash_11 ?_
  refine lv_iload_n hx hb dX1_doClash_14 rfl (lv_at hl 2 rfl) ?_
  refine z_iald hx hb hK hP 10 0 rfl rfl (by omega) dX1_doClash_15 ?_
  have b_2 := I.ka b
  refine z_callVi (ci := 0) (q0 := 1) (As := [.int (iI (ka a)), .int (iI (ka b))]) (rest := []) X hK hP hD hA hS hl.1 gX1_doClash_X0_doShare rfl ⟨rfl, rfl⟩ hd_X0_doShare ⟨Nat.le_of_ble_eq_true rfl, Nat.le_of_ble_eq_true rfl⟩ rfl rfl rfl (Nat.le_of_ble_eq_true rfl) ⟨Nat.zero_le _, Nat.zero_le _⟩ rfl dX1_doClash_16 (c_X0_doShare I (ka a) (ka b) (by omega)) (fun H locs hP hD hS => ?_)
  refine z_ifp_eq (tgt := 35) hx hb dX1_doClash_19 (by decide) (fun c_3 => ?_) (fun c_3 => ?_)
  · refine lv_iconst (v := iI (0)) hx hb dX1_doClash_35 rfl ?_
    exact z_pret0 X hK hP hD hS dX1_doClash_36 (by first | exact ⟨by assumption, by assumption⟩ | exact fun z => absurd z.1 (by assumption) | exact fun z => absurd z.2 (by assumption))
  · refine lv_aload_n hx hb dX1_doClash_22 rfl (lv_at hl 0 rfl) ?_
    refine lv_iload_n hx hb dX1_doClash_23 rfl (lv_at hl 1 rfl) ?_
    refine lv_iload_n hx hb dX1_doClash_24 rfl (lv_at hl 2 rfl) ?_
    refine z_callVi (ci := 1) (q0 := 9) (As := [.int (iI a), .int (iI b)]) (rest := []) X hK hP hD hA hS hl.1 gX1_doClash_X1_soundAtOnce rfl ⟨rfl, rfl⟩ hd_X1_soundAtOnce ⟨Nat.le_of_ble_eq_true rfl, Nat.le_of_ble_eq_true rfl⟩ rfl rfl rfl (Nat.le_of_ble_eq_true rfl) ⟨Nat.zero_le _, Nat.zero_le _⟩ rfl dX1_doClash_25 (c_X1_soundAtOnce I a b (by omega) (by omega)) (fun H locs hP hD hS => ?_)
    refine z_ifp_eq (tgt := 35) hx hb dX1_doClash_28 (by decide) (fun c_4 => ?_) (fun c_4 => ?_)
    · refine lv_iconst (v := iI (0)) hx hb dX1_doClash_35 rfl ?_
      exact z_pret0 X hK hP hD hS dX1_doClash_36 (by first | exact ⟨by assumption, by assumption⟩ | exact fun z => absurd z.1 (by assumption) | exact fun z => absurd z.2 (by assumption))
    · refine lv_iconst (v := iI (1)) hx hb dX1_doClash_31 rfl ?_
      refine lv_goto (tgt := 36) hx hb dX1_doClash_32 (by decide) ?_
      exact z_pret1 X hK hP hD hS dX1_doClash_36 (by first | exact ⟨by assumption, by assumption⟩ | exact fun z => absurd z.1 (by assumption) | exact fun z => absurd z.2 (by assumption))

theorem hd_X1_countClashes : yX1_countClashes.cls = RX1 ∧ yX1_countClashes.cls ≠ "java/lang/invoke/MethodHandle" ∧ yX1_countClashes.cls ≠ "java/lang/invoke/VarHandle" ∧ (parseMethodDescriptor yX1_countClashes.desc).map (fun d => d.parameters.length) = some 1 := by decide +kernel
set_option maxHeartbeats 4000000 in
set_option maxRecDepth 100000 in
theorem c_X1_countClashes (I : okS nK st le be te ab bl ka bg ln ns me sc pi re bk) (p9 : Int) (h : 0 ≤ p9 ∧ p9 ≤ 3) : MI l D cy yX1_countClashes wsX1_countClashes ({ frames := 3, cells := 0, slots := 0, locals := 65 } : Room) [.ref (q 9), .int (iI p9)] (wT q cy nK st le be te ab bl ka bg ln ns me sc pi re bk pa lz go ss sm pf mf) (clN nK st ka bg ln (p9 * 40) (p9 * 40 + ns p9)) (wT q cy nK st le be te ab bl ka bg ln ns me sc pi re bk pa lz go ss sm pf mf) := by
  refine MI.ofW (cc := cX1_countClashes) (maxL := 5) (ret := (some .int)) (by decide) rfl (Nat.le_of_ble_eq_true rfl) ?_
  intro p e s m below meth c A ls X hK hP hD hA hS hl
  obtain ⟨hx, hb, hml, hr, hts, hown, hlocks⟩ := id X
  have hl : lv_has ls 5 [(0, .ref (q 9)), (1, .int (iI p9))] := hl
  have iK := I.nK
  have i9 := I.ns p9
  refine lv_iconst (v := iI (0)) hx hb dX1_countClashes_0 rfl ?_
  refine lv_istore_n (lv' := [(2, .int (iI 0)), (0, .ref (q 9)), (1, .int (iI p9))]) hx hb dX1_countClashes_1 rfl hl (by decide) rfl (fun ls hl => ?_)
  refine lv_aload_n hx hb dX1_countClashes_2 rfl (lv_at hl 1 rfl) ?_
  refine lv_iload_n hx hb dX1_countClashes_3 rfl (lv_at hl 2 rfl) ?_
  refine z_callVi (ci := 1) (q0 := 9) (As := [.int (iI p9)]) (rest := []) X hK hP hD hA hS hl.1 gX1_countClashes_X1_startOf rfl ⟨rfl, rfl⟩ hd_X1_startOf ⟨Nat.le_of_ble_eq_true rfl, Nat.le_of_ble_eq_true rfl⟩ rfl rfl rfl (Nat.le_of_ble_eq_true rfl) ⟨Nat.zero_le _, Nat.zero_le _⟩ rfl dX1_countClashes_4 (c_X1_startOf p9) (fun H locs hP hD hS => ?_)
  refine lv_istore_n (lv' := [(3, .int (iI (p9 * 40))), (2, .int (iI 0)), (0, .ref (q 9)), (1, .int (iI p9))]) hx hb dX1_countClashes_7 rfl hl (by decide) rfl (fun ls hl => ?_)
  have L_8 : ∀ (n : Nat) (acc : Int) (b : Int), (h0 : p9 * 40 ≤ b ∧ b ≤ p9 * 40 + ns p9) → (hf : p9 * 40 + ns p9 - b < n) → (hr : acc = clN nK st ka bg ln (p9 * 40) b) → ∀ (H : Heap) (locs : List Loc) (ls : Array Slot), va_P D vwCl (wT q cy nK st le be te ab bl ka bg ln ns me sc pi re bk pa lz go ss sm pf mf) H → va_D A (wT q cy nK st le be te ab bl ka bg ln ns me sc pi re bk pa lz go ss sm pf mf) → va_S A s.heap H locs → lv_has ls 5 [(3, .int (iI b)), (2, .int (iI acc)), (0, .ref (q 9)), (1, .int (iI p9))] → W p l e ({ frames := 3, cells := 0, slots := 0, locals := 65 } : Room) s m [.ref (q 9), .int (iI p9)].toArray below meth c H locs 0 0 (MQ below (zQi D cy (wT q cy nK st le be te ab bl ka bg ln ns me sc pi re bk pa lz go ss sm pf mf) A (clN nK st ka bg ln (p9 * 40) (p9 * 40 + ns p9))) [.ref (q 9), .int (iI p9)].toArray s 0 0 A) (F0 m 8 ls []) := by
    intro n
    induction n with
    | zero =>
      intro acc b h0 hf hr
      exfalso; omega
    | succ n ih_8 =>
      intro acc b h0 hf hr H locs ls hP hD hS hl
      refine lv_iload_n hx hb dX1_countClashes_8 rfl (lv_at hl 0 rfl) ?_
      refine lv_aload_n hx hb dX1_countClashes_9 rfl (lv_at hl 2 rfl) ?_
      refine lv_iload_n hx hb dX1_countClashes_10 rfl (lv_at hl 3 rfl) ?_
      refine z_callVi (ci := 1) (q0 := 9) (As := [.int (iI p9)]) (rest := [.int (iI b)]) X hK hP hD hA hS hl.1 gX1_countClashes_X1_endOf rfl ⟨rfl, rfl⟩ hd_X1_endOf ⟨Nat.le_of_ble_eq_true rfl, Nat.le_of_ble_eq_true rfl⟩ rfl rfl rfl (Nat.le_of_ble_eq_true rfl) ⟨Nat.zero_le _, Nat.zero_le _⟩ rfl dX1_countClashes_11 (c_X1_endOf I p9 (by omega)) (fun H locs hP hD hS => ?_)
      refine z_icmp_ge (tgt := 55) hx hb dX1_countClashes_14 (by decide) (by omega) (fun c_1 => ?_) (fun c_1 => ?_)
      · refine lv_iload_n hx hb dX1_countClashes_55 rfl (lv_at hl 1 rfl) ?_
        exact z_iret X hK hP hD hS dX1_countClashes_56 (by rw [hr, show b = p9 * 40 + ns p9 by omega])
      · refine lv_aload_n hx hb dX1_countClashes_17 rfl (lv_at hl 2 rfl) ?_
        refine lv_iload_n hx hb dX1_countClashes_18 rfl (lv_at hl 3 rfl) ?_
        refine z_callVi (ci := 1) (q0 := 9) (As := [.int (iI p9)]) (rest := []) X hK hP hD hA hS hl.1 gX1_countClashes_X1_startOf rfl ⟨rfl, rfl⟩ hd_X1_startOf ⟨Nat.le_of_ble_eq_true rfl, Nat.le_of_ble_eq_true rfl⟩ rfl rfl rfl (Nat.le_of_ble_eq_true rfl) ⟨Nat.zero_le _, Nat.zero_le _⟩ rfl dX1_countClashes_19 (c_X1_startOf p9) (fun H locs hP hD hS => ?_)
        refine lv_istore (lv' := [(4, .int (iI (p9 * 40))), (3, .int (iI b)), (2, .int (iI acc)), (0, .ref (q 9)), (1, .int (iI p9))]) hx hb dX1_countClashes_22 hl (by decide) rfl (fun ls hl => ?_)
        have L_24 : ∀ (n : Nat) (acc2 : Int) (a : Int), (h3 : p9 * 40 ≤ a ∧ a ≤ b) → (hf2 : b - a < n) → (hr2 : acc2 = clN nK st ka bg ln (p9 * 40) b + sZ (fun a => bP (clP nK st ka bg ln a b)) (p9 * 40) a) → ∀ (H : Heap) (locs : List Loc) (ls : Array Slot), va_P D vwCl (wT q cy nK st le be te ab bl ka bg ln ns me sc pi re bk pa lz go ss sm pf mf) H → va_D A (wT q cy nK st le be te ab bl ka bg ln ns me sc pi re bk pa lz go ss sm pf mf) → va_S A s.heap H locs → lv_has ls 5 [(4, .int (iI a)), (3, .int (iI b)), (2, .int (iI acc2)), (0, .ref (q 9)), (1, .int (iI p9))] → W p l e ({ frames := 3, cells := 0, slots := 0, locals := 65 } : Room) s m [.ref (q 9), .int (iI p9)].toArray below meth c H locs 0 0 (MQ below (zQi D cy (wT q cy nK st le be te ab bl ka bg ln ns me sc pi re bk pa lz go ss sm pf mf) A (clN nK st ka bg ln (p9 * 40) (p9 * 40 + ns p9))) [.ref (q 9), .int (iI p9)].toArray s 0 0 A) (F0 m 24 ls []) := by
          intro n
          induction n with
          | zero =>
            intro acc2 a h3 hf2 hr2
            exfalso; omega
          | succ n ih_24 =>
            intro acc2 a h3 hf2 hr2 H locs ls hP hD hS hl
            refine lv_iload hx hb dX1_countClashes_24 (lv_at hl 0 rfl) ?_
            refine lv_iload_n hx hb dX1_countClashes_26 rfl (lv_at hl 1 rfl) ?_
            refine z_icmp_ge (tgt := 49) hx hb dX1_countClashes_27 (by decide) (by omega) (fun c_2 => ?_) (fun c_2 => ?_)
            · refine lv_iinc (v := iI (b + 1)) (lv' := [(3, .int (iI (b + 1))), (4, .int (iI a)), (2, .int (iI acc2)), (0, .ref (q 9)), (1, .int (iI p9))]) hx hb dX1_countClashes_49 hl (k := 1) rfl (iI_add _ _) (by decide) rfl (fun ls hl => ?_)
              refine lv_goto (tgt := 8) hx hb dX1_countClashes_52 (by decide) ?_
              exact ih_8 acc2 (b + 1) (by omega) (by omega) (by show acc2 = sZ _ _ _; rw [sZ_step (by omega), hr2, show a = b by omega]; rfl) _ _ _ hP hD hS (lv_sub hl [0, 2, 3, 4] rfl)
            · refine lv_aload_n hx hb dX1_countClashes_30 rfl (lv_at hl 3 rfl) ?_
              refine lv_iload hx hb dX1_countClashes_31 (lv_at hl 0 rfl) ?_
              refine lv_iload_n hx hb dX1_countClashes_33 rfl (lv_at hl 1 rfl) ?_
              refine z_callVi (ci := 1) (q0 := 9) (As := [.int (iI a), .int (iI b)]) (rest := []) X hK hP hD hA hS hl.1 gX1_countClashes_X1_doClash rfl ⟨rfl, rfl⟩ hd_X1_doClash ⟨Nat.le_of_ble_eq_true rfl, Nat.le_of_ble_eq_true rfl⟩ rfl rfl rfl (Nat.le_of_ble_eq_true rfl) ⟨Nat.zero_le _, Nat.zero_le _⟩ rfl dX1_countClashes_34 (c_X1_doClash I a b (by omega) (by omega)) (fun H locs hP hD hS => ?_)
              refine z_ifp_eq (tgt := 43) hx hb dX1_countClashes_37 (by decide) (fun c_3 => ?_) (fun c_3 => ?_)
              · refine lv_iinc (v := iI (a + 1)) (lv' := [(4, .int (iI (a + 1))), (3, .int (iI b)), (2, .int (iI acc2)), (0, .ref (q 9)), (1, .int (iI p9))]) hx hb dX1_countClashes_43 hl (k := 0) rfl (iI_add _ _) (by decide) rfl (fun ls hl => ?_)
                refine lv_goto (tgt := 24) hx hb dX1_countClashes_46 (by decide) ?_
                exact ih_24 acc2 (a + 1) (by omega) (by omega) (by rw [sZ_step (by omega)]; (try dsimp only); first | (rw [bP_1 (by assumption)]; omega) | (rw [bP_0 (by assumption)]; omega)) _ _ _ hP hD hS (lv_sub hl [0, 1, 2, 3, 4] rfl)
              · refine lv_iinc (v := iI (acc2 + 1)) (lv' := [(2, .int (iI (acc2 + 1))), (4, .int (iI a)), (3, .int (iI b)), (0, .ref (q 9)), (1, .int (iI p9))]) hx hb dX1_countClashes_40 hl (k := 2) rfl (iI_add _ _) (by decide) rfl (fun ls hl => ?_)
                refine lv_iinc (v := iI (a + 1)) (lv' := [(4, .int (iI (a + 1))), (2, .int (iI (acc2 + 1))), (3, .int (iI b)), (0, .ref (q 9)), (1, .int (iI p9))]) hx hb dX1_countClashes_43 hl (k := 1) rfl (iI_add _ _) (by decide) rfl (fun ls hl => ?_)
                refine lv_goto (tgt := 24) hx hb dX1_countClashes_46 (by decide) ?_
                exact ih_24 (acc2 + 1) (a + 1) (by omega) (by omega) (by rw [sZ_step (by omega)]; (try dsimp only); first | (rw [bP_1 (by assumption)]; omega) | (rw [bP_0 (by assumption)]; omega)) _ _ _ hP hD hS (lv_sub hl [0, 2, 1, 3, 4] rfl)
        exact L_24 41 acc (p9 * 40) (by omega) (by omega) (by rw [sZ_nil (by omega), ← hr, Int.add_zero]) _ _ _ hP hD hS (lv_sub hl [0, 1, 2, 3, 4] rfl)
  exact L_8 41 0 (p9 * 40) (by omega) (by omega) ((sZ_nil (by omega)).symm) _ _ _ hP hD hS (lv_sub hl [0, 1, 2, 3] rfl)

theorem hd_X1_allKeysThere : yX1_allKeysThere.cls = RX1 ∧ yX1_allKeysThere.cls ≠ "java/lang/invoke/MethodHandle" ∧ yX1_allKeysThere.cls ≠ "java/lang/invoke/VarHandle" ∧ (parseMethodDescriptor yX1_allKeysThere.desc).map (fun d => d.parameters.length) = some 1 := by decide +kernel
set_option maxHeartbeats 4000000 in
set_option maxRecDepth 100000 in
theorem c_X1_allKeysThere (I : okS nK st le be te ab bl ka bg ln ns me sc pi re bk) (p9 : Int) (h : 0 ≤ p9 ∧ p9 ≤ 3) : MI l D cy yX1_allKeysThere wsX1_allKeysThere ({ frames := 1, cells := 0, slots := 0, locals := 21 } : Room) [.ref (q 9), .int (iI p9)] (wT q cy nK st le be te ab bl ka bg ln ns me sc pi re bk pa lz go ss sm pf mf) (bP (∀ a, p9 * 40 ≤ a → a < p9 * 40 + ns p9 → ka a < nK)) (wT q cy nK st le be te ab bl ka bg ln ns me sc pi re bk pa lz go ss sm pf mf) := by
  refine MI.ofW (cc := cX1_allKeysThere) (maxL := 3) (ret := (some .boolean)) (by decide) rfl (Nat.le_of_ble_eq_true rfl) ?_
  intro p e s m below meth c A ls X hK hP hD hA hS hl
  obtain ⟨hx, hb, hml, hr, hts, hown, hlocks⟩ := id X
  have hl : lv_has ls 3 [(0, .ref (q 9)), (1, .int (iI p9))] := hl
  have f_24 := hts (Cond.fieldLink RX1 24 "TwoKeys$Music" "board" "LTwoKeys$Board;") (by decide +kernel)
  have f_9 := hts (Cond.fieldLink RX1 9 "TwoKeys$Music" "keyAt" "[I") (by decide +kernel)
  have n_X1 : ∀ w ∈ u_ws RX1 TX1 5, w ∈ wsX1_allKeysThere := by decide +kernel
  have iK := I.nK
  have i9 := I.ns p9
  refine lv_aload_n hx hb dX1_allKeysThere_0 rfl (lv_at hl 0 rfl) ?_
  refine lv_iload_n hx hb dX1_allKeysThere_1 rfl (lv_at hl 1 rfl) ?_
  refine z_callVi (ci := 1) (q0 := 9) (As := [.int (iI p9)]) (rest := []) X hK hP hD hA hS hl.1 gX1_allKeysThere_X1_startOf rfl ⟨rfl, rfl⟩ hd_X1_startOf ⟨Nat.le_of_ble_eq_true rfl, Nat.le_of_ble_eq_true rfl⟩ rfl rfl rfl (Nat.le_of_ble_eq_true rfl) ⟨Nat.zero_le _, Nat.zero_le _⟩ rfl dX1_allKeysThere_2 (c_X1_startOf p9) (fun H locs hP hD hS => ?_)
  refine lv_istore_n (lv' := [(2, .int (iI (p9 * 40))), (0, .ref (q 9)), (1, .int (iI p9))]) hx hb dX1_allKeysThere_5 rfl hl (by decide) rfl (fun ls hl => ?_)
  have L_6 : ∀ (n : Nat) (a : Int), (h0 : p9 * 40 ≤ a ∧ a ≤ p9 * 40 + ns p9) → (hf : p9 * 40 + ns p9 - a < n) → (hr : ∀ j, p9 * 40 ≤ j → j < a → ka j < nK) → ∀ (H : Heap) (locs : List Loc) (ls : Array Slot), va_P D vwCl (wT q cy nK st le be te ab bl ka bg ln ns me sc pi re bk pa lz go ss sm pf mf) H → va_D A (wT q cy nK st le be te ab bl ka bg ln ns me sc pi re bk pa lz go ss sm pf mf) → va_S A s.heap H locs → lv_has ls 3 [(2, .int (iI a)), (0, .ref (q 9)), (1, .int (iI p9))] → W p l e ({ frames := 1, cells := 0, slots := 0, locals := 21 } : Room) s m [.ref (q 9), .int (iI p9)].toArray below meth c H locs 0 0 (MQ below (zQi D cy (wT q cy nK st le be te ab bl ka bg ln ns me sc pi re bk pa lz go ss sm pf mf) A (bP (∀ a, p9 * 40 ≤ a → a < p9 * 40 + ns p9 → ka a < nK))) [.ref (q 9), .int (iI p9)].toArray s 0 0 A) (F0 m 6 ls []) := by
    intro n
    induction n with
    | zero =>
      intro a h0 hf hr
      exfalso; omega
    | succ n ih_6 =>
      intro a h0 hf hr H locs ls hP hD hS hl
      refine lv_iload_n hx hb dX1_allKeysThere_6 rfl (lv_at hl 0 rfl) ?_
      refine lv_aload_n hx hb dX1_allKeysThere_7 rfl (lv_at hl 1 rfl) ?_
      refine lv_iload_n hx hb dX1_allKeysThere_8 rfl (lv_at hl 2 rfl) ?_
      refine z_callVi (ci := 1) (q0 := 9) (As := [.int (iI p9)]) (rest := [.int (iI a)]) X hK hP hD hA hS hl.1 gX1_allKeysThere_X1_endOf rfl ⟨rfl, rfl⟩ hd_X1_endOf ⟨Nat.le_of_ble_eq_true rfl, Nat.le_of_ble_eq_true rfl⟩ rfl rfl rfl (Nat.le_of_ble_eq_true rfl) ⟨Nat.zero_le _, Nat.zero_le _⟩ rfl dX1_allKeysThere_9 (c_X1_endOf I p9 (by omega)) (fun H locs hP hD hS => ?_)
      refine z_icmp_ge (tgt := 39) hx hb dX1_allKeysThere_12 (by decide) (by omega) (fun c_1 => ?_) (fun c_1 => ?_)
      · refine lv_iconst (v := iI (1)) hx hb dX1_allKeysThere_39 rfl ?_
        exact z_pret1 X hK hP hD hS dX1_allKeysThere_40 (fun j h1 h2 => hr j h1 (by omega))
      · refine lv_aload_n hx hb dX1_allKeysThere_15 rfl (lv_at hl 1 rfl) ?_
        refine va_get (D := D) (ci := 1) (v := .ref (q 1)) (C := RX1) (T := TX1) (N := 5) hx hb hts n_X1 hown hK hP 9 rfl rfl 0 (by decide) f_24 (fun _ h9 => h9) rfl dX1_allKeysThere_16 ?_
        refine lv_aload_n hx hb dX1_allKeysThere_19 rfl (lv_at hl 1 rfl) ?_
        refine va_get (D := D) (ci := 1) (v := .ref (q 10)) (C := RX1) (T := TX1) (N := 5) hx hb hts n_X1 hown hK hP 9 rfl rfl 1 (by decide) f_9 (fun _ h9 => h9) rfl dX1_allKeysThere_20 ?_
        refine lv_iload_n hx hb dX1_allKeysThere_23 rfl (lv_at hl 0 rfl) ?_
        refine z_iald hx hb hK hP 10 0 rfl rfl (by omega) dX1_allKeysThere_24 ?_
        have b_2 := I.ka a
        refine z_callVi (ci := 0) (q0 := 1) (As := [.int (iI (ka a))]) (rest := []) X hK hP hD hA hS hl.1 gX1_allKeysThere_X0_has rfl ⟨rfl, rfl⟩ hd_X0_has ⟨Nat.le_of_ble_eq_true rfl, Nat.le_of_ble_eq_true rfl⟩ rfl rfl rfl (Nat.le_of_ble_eq_true rfl) ⟨Nat.zero_le _, Nat.zero_le _⟩ rfl dX1_allKeysThere_25 (c_X0_has I (ka a) (by omega)) (fun H locs hP hD hS => ?_)
        refine z_ifp_ne (tgt := 33) hx hb dX1_allKeysThere_28 (by decide) (fun c_3 => ?_) (fun c_3 => ?_)
        · refine lv_iinc (v := iI (a + 1)) (lv' := [(2, .int (iI (a + 1))), (0, .ref (q 9)), (1, .int (iI p9))]) hx hb dX1_allKeysThere_33 hl (k := 0) rfl (iI_add _ _) (by decide) rfl (fun ls hl => ?_)
          refine lv_goto (tgt := 6) hx hb dX1_allKeysThere_36 (by decide) ?_
          exact ih_6 (a + 1) (by omega) (by omega) (fun j h1 h2 => by rcases (show j < a ∨ j = a by omega) with g | g; exact hr j h1 g; subst g; omega) _ _ _ hP hD hS (lv_sub hl [0, 1, 2] rfl)
        · refine lv_iconst (v := iI (0)) hx hb dX1_allKeysThere_31 rfl ?_
          exact z_pret0 X hK hP hD hS dX1_allKeysThere_32 (fun z => by have := z a (by omega) (by omega); omega)
  exact L_6 41 (p9 * 40) (by omega) (by omega) (fun j _ _ => by omega) _ _ _ hP hD hS (lv_sub hl [0, 1, 2] rfl)
