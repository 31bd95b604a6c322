variable {l : Launch} {D : va_G} {cy : ClassId} {q : Nat → Nat} {nK sc pi re bk ss sm pf mf th lo : Int} {st le be te ab bl ka bg ln ns me pa lz go co bs gr : Int → Int}
theorem hd_X6_clash : yX6_clash.cls = RX6 ∧ yX6_clash.cls ≠ "java/lang/invoke/MethodHandle" ∧ yX6_clash.cls ≠ "java/lang/invoke/VarHandle" ∧ (parseMethodDescriptor yX6_clash.desc).map (fun d => d.parameters.length) = some 2 := by decide +kernel
set_option maxHeartbeats 4000000 in
set_option maxRecDepth 100000 in
theorem c_X6_clash (I : okS nK st le be te ab bl ka bg ln ns me sc pi re bk) (p9 : Int) (i9 : Int) (h : -2147483648 ≤ p9 ∧ p9 ≤ 2147483647 ∧ -2147483648 ≤ i9 ∧ i9 ≤ 2147483647) : MI l D cy yX6_clash wsX6_clash ({ frames := 2, cells := 0, slots := 0, locals := 45 } : Room) [.ref (q 0), .int (iI p9), .int (iI i9)] (wM q cy nK st le be te ab bl ka bg ln ns me sc pi re bk th co bs gr lo) (if 0 ≤ p9 ∧ p9 ≤ 3 then clI nK st ka bg ln (p9 * 40) (ns p9) i9 else (-100001)) (wM q cy nK st le be te ab bl ka bg ln ns me sc pi re bk 0 co bs gr lo) := by
  refine MI.ofW (cc := cX6_clash) (maxL := 6) (ret := (some .int)) (by decide) rfl (Nat.le_of_ble_eq_true rfl) ?_
  intro p e s m below meth c A ls X hK hP hD hA hS hl
  obtain ⟨hx, hb, hml, hr, hts, hown, hlocks⟩ := id X
  have hl : lv_has ls 6 [(0, .ref (q 0)), (1, .int (iI p9)), (2, .int (iI i9))] := hl
  have f_63 := hts (Cond.fieldLink RX6 63 "TwoKeysModel" "thrown" "I") (by decide +kernel)
  have f_35 := hts (Cond.fieldLink RX6 35 "TwoKeysModel" "notes" "[I") (by decide +kernel)
  have k_62 := hts (Cond.constant RX6 62 (-100009)) (by decide +kernel)
  have k_86 := hts (Cond.constant RX6 86 (-100001)) (by decide +kernel)
  have n_X6 : ∀ w ∈ u_ws RX6 TX6 21, w ∈ wsX6_clash := by decide +kernel
  have iK := I.nK
  refine lv_aload_n hx hb dX6_clash_0 rfl (lv_at hl 0 rfl) ?_
  refine lv_iconst (v := iI (0)) hx hb dX6_clash_1 rfl ?_
  refine va_put (D := D) (ci := 6) (v := .int (iI 0)) (ty := .int) (C := RX6) (T := TX6) (N := 21) hx hb hts n_X6 tyX6 tyX6_ok nmX6 hown hK hP hD hS 0 rfl rfl 0 (by decide) f_63 (fun _ h9 => h9) rfl (by decide +kernel) rfl rfl (Nat.le_of_ble_eq_true rfl) dX6_clash_2 (fun H locs hP hD hS => ?_)
  have hP : va_P D vwCl (wM q cy nK st le be te ab bl ka bg ln ns me sc pi re bk 0 co bs gr lo) H := hP
  have hD : va_D A (wM q cy nK st le be te ab bl ka bg ln ns me sc pi re bk 0 co bs gr lo) := hD
  refine lv_iload_n hx hb dX6_clash_5 rfl (lv_at hl 1 rfl) ?_
  refine z_callSi (As := [.int (iI p9)]) (rest := []) X hK hP hD hA hS hl.1 gX6_clash_X6_noPiece rfl ⟨rfl, rfl⟩ hd_X6_noPiece ⟨Nat.le_of_ble_eq_true rfl, Nat.le_of_ble_eq_true rfl⟩ rfl (Nat.le_of_ble_eq_true rfl) ⟨Nat.zero_le _, Nat.zero_le _⟩ rfl dX6_clash_6 (c_X6_noPiece p9 (by omega)) (fun H locs hP hD hS => ?_)
  refine z_ifp_eq (tgt := 15) hx hb dX6_clash_9 (by decide) (fun c_1 => ?_) (fun c_1 => ?_)
  · have i7 := I.ns p9
    refine lv_iconst (v := iI (0)) hx hb dX6_clash_15 rfl ?_
    refine lv_istore_n (lv' := [(3, .int (iI 0)), (0, .ref (q 0)), (1, .int (iI p9)), (2, .int (iI i9))]) hx hb dX6_clash_16 rfl hl (by decide) rfl (fun ls hl => ?_)
    refine lv_iconst (v := iI (0)) hx hb dX6_clash_17 rfl ?_
    refine lv_istore (lv' := [(4, .int (iI 0)), (3, .int (iI 0)), (0, .ref (q 0)), (1, .int (iI p9)), (2, .int (iI i9))]) hx hb dX6_clash_18 hl (by decide) rfl (fun ls hl => ?_)
    have L_20 : ∀ (n : Nat) (c9 : Int) (b : Int), (h0 : 0 ≤ b ∧ b ≤ ns p9) → (hf : ns p9 - b < n) → (hr : cqI (fun j => cqP nK st ka bg ln (p9 * 40) (ns p9) j) i9 (40 * b) c9) → (hc : 0 ≤ c9 ∧ c9 ≤ 40 * b) → ∀ (H : Heap) (locs : List Loc) (ls : Array Slot), va_P D vwCl (wM q cy nK st le be te ab bl ka bg ln ns me sc pi re bk 0 co bs gr lo) H → va_D A (wM q cy nK st le be te ab bl ka bg ln ns me sc pi re bk 0 co bs gr lo) → va_S A s.heap H locs → lv_has ls 6 [(4, .int (iI b)), (3, .int (iI c9)), (0, .ref (q 0)), (1, .int (iI p9)), (2, .int (iI i9))] → W p l e ({ frames := 2, cells := 0, slots := 0, locals := 45 } : Room) s m [.ref (q 0), .int (iI p9), .int (iI i9)].toArray below meth c H locs 0 0 (MQ below (zQi D cy (wM q cy nK st le be te ab bl ka bg ln ns me sc pi re bk 0 co bs gr lo) A (if 0 ≤ p9 ∧ p9 ≤ 3 then clI nK st ka bg ln (p9 * 40) (ns p9) i9 else (-100001))) [.ref (q 0), .int (iI p9), .int (iI i9)].toArray s 0 0 A) (F0 m 20 ls []) := by
      intro n
      induction n with
      | zero =>
        intro c9 b h0 hf hr hc
        exfalso; omega
      | succ n ih_20 =>
        intro c9 b h0 hf hr hc H locs ls hP hD hS hl
        refine lv_iload hx hb dX6_clash_20 (lv_at hl 0 rfl) ?_
        refine lv_aload_n hx hb dX6_clash_22 rfl (lv_at hl 2 rfl) ?_
        refine va_get (D := D) (ci := 6) (v := .ref (q 7)) (C := RX6) (T := TX6) (N := 21) hx hb hts n_X6 hown hK hP 0 rfl rfl 10 (by decide) f_35 (fun _ h9 => h9) rfl dX6_clash_23 ?_
        refine lv_iload_n hx hb dX6_clash_26 rfl (lv_at hl 3 rfl) ?_
        refine z_iald hx hb hK hP 7 0 rfl rfl (by omega) dX6_clash_27 ?_
        have b_2 := I.ns p9
        refine z_icmp_ge (tgt := 112) hx hb dX6_clash_28 (by decide) (by omega) (fun c_3 => ?_) (fun c_3 => ?_)
        · refine z_ldc (n := -100009) hx hb hown k_62 (by decide) dX6_clash_112 ?_
          exact z_iret X hK hP hD hS dX6_clash_114 (by rw [if_pos (by omega)]; unfold clI; exact cqI_end (cqI_skip hr (by omega) (by omega) (fun j h1 h2 => cq_hi (by omega))))
        · refine lv_iconst (v := iI (0)) hx hb dX6_clash_31 rfl ?_
          refine lv_istore (lv' := [(5, .int (iI 0)), (4, .int (iI b)), (3, .int (iI c9)), (0, .ref (q 0)), (1, .int (iI p9)), (2, .int (iI i9))]) hx hb dX6_clash_32 hl (by decide) rfl (fun ls hl => ?_)
          have L_34 : ∀ (n : Nat) (c9 : Int) (a : Int), (h3 : 0 ≤ a ∧ a ≤ b) → (hf2 : b - a < n) → (hr2 : cqI (fun j => cqP nK st ka bg ln (p9 * 40) (ns p9) j) i9 (40 * b + a) c9) → (hc2 : 0 ≤ c9 ∧ c9 ≤ 40 * b + a) → ∀ (H : Heap) (locs : List Loc) (ls : Array Slot), va_P D vwCl (wM q cy nK st le be te ab bl ka bg ln ns me sc pi re bk 0 co bs gr lo) H → va_D A (wM q cy nK st le be te ab bl ka bg ln ns me sc pi re bk 0 co bs gr lo) → va_S A s.heap H locs → lv_has ls 6 [(5, .int (iI a)), (4, .int (iI b)), (3, .int (iI c9)), (0, .ref (q 0)), (1, .int (iI p9)), (2, .int (iI i9))] → W p l e ({ frames := 2, cells := 0, slots := 0, locals := 45 } : Room) s m [.ref (q 0), .int (iI p9), .int (iI i9)].toArray below meth c H locs 0 0 (MQ below (zQi D cy (wM q cy nK st le be te ab bl ka bg ln ns me sc pi re bk 0 co bs gr lo) A (if 0 ≤ p9 ∧ p9 ≤ 3 then clI nK st ka bg ln (p9 * 40) (ns p9) i9 else (-100001))) [.ref (q 0), .int (iI p9), .int (iI i9)].toArray s 0 0 A) (F0 m 34 ls []) := by
            intro n
            induction n with
            | zero =>
              intro c9 a h3 hf2 hr2 hc2
              exfalso; omega
            | succ n ih_34 =>
              intro c9 a h3 hf2 hr2 hc2 H locs ls hP hD hS hl
              refine lv_iload hx hb dX6_clash_34 (lv_at hl 0 rfl) ?_
              refine lv_iload hx hb dX6_clash_36 (lv_at hl 1 rfl) ?_
              refine z_icmp_ge (tgt := 106) hx hb dX6_clash_38 (by decide) (by omega) (fun c_4 => ?_) (fun c_4 => ?_)
              · refine lv_iinc (v := iI (b + 1)) (lv' := [(4, .int (iI (b + 1))), (5, .int (iI a)), (3, .int (iI c9)), (0, .ref (q 0)), (1, .int (iI p9)), (2, .int (iI i9))]) hx hb dX6_clash_106 hl (k := 1) rfl (iI_add _ _) (by decide) rfl (fun ls hl => ?_)
                refine lv_goto (tgt := 20) hx hb dX6_clash_109 (by decide) ?_
                exact ih_20 c9 (b + 1) (by omega) (by omega) (cqI_skip hr2 (by omega) (by omega) (fun j h1 h2 => cq_row (b := b) (by omega) (by omega))) (by omega) _ _ _ hP hD hS (lv_sub hl [0, 2, 3, 4, 5] rfl)
              · have cqe : cqP nK st ka bg ln (p9 * 40) (ns p9) (40 * b + a) ↔ clP nK st ka bg ln (40 * p9 + a) (40 * p9 + b) := by have z := cq_at (nK := nK) (st := st) (ka := ka) (bg := bg) (ln := ln) (lo := p9 * 40) (n := ns p9) (a := a) (b := b) (by omega) (by omega) (by omega) (by omega); rw [show p9 * 40 + a = 40 * p9 + a by omega, show p9 * 40 + b = 40 * p9 + b by omega] at z; exact z
                refine lv_aload_n hx hb dX6_clash_41 rfl (lv_at hl 3 rfl) ?_
                refine lv_bipush (v := iI (40)) hx hb dX6_clash_42 (by decide) ?_
                refine lv_iload_n hx hb dX6_clash_44 rfl (lv_at hl 4 rfl) ?_
                refine z_imul hx hb dX6_clash_45 ?_
                refine lv_iload hx hb dX6_clash_46 (lv_at hl 0 rfl) ?_
                refine z_iadd hx hb dX6_clash_48 ?_
                refine lv_bipush (v := iI (40)) hx hb dX6_clash_49 (by decide) ?_
                refine lv_iload_n hx hb dX6_clash_51 rfl (lv_at hl 4 rfl) ?_
                refine z_imul hx hb dX6_clash_52 ?_
                refine lv_iload hx hb dX6_clash_53 (lv_at hl 1 rfl) ?_
                refine z_iadd hx hb dX6_clash_55 ?_
                refine z_callVi (ci := 6) (q0 := 0) (As := [.int (iI ((40 * p9) + a)), .int (iI ((40 * p9) + b))]) (rest := []) X hK hP hD hA hS hl.1 gX6_clash_X6_shares rfl ⟨rfl, rfl⟩ hd_X6_shares ⟨Nat.le_of_ble_eq_true rfl, Nat.le_of_ble_eq_true rfl⟩ rfl rfl rfl (Nat.le_of_ble_eq_true rfl) ⟨Nat.zero_le _, Nat.zero_le _⟩ rfl dX6_clash_56 (c_X6_shares I ((40 * p9) + a) ((40 * p9) + b) (by omega) (by omega)) (fun H locs hP hD hS => ?_)
                refine z_ifp_eq (tgt := 100) hx hb dX6_clash_59 (by decide) (fun c_5 => ?_) (fun c_5 => ?_)
                · refine lv_iinc (v := iI (a + 1)) (lv' := [(5, .int (iI (a + 1))), (4, .int (iI b)), (3, .int (iI c9)), (0, .ref (q 0)), (1, .int (iI p9)), (2, .int (iI i9))]) hx hb dX6_clash_100 hl (k := 0) rfl (iI_add _ _) (by decide) rfl (fun ls hl => ?_)
                  refine lv_goto (tgt := 34) hx hb dX6_clash_103 (by decide) ?_
                  exact ih_34 c9 (a + 1) (by omega) (by omega) (by rw [show 40 * b + (a + 1) = 40 * b + a + 1 by omega]; first | exact cqI_yes hr2 (by omega) (cqe.mpr ⟨by assumption, by assumption⟩) (by assumption) | exact cqI_no hr2 (by omega) (fun z => absurd (cqe.mp z).1 (by assumption)) | exact cqI_no hr2 (by omega) (fun z => absurd (cqe.mp z).2 (by assumption))) (by omega) _ _ _ hP hD hS (lv_sub hl [0, 1, 2, 3, 4, 5] rfl)
                · refine lv_aload_n hx hb dX6_clash_62 rfl (lv_at hl 3 rfl) ?_
                  refine lv_bipush (v := iI (40)) hx hb dX6_clash_63 (by decide) ?_
                  refine lv_iload_n hx hb dX6_clash_65 rfl (lv_at hl 4 rfl) ?_
                  refine z_imul hx hb dX6_clash_66 ?_
                  refine lv_iload hx hb dX6_clash_67 (lv_at hl 0 rfl) ?_
                  refine z_iadd hx hb dX6_clash_69 ?_
                  refine lv_bipush (v := iI (40)) hx hb dX6_clash_70 (by decide) ?_
                  refine lv_iload_n hx hb dX6_clash_72 rfl (lv_at hl 4 rfl) ?_
                  refine z_imul hx hb dX6_clash_73 ?_
                  refine lv_iload hx hb dX6_clash_74 (lv_at hl 1 rfl) ?_
                  refine z_iadd hx hb dX6_clash_76 ?_
                  refine z_callVi (ci := 6) (q0 := 0) (As := [.int (iI ((40 * p9) + a)), .int (iI ((40 * p9) + b))]) (rest := []) X hK hP hD hA hS hl.1 gX6_clash_X6_meet rfl ⟨rfl, rfl⟩ hd_X6_meet ⟨Nat.le_of_ble_eq_true rfl, Nat.le_of_ble_eq_true rfl⟩ rfl rfl rfl (Nat.le_of_ble_eq_true rfl) ⟨Nat.zero_le _, Nat.zero_le _⟩ rfl dX6_clash_77 (c_X6_meet I ((40 * p9) + a) ((40 * p9) + b) (by omega) (by omega)) (fun H locs hP hD hS => ?_)
                  refine z_ifp_eq (tgt := 100) hx hb dX6_clash_80 (by decide) (fun c_6 => ?_) (fun c_6 => ?_)
                  · refine lv_iinc (v := iI (a + 1)) (lv' := [(5, .int (iI (a + 1))), (4, .int (iI b)), (3, .int (iI c9)), (0, .ref (q 0)), (1, .int (iI p9)), (2, .int (iI i9))]) hx hb dX6_clash_100 hl (k := 0) rfl (iI_add _ _) (by decide) rfl (fun ls hl => ?_)
                    refine lv_goto (tgt := 34) hx hb dX6_clash_103 (by decide) ?_
                    exact ih_34 c9 (a + 1) (by omega) (by omega) (by rw [show 40 * b + (a + 1) = 40 * b + a + 1 by omega]; first | exact cqI_yes hr2 (by omega) (cqe.mpr ⟨by assumption, by assumption⟩) (by assumption) | exact cqI_no hr2 (by omega) (fun z => absurd (cqe.mp z).1 (by assumption)) | exact cqI_no hr2 (by omega) (fun z => absurd (cqe.mp z).2 (by assumption))) (by omega) _ _ _ hP hD hS (lv_sub hl [0, 1, 2, 3, 4, 5] rfl)
                  · refine lv_iload_n hx hb dX6_clash_83 rfl (lv_at hl 2 rfl) ?_
                    refine lv_iload_n hx hb dX6_clash_84 rfl (lv_at hl 5 rfl) ?_
                    refine z_icmp_ne (tgt := 97) hx hb dX6_clash_85 (by decide) (by omega) (fun c_7 => ?_) (fun c_7 => ?_)
                    · refine lv_iinc (v := iI (c9 + 1)) (lv' := [(3, .int (iI (c9 + 1))), (5, .int (iI a)), (4, .int (iI b)), (0, .ref (q 0)), (1, .int (iI p9)), (2, .int (iI i9))]) hx hb dX6_clash_97 hl (k := 2) rfl (iI_add _ _) (by decide) rfl (fun ls hl => ?_)
                      refine lv_iinc (v := iI (a + 1)) (lv' := [(5, .int (iI (a + 1))), (3, .int (iI (c9 + 1))), (4, .int (iI b)), (0, .ref (q 0)), (1, .int (iI p9)), (2, .int (iI i9))]) hx hb dX6_clash_100 hl (k := 1) rfl (iI_add _ _) (by decide) rfl (fun ls hl => ?_)
                      refine lv_goto (tgt := 34) hx hb dX6_clash_103 (by decide) ?_
                      exact ih_34 (c9 + 1) (a + 1) (by omega) (by omega) (by rw [show 40 * b + (a + 1) = 40 * b + a + 1 by omega]; first | exact cqI_yes hr2 (by omega) (cqe.mpr ⟨by assumption, by assumption⟩) (by assumption) | exact cqI_no hr2 (by omega) (fun z => absurd (cqe.mp z).1 (by assumption)) | exact cqI_no hr2 (by omega) (fun z => absurd (cqe.mp z).2 (by assumption))) (by omega) _ _ _ hP hD hS (lv_sub hl [0, 2, 1, 3, 4, 5] rfl)
                    · refine lv_bipush (v := iI (40)) hx hb dX6_clash_88 (by decide) ?_
                      refine lv_iload hx hb dX6_clash_90 (lv_at hl 0 rfl) ?_
                      refine z_imul hx hb dX6_clash_92 ?_
                      refine lv_iload hx hb dX6_clash_93 (lv_at hl 1 rfl) ?_
                      refine z_iadd hx hb dX6_clash_95 ?_
                      exact z_iret X hK hP hD hS dX6_clash_96 (by rw [if_pos (by omega)]; unfold clI; rw [← cqI_at (res := fun j => 40 * (j % 40) + j / 40) hr2 (by omega) (by omega) (cqe.mpr ⟨by assumption, by assumption⟩) (by assumption)]; show _ = 40 * ((40 * b + a) % 40) + (40 * b + a) / 40; rw [show (40 * b + a) % 40 = a by omega, show (40 * b + a) / 40 = b by omega])
          exact L_34 41 c9 0 (by omega) (by omega) (by rw [Int.add_zero]; exact hr) (by omega) _ _ _ hP hD hS (lv_sub hl [0, 1, 2, 3, 4, 5] rfl)
    exact L_20 41 0 0 (by omega) (by omega) cqI_0 (by omega) _ _ _ hP hD hS (lv_sub hl [0, 1, 2, 3, 4] rfl)
  · refine z_ldc (n := -100001) hx hb hown k_86 (by decide) dX6_clash_12 ?_
    exact z_iret X hK hP hD hS dX6_clash_14 (by (repeat' split) <;> first | rfl | omega)

theorem hd_X6_chokes : yX6_chokes.cls = RX6 ∧ yX6_chokes.cls ≠ "java/lang/invoke/MethodHandle" ∧ yX6_chokes.cls ≠ "java/lang/invoke/VarHandle" ∧ (parseMethodDescriptor yX6_chokes.desc).map (fun d => d.parameters.length) = some 1 := by decide +kernel
set_option maxHeartbeats 4000000 in
set_option maxRecDepth 100000 in
theorem c_X6_chokes (I : okS nK st le be te ab bl ka bg ln ns me sc pi re bk) (p9 : Int) (h : -2147483648 ≤ p9 ∧ p9 ≤ 2147483647) : MI l D cy yX6_chokes wsX6_chokes ({ frames := 2, cells := 0, slots := 0, locals := 45 } : Room) [.ref (q 0), .int (iI p9)] (wM q cy nK st le be te ab bl ka bg ln ns me sc pi re bk th co bs gr lo) (if 0 ≤ p9 ∧ p9 ≤ 3 then ckN nK st ka bg ln re (p9 * 40) (p9 * 40 + ns p9) else (-100001)) (wM q cy nK st le be te ab bl ka bg ln ns me sc pi re bk 0 co bs gr lo) := by
  refine MI.ofW (cc := cX6_chokes) (maxL := 6) (ret := (some .int)) (by decide) rfl (Nat.le_of_ble_eq_true rfl) ?_
  intro p e s m below meth c A ls X hK hP hD hA hS hl
  obtain ⟨hx, hb, hml, hr, hts, hown, hlocks⟩ := id X
  have hl : lv_has ls 6 [(0, .ref (q 0)), (1, .int (iI p9))] := hl
  have f_63 := hts (Cond.fieldLink RX6 63 "TwoKeysModel" "thrown" "I") (by decide +kernel)
  have f_35 := hts (Cond.fieldLink RX6 35 "TwoKeysModel" "notes" "[I") (by decide +kernel)
  have f_41 := hts (Cond.fieldLink RX6 41 "TwoKeysModel" "begin" "[I") (by decide +kernel)
  have f_44 := hts (Cond.fieldLink RX6 44 "TwoKeysModel" "lasts" "[I") (by decide +kernel)
  have f_47 := hts (Cond.fieldLink RX6 47 "TwoKeysModel" "rest" "I") (by decide +kernel)
  have k_86 := hts (Cond.constant RX6 86 (-100001)) (by decide +kernel)
  have n_X6 : ∀ w ∈ u_ws RX6 TX6 21, w ∈ wsX6_chokes := by decide +kernel
  have iK := I.nK
  have i5 := I.re
  refine lv_aload_n hx hb dX6_chokes_0 rfl (lv_at hl 0 rfl) ?_
  refine lv_iconst (v := iI (0)) hx hb dX6_chokes_1 rfl ?_
  refine va_put (D := D) (ci := 6) (v := .int (iI 0)) (ty := .int) (C := RX6) (T := TX6) (N := 21) hx hb hts n_X6 tyX6 tyX6_ok nmX6 hown hK hP hD hS 0 rfl rfl 0 (by decide) f_63 (fun _ h9 => h9) rfl (by decide +kernel) rfl rfl (Nat.le_of_ble_eq_true rfl) dX6_chokes_2 (fun H locs hP hD hS => ?_)
  have hP : va_P D vwCl (wM q cy nK st le be te ab bl ka bg ln ns me sc pi re bk 0 co bs gr lo) H := hP
  have hD : va_D A (wM q cy nK st le be te ab bl ka bg ln ns me sc pi re bk 0 co bs gr lo) := hD
  refine lv_iload_n hx hb dX6_chokes_5 rfl (lv_at hl 1 rfl) ?_
  refine z_callSi (As := [.int (iI p9)]) (rest := []) X hK hP hD hA hS hl.1 gX6_chokes_X6_noPiece rfl ⟨rfl, rfl⟩ hd_X6_noPiece ⟨Nat.le_of_ble_eq_true rfl, Nat.le_of_ble_eq_true rfl⟩ rfl (Nat.le_of_ble_eq_true rfl) ⟨Nat.zero_le _, Nat.zero_le _⟩ rfl dX6_chokes_6 (c_X6_noPiece p9 (by omega)) (fun H locs hP hD hS => ?_)
  refine z_ifp_eq (tgt := 15) hx hb dX6_chokes_9 (by decide) (fun c_1 => ?_) (fun c_1 => ?_)
  · have i7 := I.ns p9
    refine lv_iconst (v := iI (0)) hx hb dX6_chokes_15 rfl ?_
    refine lv_istore_n (lv' := [(2, .int (iI 0)), (0, .ref (q 0)), (1, .int (iI p9))]) hx hb dX6_chokes_16 rfl hl (by decide) rfl (fun ls hl => ?_)
    refine lv_bipush (v := iI (40)) hx hb dX6_chokes_17 (by decide) ?_
    refine lv_iload_n hx hb dX6_chokes_19 rfl (lv_at hl 2 rfl) ?_
    refine z_imul hx hb dX6_chokes_20 ?_
    refine lv_istore_n (lv' := [(3, .int (iI (40 * p9))), (2, .int (iI 0)), (0, .ref (q 0)), (1, .int (iI p9))]) hx hb dX6_chokes_21 rfl hl (by decide) rfl (fun ls hl => ?_)
    have L_22 : ∀ (n : Nat) (acc : Int) (a : Int), (h0 : 40 * p9 ≤ a ∧ a ≤ (40 * p9 + ns p9)) → (hf : (40 * p9 + ns p9) - a < n) → (hr : acc = sZ (fun a => sZ (fun b => bP (ckP nK st ka bg ln re a b)) (40 * p9) (40 * p9 + ns p9)) (40 * p9) a) → ∀ (H : Heap) (locs : List Loc) (ls : Array Slot), va_P D vwCl (wM q cy nK st le be te ab bl ka bg ln ns me sc pi re bk 0 co bs gr lo) H → va_D A (wM q cy nK st le be te ab bl ka bg ln ns me sc pi re bk 0 co bs gr lo) → va_S A s.heap H locs → lv_has ls 6 [(3, .int (iI a)), (2, .int (iI acc)), (0, .ref (q 0)), (1, .int (iI p9))] → W p l e ({ frames := 2, cells := 0, slots := 0, locals := 45 } : Room) s m [.ref (q 0), .int (iI p9)].toArray below meth c H locs 0 0 (MQ below (zQi D cy (wM q cy nK st le be te ab bl ka bg ln ns me sc pi re bk 0 co bs gr lo) A (if 0 ≤ p9 ∧ p9 ≤ 3 then ckN nK st ka bg ln re (p9 * 40) (p9 * 40 + ns p9) else (-100001))) [.ref (q 0), .int (iI p9)].toArray s 0 0 A) (F0 m 22 ls []) := by
      intro n
      induction n with
      | zero =>
        intro acc a h0 hf hr
        exfalso; omega
      | succ n ih_22 =>
        intro acc a h0 hf hr H locs ls hP hD hS hl
        refine lv_iload_n hx hb dX6_chokes_22 rfl (lv_at hl 0 rfl) ?_
        refine lv_bipush (v := iI (40)) hx hb dX6_chokes_23 (by decide) ?_
        refine lv_iload_n hx hb dX6_chokes_25 rfl (lv_at hl 3 rfl) ?_
        refine z_imul hx hb dX6_chokes_26 ?_
        refine lv_aload_n hx hb dX6_chokes_27 rfl (lv_at hl 2 rfl) ?_
        refine va_get (D := D) (ci := 6) (v := .ref (q 7)) (C := RX6) (T := TX6) (N := 21) hx hb hts n_X6 hown hK hP 0 rfl rfl 10 (by decide) f_35 (fun _ h9 => h9) rfl dX6_chokes_28 ?_
        refine lv_iload_n hx hb dX6_chokes_31 rfl (lv_at hl 3 rfl) ?_
        refine z_iald hx hb hK hP 7 0 rfl rfl (by omega) dX6_chokes_32 ?_
        have b_2 := I.ns p9
        refine z_iadd hx hb dX6_chokes_33 ?_
        refine z_icmp_ge (tgt := 129) hx hb dX6_chokes_34 (by decide) (by omega) (fun c_3 => ?_) (fun c_3 => ?_)
        · refine lv_iload_n hx hb dX6_chokes_129 rfl (lv_at hl 1 rfl) ?_
          exact z_iret X hK hP hD hS dX6_chokes_130 (by rw [if_pos (by omega), Int.mul_comm p9 40, ← ck_all (fun x y g1 g2 g3 => by have z := I.so p9 (y - 40 * p9) (x - 40 * p9) (by omega) (by omega) (by omega) (by omega) (by omega); rw [show 40 * p9 + (y - 40 * p9) = y by omega, show 40 * p9 + (x - 40 * p9) = x by omega] at z; exact z) (fun x g1 g2 => by have z := I.l1 p9 (x - 40 * p9) (by omega) (by omega) (by omega) (by omega); rw [show 40 * p9 + (x - 40 * p9) = x by omega] at z; exact z), hr, show a = (40 * p9 + ns p9) by omega])
        · refine lv_bipush (v := iI (40)) hx hb dX6_chokes_37 (by decide) ?_
          refine lv_iload_n hx hb dX6_chokes_39 rfl (lv_at hl 3 rfl) ?_
          refine z_imul hx hb dX6_chokes_40 ?_
          refine lv_istore (lv' := [(4, .int (iI (40 * p9))), (3, .int (iI a)), (2, .int (iI acc)), (0, .ref (q 0)), (1, .int (iI p9))]) hx hb dX6_chokes_41 hl (by decide) rfl (fun ls hl => ?_)
          have L_43 : ∀ (n : Nat) (acc2 : Int) (b : Int), (h3 : 40 * p9 ≤ b ∧ b ≤ (40 * p9 + ns p9)) → (hf2 : (40 * p9 + ns p9) - b < n) → (hr2 : acc2 = sZ (fun a => sZ (fun b => bP (ckP nK st ka bg ln re a b)) (40 * p9) (40 * p9 + ns p9)) (40 * p9) a + sZ (fun b => bP (ckP nK st ka bg ln re a b)) (40 * p9) b) → ∀ (H : Heap) (locs : List Loc) (ls : Array Slot), va_P D vwCl (wM q cy nK st le be te ab bl ka bg ln ns me sc pi re bk 0 co bs gr lo) H → va_D A (wM q cy nK st le be te ab bl ka bg ln ns me sc pi re bk 0 co bs gr lo) → va_S A s.heap H locs → lv_has ls 6 [(4, .int (iI b)), (3, .int (iI a)), (2, .int (iI acc2)), (0, .ref (q 0)), (1, .int (iI p9))] → W p l e ({ frames := 2, cells := 0, slots := 0, locals := 45 } : Room) s m [.ref (q 0), .int (iI p9)].toArray below meth c H locs 0 0 (MQ below (zQi D cy (wM q cy nK st le be te ab bl ka bg ln ns me sc pi re bk 0 co bs gr lo) A (if 0 ≤ p9 ∧ p9 ≤ 3 then ckN nK st ka bg ln re (p9 * 40) (p9 * 40 + ns p9) else (-100001))) [.ref (q 0), .int (iI p9)].toArray s 0 0 A) (F0 m 43 ls []) := by
            intro n
            induction n with
            | zero =>
              intro acc2 b h3 hf2 hr2
              exfalso; omega
            | succ n ih_43 =>
              intro acc2 b h3 hf2 hr2 H locs ls hP hD hS hl
              refine lv_iload hx hb dX6_chokes_43 (lv_at hl 0 rfl) ?_
              refine lv_bipush (v := iI (40)) hx hb dX6_chokes_45 (by decide) ?_
              refine lv_iload_n hx hb dX6_chokes_47 rfl (lv_at hl 4 rfl) ?_
              refine z_imul hx hb dX6_chokes_48 ?_
              refine lv_aload_n hx hb dX6_chokes_49 rfl (lv_at hl 3 rfl) ?_
              refine va_get (D := D) (ci := 6) (v := .ref (q 7)) (C := RX6) (T := TX6) (N := 21) hx hb hts n_X6 hown hK hP 0 rfl rfl 10 (by decide) f_35 (fun _ h9 => h9) rfl dX6_chokes_50 ?_
              refine lv_iload_n hx hb dX6_chokes_53 rfl (lv_at hl 4 rfl) ?_
              refine z_iald hx hb hK hP 7 0 rfl rfl (by omega) dX6_chokes_54 ?_
              have b_4 := I.ns p9
              refine z_iadd hx hb dX6_chokes_55 ?_
              refine z_icmp_ge (tgt := 123) hx hb dX6_chokes_56 (by decide) (by omega) (fun c_5 => ?_) (fun c_5 => ?_)
              · refine lv_iinc (v := iI (a + 1)) (lv' := [(3, .int (iI (a + 1))), (4, .int (iI b)), (2, .int (iI acc2)), (0, .ref (q 0)), (1, .int (iI p9))]) hx hb dX6_chokes_123 hl (k := 1) rfl (iI_add _ _) (by decide) rfl (fun ls hl => ?_)
                refine lv_goto (tgt := 22) hx hb dX6_chokes_126 (by decide) ?_
                exact ih_22 acc2 (a + 1) (by omega) (by omega) (by rw [sZ_step (by omega), hr2, show b = (40 * p9 + ns p9) by omega]) _ _ _ hP hD hS (lv_sub hl [0, 2, 3, 4] rfl)
              · refine lv_aload_n hx hb dX6_chokes_59 rfl (lv_at hl 3 rfl) ?_
                refine va_get (D := D) (ci := 6) (v := .ref (q 9)) (C := RX6) (T := TX6) (N := 21) hx hb hts n_X6 hown hK hP 0 rfl rfl 12 (by decide) f_41 (fun _ h9 => h9) rfl dX6_chokes_60 ?_
                refine lv_iload hx hb dX6_chokes_63 (lv_at hl 0 rfl) ?_
                refine z_iald hx hb hK hP 9 0 rfl rfl (by omega) dX6_chokes_65 ?_
                have b_6 := I.bg b
                refine lv_aload_n hx hb dX6_chokes_66 rfl (lv_at hl 3 rfl) ?_
                refine va_get (D := D) (ci := 6) (v := .ref (q 9)) (C := RX6) (T := TX6) (N := 21) hx hb hts n_X6 hown hK hP 0 rfl rfl 12 (by decide) f_41 (fun _ h9 => h9) rfl dX6_chokes_67 ?_
                refine lv_iload_n hx hb dX6_chokes_70 rfl (lv_at hl 1 rfl) ?_
                refine z_iald hx hb hK hP 9 0 rfl rfl (by omega) dX6_chokes_71 ?_
                have b_7 := I.bg a
                refine z_isub hx hb dX6_chokes_72 ?_
                refine lv_aload_n hx hb dX6_chokes_73 rfl (lv_at hl 3 rfl) ?_
                refine va_get (D := D) (ci := 6) (v := .ref (q 10)) (C := RX6) (T := TX6) (N := 21) hx hb hts n_X6 hown hK hP 0 rfl rfl 13 (by decide) f_44 (fun _ h9 => h9) rfl dX6_chokes_74 ?_
                refine lv_iload_n hx hb dX6_chokes_77 rfl (lv_at hl 1 rfl) ?_
                refine z_iald hx hb hK hP 10 0 rfl rfl (by omega) dX6_chokes_78 ?_
                have b_8 := I.ln a
                refine z_isub hx hb dX6_chokes_79 ?_
                refine lv_istore (lv' := [(5, .int (iI (((bg b) - (bg a)) - (ln a)))), (4, .int (iI b)), (3, .int (iI a)), (2, .int (iI acc2)), (0, .ref (q 0)), (1, .int (iI p9))]) hx hb dX6_chokes_80 hl (by decide) rfl (fun ls hl => ?_)
                refine lv_iload_n hx hb dX6_chokes_82 rfl (lv_at hl 3 rfl) ?_
                refine lv_aload_n hx hb dX6_chokes_83 rfl (lv_at hl 4 rfl) ?_
                refine lv_iload_n hx hb dX6_chokes_84 rfl (lv_at hl 2 rfl) ?_
                refine lv_iload hx hb dX6_chokes_85 (lv_at hl 1 rfl) ?_
                refine z_callVi (ci := 6) (q0 := 0) (As := [.int (iI a), .int (iI b)]) (rest := [.int (iI acc2)]) X hK hP hD hA hS hl.1 gX6_chokes_X6_shares rfl ⟨rfl, rfl⟩ hd_X6_shares ⟨Nat.le_of_ble_eq_true rfl, Nat.le_of_ble_eq_true rfl⟩ rfl rfl rfl (Nat.le_of_ble_eq_true rfl) ⟨Nat.zero_le _, Nat.zero_le _⟩ rfl dX6_chokes_87 (c_X6_shares I a b (by omega) (by omega)) (fun H locs hP hD hS => ?_)
                refine z_ifp_eq (tgt := 114) hx hb dX6_chokes_90 (by decide) (fun c_9 => ?_) (fun c_9 => ?_)
                · refine lv_iconst (v := iI (0)) hx hb dX6_chokes_114 rfl ?_
                  refine z_iadd hx hb dX6_chokes_115 ?_
                  refine lv_istore_n (lv' := [(2, .int (iI (acc2 + 0))), (5, .int (iI (((bg b) - (bg a)) - (ln a)))), (4, .int (iI b)), (3, .int (iI a)), (0, .ref (q 0)), (1, .int (iI p9))]) hx hb dX6_chokes_116 rfl hl (by decide) rfl (fun ls hl => ?_)
                  refine lv_iinc (v := iI (b + 1)) (lv' := [(4, .int (iI (b + 1))), (2, .int (iI (acc2 + 0))), (5, .int (iI (((bg b) - (bg a)) - (ln a)))), (3, .int (iI a)), (0, .ref (q 0)), (1, .int (iI p9))]) hx hb dX6_chokes_117 hl (k := 2) rfl (iI_add _ _) (by decide) rfl (fun ls hl => ?_)
                  refine lv_goto (tgt := 43) hx hb dX6_chokes_120 (by decide) ?_
                  exact ih_43 (acc2 + 0) (b + 1) (by omega) (by omega) (by rw [sZ_step (f := fun b => bP (ckP nK st ka bg ln re a b)) (by omega)]; (try dsimp only); first | (rw [bP_1 ⟨by assumption, by omega, by omega⟩]; omega) | (rw [bP_0 (fun z => absurd z.1 (by assumption))]; omega) | (rw [bP_0 (fun z => by have z1 := z.2.1; have z2 := z.2.2; omega)]; omega)) _ _ _ hP hD hS (lv_sub hl [0, 3, 1, 4, 5] rfl)
                · refine lv_iload hx hb dX6_chokes_93 (lv_at hl 0 rfl) ?_
                  refine z_i2l hx hb dX6_chokes_95 (by omega) ?_
                  refine lv_lconst (v := lI (0)) hx hb dX6_chokes_96 (by decide) ?_
                  refine lv_aload_n hx hb dX6_chokes_97 rfl (lv_at hl 4 rfl) ?_
                  refine va_get (D := D) (ci := 6) (v := .int (iI re)) (C := RX6) (T := TX6) (N := 21) hx hb hts n_X6 hown hK hP 0 rfl rfl 14 (by decide) f_47 (fun _ h9 => h9) rfl dX6_chokes_98 ?_
                  refine lv_iconst (v := iI (1)) hx hb dX6_chokes_101 rfl ?_
                  refine z_isub hx hb dX6_chokes_102 ?_
                  refine z_i2l hx hb dX6_chokes_103 (by omega) ?_
                  refine z_callSi (As := [.long (lI (((bg b) - (bg a)) - (ln a))), .long (lI 0), .long (lI (re - 1))]) (rest := [.int (iI acc2)]) X hK hP hD hA hS hl.1 gX6_chokes_X6_in rfl ⟨rfl, rfl⟩ hd_X6_in ⟨Nat.le_of_ble_eq_true rfl, Nat.le_of_ble_eq_true rfl⟩ rfl (Nat.le_of_ble_eq_true rfl) ⟨Nat.zero_le _, Nat.zero_le _⟩ rfl dX6_chokes_104 (c_X6_in (((bg b) - (bg a)) - (ln a)) 0 (re - 1) (by omega)) (fun H locs hP hD hS => ?_)
                  refine z_ifp_eq (tgt := 114) hx hb dX6_chokes_107 (by decide) (fun c_10 => ?_) (fun c_10 => ?_)
                  · refine lv_iconst (v := iI (0)) hx hb dX6_chokes_114 rfl ?_
                    refine z_iadd hx hb dX6_chokes_115 ?_
                    refine lv_istore_n (lv' := [(2, .int (iI (acc2 + 0))), (5, .int (iI (((bg b) - (bg a)) - (ln a)))), (4, .int (iI b)), (3, .int (iI a)), (0, .ref (q 0)), (1, .int (iI p9))]) hx hb dX6_chokes_116 rfl hl (by decide) rfl (fun ls hl => ?_)
                    refine lv_iinc (v := iI (b + 1)) (lv' := [(4, .int (iI (b + 1))), (2, .int (iI (acc2 + 0))), (5, .int (iI (((bg b) - (bg a)) - (ln a)))), (3, .int (iI a)), (0, .ref (q 0)), (1, .int (iI p9))]) hx hb dX6_chokes_117 hl (k := 2) rfl (iI_add _ _) (by decide) rfl (fun ls hl => ?_)
                    refine lv_goto (tgt := 43) hx hb dX6_chokes_120 (by decide) ?_
                    exact ih_43 (acc2 + 0) (b + 1) (by omega) (by omega) (by rw [sZ_step (f := fun b => bP (ckP nK st ka bg ln re a b)) (by omega)]; (try dsimp only); first | (rw [bP_1 ⟨by assumption, by omega, by omega⟩]; omega) | (rw [bP_0 (fun z => absurd z.1 (by assumption))]; omega) | (rw [bP_0 (fun z => by have z1 := z.2.1; have z2 := z.2.2; omega)]; omega)) _ _ _ hP hD hS (lv_sub hl [0, 3, 1, 4, 5] rfl)
                  · refine lv_iconst (v := iI (1)) hx hb dX6_chokes_110 rfl ?_
                    refine lv_goto (tgt := 115) hx hb dX6_chokes_111 (by decide) ?_
                    refine z_iadd hx hb dX6_chokes_115 ?_
                    refine lv_istore_n (lv' := [(2, .int (iI (acc2 + 1))), (5, .int (iI (((bg b) - (bg a)) - (ln a)))), (4, .int (iI b)), (3, .int (iI a)), (0, .ref (q 0)), (1, .int (iI p9))]) hx hb dX6_chokes_116 rfl hl (by decide) rfl (fun ls hl => ?_)
                    refine lv_iinc (v := iI (b + 1)) (lv' := [(4, .int (iI (b + 1))), (2, .int (iI (acc2 + 1))), (5, .int (iI (((bg b) - (bg a)) - (ln a)))), (3, .int (iI a)), (0, .ref (q 0)), (1, .int (iI p9))]) hx hb dX6_chokes_117 hl (k := 2) rfl (iI_add _ _) (by decide) rfl (fun ls hl => ?_)
                    refine lv_goto (tgt := 43) hx hb dX6_chokes_120 (by decide) ?_
                    exact ih_43 (acc2 + 1) (b + 1) (by omega) (by omega) (by rw [sZ_step (f := fun b => bP (ckP nK st ka bg ln re a b)) (by omega)]; (try dsimp only); first | (rw [bP_1 ⟨by assumption, by omega, by omega⟩]; omega) | (rw [bP_0 (fun z => absurd z.1 (by assumption))]; omega) | (rw [bP_0 (fun z => by have z1 := z.2.1; have z2 := z.2.2; omega)]; omega)) _ _ _ hP hD hS (lv_sub hl [0, 3, 1, 4, 5] rfl)
          exact L_43 41 acc (40 * p9) (by omega) (by omega) (by rw [sZ_nil (f := fun b => bP (ckP nK st ka bg ln re a b)) (by omega), ← hr, Int.add_zero]) _ _ _ hP hD hS (lv_sub hl [0, 1, 2, 3, 4] rfl)
    exact L_22 41 0 (40 * p9) (by omega) (by omega) ((sZ_nil (by omega)).symm) _ _ _ hP hD hS (lv_sub hl [0, 1, 2, 3] rfl)
  · refine z_ldc (n := -100001) hx hb hown k_86 (by decide) dX6_chokes_12 ?_
    exact z_iret X hK hP hD hS dX6_chokes_14 (by (repeat' split) <;> first | rfl | omega)

theorem hd_X6_trills : yX6_trills.cls = RX6 ∧ yX6_trills.cls ≠ "java/lang/invoke/MethodHandle" ∧ yX6_trills.cls ≠ "java/lang/invoke/VarHandle" ∧ (parseMethodDescriptor yX6_trills.desc).map (fun d => d.parameters.length) = some 2 := by decide +kernel
set_option maxHeartbeats 4000000 in
set_option maxRecDepth 100000 in
theorem c_X6_trills (I : okS nK st le be te ab bl ka bg ln ns me sc pi re bk) (p9 : Int) (bad : Bool) (h : -2147483648 ≤ p9 ∧ p9 ≤ 2147483647) : MI l D cy yX6_trills wsX6_trills ({ frames := 2, cells := 0, slots := 0, locals := 45 } : Room) [.ref (q 0), .int (iI p9), .int (iI (bZ bad))] (wM q cy nK st le be te ab bl ka bg ln ns me sc pi re bk th co bs gr lo) (if 0 ≤ p9 ∧ p9 ≤ 3 then trF nK st ka bg ln bad (p9 * 40) (p9 * 40 + ns p9) else (-100001)) (wM q cy nK st le be te ab bl ka bg ln ns me sc pi re bk 0 co bs gr lo) := by
  refine MI.ofW (cc := cX6_trills) (maxL := 9) (ret := (some .int)) (by decide) rfl (Nat.le_of_ble_eq_true rfl) ?_
  intro p e s m below meth c A ls X hK hP hD hA hS hl
  obtain ⟨hx, hb, hml, hr, hts, hown, hlocks⟩ := id X
  have hl : lv_has ls 9 [(0, .ref (q 0)), (1, .int (iI p9)), (2, .int (iI (bZ bad)))] := hl
  have f_63 := hts (Cond.fieldLink RX6 63 "TwoKeysModel" "thrown" "I") (by decide +kernel)
  have f_35 := hts (Cond.fieldLink RX6 35 "TwoKeysModel" "notes" "[I") (by decide +kernel)
  have f_41 := hts (Cond.fieldLink RX6 41 "TwoKeysModel" "begin" "[I") (by decide +kernel)
  have f_44 := hts (Cond.fieldLink RX6 44 "TwoKeysModel" "lasts" "[I") (by decide +kernel)
  have f_38 := hts (Cond.fieldLink RX6 38 "TwoKeysModel" "noteKey" "[I") (by decide +kernel)
  have k_86 := hts (Cond.constant RX6 86 (-100001)) (by decide +kernel)
  have n_X6 : ∀ w ∈ u_ws RX6 TX6 21, w ∈ wsX6_trills := by decide +kernel
  have iK := I.nK
  refine lv_aload_n hx hb dX6_trills_0 rfl (lv_at hl 0 rfl) ?_
  refine lv_iconst (v := iI (0)) hx hb dX6_trills_1 rfl ?_
  refine va_put (D := D) (ci := 6) (v := .int (iI 0)) (ty := .int) (C := RX6) (T := TX6) (N := 21) hx hb hts n_X6 tyX6 tyX6_ok nmX6 hown hK hP hD hS 0 rfl rfl 0 (by decide) f_63 (fun _ h9 => h9) rfl (by decide +kernel) rfl rfl (Nat.le_of_ble_eq_true rfl) dX6_trills_2 (fun H locs hP hD hS => ?_)
  have hP : va_P D vwCl (wM q cy nK st le be te ab bl ka bg ln ns me sc pi re bk 0 co bs gr lo) H := hP
  have hD : va_D A (wM q cy nK st le be te ab bl ka bg ln ns me sc pi re bk 0 co bs gr lo) := hD
  refine lv_iload_n hx hb dX6_trills_5 rfl (lv_at hl 1 rfl) ?_
  refine z_callSi (As := [.int (iI p9)]) (rest := []) X hK hP hD hA hS hl.1 gX6_trills_X6_noPiece rfl ⟨rfl, rfl⟩ hd_X6_noPiece ⟨Nat.le_of_ble_eq_true rfl, Nat.le_of_ble_eq_true rfl⟩ rfl (Nat.le_of_ble_eq_true rfl) ⟨Nat.zero_le _, Nat.zero_le _⟩ rfl dX6_trills_6 (c_X6_noPiece p9 (by omega)) (fun H locs hP hD hS => ?_)
  refine z_ifp_eq (tgt := 15) hx hb dX6_trills_9 (by decide) (fun c_1 => ?_) (fun c_1 => ?_)
  · have i7 := I.ns p9
    refine lv_iconst (v := iI (0)) hx hb dX6_trills_15 rfl ?_
    refine lv_istore_n (lv' := [(3, .int (iI 0)), (0, .ref (q 0)), (1, .int (iI p9)), (2, .int (iI (bZ bad)))]) hx hb dX6_trills_16 rfl hl (by decide) rfl (fun ls hl => ?_)
    refine lv_bipush (v := iI (40)) hx hb dX6_trills_17 (by decide) ?_
    refine lv_iload_n hx hb dX6_trills_19 rfl (lv_at hl 2 rfl) ?_
    refine z_imul hx hb dX6_trills_20 ?_
    refine lv_istore (lv' := [(4, .int (iI (40 * p9))), (3, .int (iI 0)), (0, .ref (q 0)), (1, .int (iI p9)), (2, .int (iI (bZ bad)))]) hx hb dX6_trills_21 hl (by decide) rfl (fun ls hl => ?_)
    refine lv_bipush (v := iI (40)) hx hb dX6_trills_23 (by decide) ?_
    refine lv_iload_n hx hb dX6_trills_25 rfl (lv_at hl 3 rfl) ?_
    refine z_imul hx hb dX6_trills_26 ?_
    refine lv_aload_n hx hb dX6_trills_27 rfl (lv_at hl 2 rfl) ?_
    refine va_get (D := D) (ci := 6) (v := .ref (q 7)) (C := RX6) (T := TX6) (N := 21) hx hb hts n_X6 hown hK hP 0 rfl rfl 10 (by decide) f_35 (fun _ h9 => h9) rfl dX6_trills_28 ?_
    refine lv_iload_n hx hb dX6_trills_31 rfl (lv_at hl 3 rfl) ?_
    refine z_iald hx hb hK hP 7 0 rfl rfl (by omega) dX6_trills_32 ?_
    have b_2 := I.ns p9
    refine z_iadd hx hb dX6_trills_33 ?_
    refine lv_istore (lv' := [(5, .int (iI ((40 * p9) + (ns p9)))), (4, .int (iI (40 * p9))), (3, .int (iI 0)), (0, .ref (q 0)), (1, .int (iI p9)), (2, .int (iI (bZ bad)))]) hx hb dX6_trills_34 hl (by decide) rfl (fun ls hl => ?_)
    have L_36 : ∀ (n : Nat) (acc : Int) (f : Int), (h0 : 40 * p9 ≤ f ∧ f ≤ (40 * p9 + ns p9)) → (hf : (40 * p9 + ns p9) - f < n) → (hr : trN (fun f => lot ka bg ln f (40 * p9 + ns p9)) (trB nK st ka bad) (40 * p9 + ns p9) n f acc = trF nK st ka bg ln bad (40 * p9) (40 * p9 + ns p9)) → ∀ (H : Heap) (locs : List Loc) (ls : Array Slot), va_P D vwCl (wM q cy nK st le be te ab bl ka bg ln ns me sc pi re bk 0 co bs gr lo) H → va_D A (wM q cy nK st le be te ab bl ka bg ln ns me sc pi re bk 0 co bs gr lo) → va_S A s.heap H locs → lv_has ls 9 [(5, .int (iI ((40 * p9) + (ns p9)))), (4, .int (iI f)), (3, .int (iI acc)), (0, .ref (q 0)), (1, .int (iI p9)), (2, .int (iI (bZ bad)))] → W p l e ({ frames := 2, cells := 0, slots := 0, locals := 45 } : Room) s m [.ref (q 0), .int (iI p9), .int (iI (bZ bad))].toArray below meth c H locs 0 0 (MQ below (zQi D cy (wM q cy nK st le be te ab bl ka bg ln ns me sc pi re bk 0 co bs gr lo) A (if 0 ≤ p9 ∧ p9 ≤ 3 then trF nK st ka bg ln bad (p9 * 40) (p9 * 40 + ns p9) else (-100001))) [.ref (q 0), .int (iI p9), .int (iI (bZ bad))].toArray s 0 0 A) (F0 m 36 ls []) := by
      intro n
      induction n with
      | zero =>
        intro acc f h0 hf hr
        exfalso; omega
      | succ n ih_36 =>
        intro acc f h0 hf hr H locs ls hP hD hS hl
        refine lv_iload hx hb dX6_trills_36 (lv_at hl 1 rfl) ?_
        refine lv_iload hx hb dX6_trills_38 (lv_at hl 0 rfl) ?_
        refine z_icmp_ge (tgt := 208) hx hb dX6_trills_40 (by decide) (by omega) (fun c_3 => ?_) (fun c_3 => ?_)
        · refine lv_iload_n hx hb dX6_trills_208 rfl (lv_at hl 2 rfl) ?_
          exact z_iret X hK hP hD hS dX6_trills_209 (by rw [if_pos (by omega), Int.mul_comm p9 40, ← hr, trN_end (by omega)])
        · refine lv_iload hx hb dX6_trills_43 (lv_at hl 1 rfl) ?_
          refine lv_istore (lv' := [(6, .int (iI f)), (5, .int (iI ((40 * p9) + (ns p9)))), (4, .int (iI f)), (3, .int (iI acc)), (0, .ref (q 0)), (1, .int (iI p9)), (2, .int (iI (bZ bad)))]) hx hb dX6_trills_45 hl (by decide) rfl (fun ls hl => ?_)
          refine lv_iconst (v := iI (1)) hx hb dX6_trills_47 rfl ?_
          refine lv_istore (lv' := [(7, .int (iI 1)), (6, .int (iI f)), (5, .int (iI ((40 * p9) + (ns p9)))), (4, .int (iI f)), (3, .int (iI acc)), (0, .ref (q 0)), (1, .int (iI p9)), (2, .int (iI (bZ bad)))]) hx hb dX6_trills_48 hl (by decide) rfl (fun ls hl => ?_)
          have L_50 : ∀ (n : Nat) (a : Int) (g9 : Bool), (h3 : f ≤ a ∧ a < (40 * p9 + ns p9)) → (hf2 : (g9 = true ∧ (40 * p9 + ns p9) - a + 1 < n) ∨ (g9 = false ∧ (40 * p9 + ns p9) - a < n)) → (hAA : ∀ x, f < x → x ≤ a → goP ka bg ln f x) → (hN : f < a → ka a ≠ ka (a - 1)) → (hG : g9 = false → a + 1 < (40 * p9 + ns p9) → ¬ goP ka bg ln f (a + 1)) → ∀ (H : Heap) (locs : List Loc) (ls : Array Slot), va_P D vwCl (wM q cy nK st le be te ab bl ka bg ln ns me sc pi re bk 0 co bs gr lo) H → va_D A (wM q cy nK st le be te ab bl ka bg ln ns me sc pi re bk 0 co bs gr lo) → va_S A s.heap H locs → lv_has ls 9 [(7, .int (iI (bZ g9))), (6, .int (iI a)), (5, .int (iI ((40 * p9) + (ns p9)))), (4, .int (iI f)), (3, .int (iI acc)), (0, .ref (q 0)), (1, .int (iI p9)), (2, .int (iI (bZ bad)))] → W p l e ({ frames := 2, cells := 0, slots := 0, locals := 45 } : Room) s m [.ref (q 0), .int (iI p9), .int (iI (bZ bad))].toArray below meth c H locs 0 0 (MQ below (zQi D cy (wM q cy nK st le be te ab bl ka bg ln ns me sc pi re bk 0 co bs gr lo) A (if 0 ≤ p9 ∧ p9 ≤ 3 then trF nK st ka bg ln bad (p9 * 40) (p9 * 40 + ns p9) else (-100001))) [.ref (q 0), .int (iI p9), .int (iI (bZ bad))].toArray s 0 0 A) (F0 m 50 ls []) := by
            intro n
            induction n with
            | zero =>
              intro a g9 h3 hf2 hAA hN hG
              exfalso; omega
            | succ n ih_50 =>
              intro a g9 h3 hf2 hAA hN hG H locs ls hP hD hS hl
              refine lv_iload hx hb dX6_trills_50 (lv_at hl 0 rfl) ?_
              refine z_ifb_eq (tgt := 161) hx hb dX6_trills_52 (by decide) (fun c_4 => ?_) (fun c_4 => ?_)
              · have le9 : lot ka bg ln f (40 * p9 + ns p9) = a := lot_eq ⟨by omega, by omega, fun x g1 g2 => hAA x g1 g2, fun g => hG (by assumption) g⟩
                refine lv_iload hx hb dX6_trills_161 (lv_at hl 1 rfl) ?_
                refine lv_iload hx hb dX6_trills_163 (lv_at hl 3 rfl) ?_
                refine z_isub hx hb dX6_trills_165 ?_
                refine lv_iconst (v := iI (3)) hx hb dX6_trills_166 rfl ?_
                refine z_icmp_lt (tgt := 202) hx hb dX6_trills_167 (by decide) (by omega) (fun c_5 => ?_) (fun c_5 => ?_)
                · refine lv_iinc (v := iI (f + 1)) (lv' := [(4, .int (iI (f + 1))), (7, .int (iI (bZ g9))), (6, .int (iI a)), (5, .int (iI ((40 * p9) + (ns p9)))), (3, .int (iI acc)), (0, .ref (q 0)), (1, .int (iI p9)), (2, .int (iI (bZ bad)))]) hx hb dX6_trills_202 hl (k := 3) rfl (iI_add _ _) (by decide) rfl (fun ls hl => ?_)
                  refine lv_goto (tgt := 36) hx hb dX6_trills_205 (by decide) ?_
                  exact ih_36 acc (f + 1) (by omega) (by omega) (by first | (rw [← hr, trN_short (by omega) (by show lot ka bg ln f (40 * p9 + ns p9) - f < 3; omega)]; done) | (rw [← le9, ← hr, trN_long (by omega) (by show 3 ≤ lot ka bg ln f (40 * p9 + ns p9) - f; omega)]; unfold trB; first | (rw [if_pos (by assumption), bP_1 (by assumption)]; done) | (rw [if_pos (by assumption), bP_0 (by assumption)]; done) | (rw [if_neg (by simp_all)]; done))) _ _ _ hP hD hS (lv_sub hl [3, 0, 4, 5, 6, 7] rfl)
                · refine lv_iload_n hx hb dX6_trills_170 rfl (lv_at hl 4 rfl) ?_
                  refine lv_iload_n hx hb dX6_trills_171 rfl (lv_at hl 7 rfl) ?_
                  refine z_ifb_eq (tgt := 188) hx hb dX6_trills_172 (by decide) (fun c_6 => ?_) (fun c_6 => ?_)
                  · refine lv_iconst (v := iI (1)) hx hb dX6_trills_188 rfl ?_
                    refine lv_goto (tgt := 193) hx hb dX6_trills_189 (by decide) ?_
                    refine z_iadd hx hb dX6_trills_193 ?_
                    refine lv_istore_n (lv' := [(3, .int (iI (acc + 1))), (7, .int (iI (bZ g9))), (6, .int (iI a)), (5, .int (iI ((40 * p9) + (ns p9)))), (4, .int (iI f)), (0, .ref (q 0)), (1, .int (iI p9)), (2, .int (iI (bZ bad)))]) hx hb dX6_trills_194 rfl hl (by decide) rfl (fun ls hl => ?_)
                    refine lv_iload hx hb dX6_trills_195 (lv_at hl 2 rfl) ?_
                    refine lv_istore (lv' := [(4, .int (iI a)), (3, .int (iI (acc + 1))), (7, .int (iI (bZ g9))), (6, .int (iI a)), (5, .int (iI ((40 * p9) + (ns p9)))), (0, .ref (q 0)), (1, .int (iI p9)), (2, .int (iI (bZ bad)))]) hx hb dX6_trills_197 hl (by decide) rfl (fun ls hl => ?_)
                    refine lv_goto (tgt := 205) hx hb dX6_trills_199 (by decide) ?_
                    refine lv_goto (tgt := 36) hx hb dX6_trills_205 (by decide) ?_
                    exact ih_36 (acc + 1) a (by omega) (by omega) (by first | (rw [← hr, trN_short (by omega) (by show lot ka bg ln f (40 * p9 + ns p9) - f < 3; omega)]; done) | (rw [← le9, ← hr, trN_long (by omega) (by show 3 ≤ lot ka bg ln f (40 * p9 + ns p9) - f; omega)]; unfold trB; first | (rw [if_pos (by assumption), bP_1 (by assumption)]; done) | (rw [if_pos (by assumption), bP_0 (by assumption)]; done) | (rw [if_neg (by simp_all)]; done))) _ _ _ hP hD hS (lv_sub hl [4, 0, 1, 5, 6, 7] rfl)
                  · refine lv_aload_n hx hb dX6_trills_175 rfl (lv_at hl 5 rfl) ?_
                    refine lv_iload hx hb dX6_trills_176 (lv_at hl 3 rfl) ?_
                    refine lv_iload hx hb dX6_trills_178 (lv_at hl 3 rfl) ?_
                    refine lv_iconst (v := iI (1)) hx hb dX6_trills_180 rfl ?_
                    refine z_iadd hx hb dX6_trills_181 ?_
                    refine z_callVi (ci := 6) (q0 := 0) (As := [.int (iI f), .int (iI (f + 1))]) (rest := [.int (iI acc)]) X hK hP hD hA hS hl.1 gX6_trills_X6_shares rfl ⟨rfl, rfl⟩ hd_X6_shares ⟨Nat.le_of_ble_eq_true rfl, Nat.le_of_ble_eq_true rfl⟩ rfl rfl rfl (Nat.le_of_ble_eq_true rfl) ⟨Nat.zero_le _, Nat.zero_le _⟩ rfl dX6_trills_182 (c_X6_shares I f (f + 1) (by omega) (by omega)) (fun H locs hP hD hS => ?_)
                    refine z_ifp_eq (tgt := 192) hx hb dX6_trills_185 (by decide) (fun c_7 => ?_) (fun c_7 => ?_)
                    · refine lv_iconst (v := iI (0)) hx hb dX6_trills_192 rfl ?_
                      refine z_iadd hx hb dX6_trills_193 ?_
                      refine lv_istore_n (lv' := [(3, .int (iI (acc + 0))), (7, .int (iI (bZ g9))), (6, .int (iI a)), (5, .int (iI ((40 * p9) + (ns p9)))), (4, .int (iI f)), (0, .ref (q 0)), (1, .int (iI p9)), (2, .int (iI (bZ bad)))]) hx hb dX6_trills_194 rfl hl (by decide) rfl (fun ls hl => ?_)
                      refine lv_iload hx hb dX6_trills_195 (lv_at hl 2 rfl) ?_
                      refine lv_istore (lv' := [(4, .int (iI a)), (3, .int (iI (acc + 0))), (7, .int (iI (bZ g9))), (6, .int (iI a)), (5, .int (iI ((40 * p9) + (ns p9)))), (0, .ref (q 0)), (1, .int (iI p9)), (2, .int (iI (bZ bad)))]) hx hb dX6_trills_197 hl (by decide) rfl (fun ls hl => ?_)
                      refine lv_goto (tgt := 205) hx hb dX6_trills_199 (by decide) ?_
                      refine lv_goto (tgt := 36) hx hb dX6_trills_205 (by decide) ?_
                      exact ih_36 (acc + 0) a (by omega) (by omega) (by first | (rw [← hr, trN_short (by omega) (by show lot ka bg ln f (40 * p9 + ns p9) - f < 3; omega)]; done) | (rw [← le9, ← hr, trN_long (by omega) (by show 3 ≤ lot ka bg ln f (40 * p9 + ns p9) - f; omega)]; unfold trB; first | (rw [if_pos (by assumption), bP_1 (by assumption)]; done) | (rw [if_pos (by assumption), bP_0 (by assumption)]; done) | (rw [if_neg (by simp_all)]; done))) _ _ _ hP hD hS (lv_sub hl [4, 0, 1, 5, 6, 7] rfl)
                    · refine lv_iconst (v := iI (1)) hx hb dX6_trills_188 rfl ?_
                      refine lv_goto (tgt := 193) hx hb dX6_trills_189 (by decide) ?_
                      refine z_iadd hx hb dX6_trills_193 ?_
                      refine lv_istore_n (lv' := [(3, .int (iI (acc + 1))), (7, .int (iI (bZ g9))), (6, .int (iI a)), (5, .int (iI ((40 * p9) + (ns p9)))), (4, .int (iI f)), (0, .ref (q 0)), (1, .int (iI p9)), (2, .int (iI (bZ bad)))]) hx hb dX6_trills_194 rfl hl (by decide) rfl (fun ls hl => ?_)
                      refine lv_iload hx hb dX6_trills_195 (lv_at hl 2 rfl) ?_
                      refine lv_istore (lv' := [(4, .int (iI a)), (3, .int (iI (acc + 1))), (7, .int (iI (bZ g9))), (6, .int (iI a)), (5, .int (iI ((40 * p9) + (ns p9)))), (0, .ref (q 0)), (1, .int (iI p9)), (2, .int (iI (bZ bad)))]) hx hb dX6_trills_197 hl (by decide) rfl (fun ls hl => ?_)
                      refine lv_goto (tgt := 205) hx hb dX6_trills_199 (by decide) ?_
                      refine lv_goto (tgt := 36) hx hb dX6_trills_205 (by decide) ?_
                      exact ih_36 (acc + 1) a (by omega) (by omega) (by first | (rw [← hr, trN_short (by omega) (by show lot ka bg ln f (40 * p9 + ns p9) - f < 3; omega)]; done) | (rw [← le9, ← hr, trN_long (by omega) (by show 3 ≤ lot ka bg ln f (40 * p9 + ns p9) - f; omega)]; unfold trB; first | (rw [if_pos (by assumption), bP_1 (by assumption)]; done) | (rw [if_pos (by assumption), bP_0 (by assumption)]; done) | (rw [if_neg (by simp_all)]; done))) _ _ _ hP hD hS (lv_sub hl [4, 0, 1, 5, 6, 7] rfl)
              · have hf3 : (40 * p9 + ns p9) - a + 1 < n + 1 := by rcases hf2 with z | z; (omega); (exact absurd (z.1.symm.trans (by assumption)) Bool.false_ne_true)
                have zb1 := I.bg a
                have zb2 := I.ln a
                refine lv_iload hx hb dX6_trills_55 (lv_at hl 1 rfl) ?_
                refine lv_iconst (v := iI (1)) hx hb dX6_trills_57 rfl ?_
                refine z_iadd hx hb dX6_trills_58 ?_
                refine lv_istore (lv' := [(8, .int (iI (a + 1))), (7, .int (iI (bZ g9))), (6, .int (iI a)), (5, .int (iI ((40 * p9) + (ns p9)))), (4, .int (iI f)), (3, .int (iI acc)), (0, .ref (q 0)), (1, .int (iI p9)), (2, .int (iI (bZ bad)))]) hx hb dX6_trills_59 hl (by decide) rfl (fun ls hl => ?_)
                refine lv_iload hx hb dX6_trills_61 (lv_at hl 0 rfl) ?_
                refine lv_iload hx hb dX6_trills_63 (lv_at hl 3 rfl) ?_
                refine z_icmp_ge (tgt := 140) hx hb dX6_trills_65 (by decide) (by omega) (fun c_8 => ?_) (fun c_8 => ?_)
                · refine lv_iconst (v := iI (0)) hx hb dX6_trills_140 rfl ?_
                  refine lv_istore (lv' := [(7, .int (iI 0)), (8, .int (iI (a + 1))), (6, .int (iI a)), (5, .int (iI ((40 * p9) + (ns p9)))), (4, .int (iI f)), (3, .int (iI acc)), (0, .ref (q 0)), (1, .int (iI p9)), (2, .int (iI (bZ bad)))]) hx hb dX6_trills_141 hl (by decide) rfl (fun ls hl => ?_)
                  refine lv_iload hx hb dX6_trills_143 (lv_at hl 2 rfl) ?_
                  refine lv_iload hx hb dX6_trills_145 (lv_at hl 0 rfl) ?_
                  refine z_if_eq (tgt := 154) hx hb dX6_trills_147 (by decide) (by omega) (fun c_9 => ?_) (fun c_9 => ?_)
                  · refine lv_iconst (v := iI (0)) hx hb dX6_trills_154 rfl ?_
                    refine z_iadd hx hb dX6_trills_155 ?_
                    refine lv_istore (lv' := [(6, .int (iI (a + 0))), (7, .int (iI 0)), (8, .int (iI (a + 1))), (5, .int (iI ((40 * p9) + (ns p9)))), (4, .int (iI f)), (3, .int (iI acc)), (0, .ref (q 0)), (1, .int (iI p9)), (2, .int (iI (bZ bad)))]) hx hb dX6_trills_156 hl (by decide) rfl (fun ls hl => ?_)
                    refine lv_goto (tgt := 50) hx hb dX6_trills_158 (by decide) ?_
                    exact ih_50 (a + 0) false (by omega) (by first | exact Or.inl ⟨rfl, by omega⟩ | exact Or.inr ⟨rfl, by omega⟩) (by first | (rw [Int.add_zero]; exact hAA) | exact (fun x g1 g2 => by rcases (show x ≤ a ∨ x = a + 1 by omega) with g | g; exact hAA x g1 g; rw [g]; exact go_y (by omega) (by omega) (by omega) (by omega))) (by first | (rw [Int.add_zero]; exact hN) | exact (fun _ => by rw [show a + 1 - 1 = a by omega]; omega)) (by first | (intro z; cases z; done) | (rw [Int.add_zero]; exact fun _ g2 => go_n (by omega) hN (fun z => by omega))) _ _ _ hP hD hS (lv_sub hl [1, 0, 3, 4, 5, 6, 7, 8] rfl)
                  · exact absurd c_9 (by decide)
                · refine lv_aload_n hx hb dX6_trills_68 rfl (lv_at hl 6 rfl) ?_
                  refine va_get (D := D) (ci := 6) (v := .ref (q 9)) (C := RX6) (T := TX6) (N := 21) hx hb hts n_X6 hown hK hP 0 rfl rfl 12 (by decide) f_41 (fun _ h9 => h9) rfl dX6_trills_69 ?_
                  refine lv_iload hx hb dX6_trills_72 (lv_at hl 0 rfl) ?_
                  refine z_iald hx hb hK hP 9 0 rfl rfl (by omega) dX6_trills_74 ?_
                  have b_10 := I.bg (a + 1)
                  refine lv_aload_n hx hb dX6_trills_75 rfl (lv_at hl 6 rfl) ?_
                  refine va_get (D := D) (ci := 6) (v := .ref (q 9)) (C := RX6) (T := TX6) (N := 21) hx hb hts n_X6 hown hK hP 0 rfl rfl 12 (by decide) f_41 (fun _ h9 => h9) rfl dX6_trills_76 ?_
                  refine lv_iload hx hb dX6_trills_79 (lv_at hl 2 rfl) ?_
                  refine z_iald hx hb hK hP 9 0 rfl rfl (by omega) dX6_trills_81 ?_
                  have b_11 := I.bg a
                  refine lv_aload_n hx hb dX6_trills_82 rfl (lv_at hl 6 rfl) ?_
                  refine va_get (D := D) (ci := 6) (v := .ref (q 10)) (C := RX6) (T := TX6) (N := 21) hx hb hts n_X6 hown hK hP 0 rfl rfl 13 (by decide) f_44 (fun _ h9 => h9) rfl dX6_trills_83 ?_
                  refine lv_iload hx hb dX6_trills_86 (lv_at hl 2 rfl) ?_
                  refine z_iald hx hb hK hP 10 0 rfl rfl (by omega) dX6_trills_88 ?_
                  have b_12 := I.ln a
                  refine z_iadd hx hb dX6_trills_89 ?_
                  refine z_icmp_gt (tgt := 140) hx hb dX6_trills_90 (by decide) (by omega) (fun c_13 => ?_) (fun c_13 => ?_)
                  · refine lv_iconst (v := iI (0)) hx hb dX6_trills_140 rfl ?_
                    refine lv_istore (lv' := [(7, .int (iI 0)), (8, .int (iI (a + 1))), (6, .int (iI a)), (5, .int (iI ((40 * p9) + (ns p9)))), (4, .int (iI f)), (3, .int (iI acc)), (0, .ref (q 0)), (1, .int (iI p9)), (2, .int (iI (bZ bad)))]) hx hb dX6_trills_141 hl (by decide) rfl (fun ls hl => ?_)
                    refine lv_iload hx hb dX6_trills_143 (lv_at hl 2 rfl) ?_
                    refine lv_iload hx hb dX6_trills_145 (lv_at hl 0 rfl) ?_
                    refine z_if_eq (tgt := 154) hx hb dX6_trills_147 (by decide) (by omega) (fun c_14 => ?_) (fun c_14 => ?_)
                    · refine lv_iconst (v := iI (0)) hx hb dX6_trills_154 rfl ?_
                      refine z_iadd hx hb dX6_trills_155 ?_
                      refine lv_istore (lv' := [(6, .int (iI (a + 0))), (7, .int (iI 0)), (8, .int (iI (a + 1))), (5, .int (iI ((40 * p9) + (ns p9)))), (4, .int (iI f)), (3, .int (iI acc)), (0, .ref (q 0)), (1, .int (iI p9)), (2, .int (iI (bZ bad)))]) hx hb dX6_trills_156 hl (by decide) rfl (fun ls hl => ?_)
                      refine lv_goto (tgt := 50) hx hb dX6_trills_158 (by decide) ?_
                      exact ih_50 (a + 0) false (by omega) (by first | exact Or.inl ⟨rfl, by omega⟩ | exact Or.inr ⟨rfl, by omega⟩) (by first | (rw [Int.add_zero]; exact hAA) | exact (fun x g1 g2 => by rcases (show x ≤ a ∨ x = a + 1 by omega) with g | g; exact hAA x g1 g; rw [g]; exact go_y (by omega) (by omega) (by omega) (by omega))) (by first | (rw [Int.add_zero]; exact hN) | exact (fun _ => by rw [show a + 1 - 1 = a by omega]; omega)) (by first | (intro z; cases z; done) | (rw [Int.add_zero]; exact fun _ g2 => go_n (by omega) hN (fun z => by omega))) _ _ _ hP hD hS (lv_sub hl [1, 0, 3, 4, 5, 6, 7, 8] rfl)
                    · exact absurd c_14 (by decide)
                  · refine lv_aload_n hx hb dX6_trills_93 rfl (lv_at hl 6 rfl) ?_
                    refine va_get (D := D) (ci := 6) (v := .ref (q 8)) (C := RX6) (T := TX6) (N := 21) hx hb hts n_X6 hown hK hP 0 rfl rfl 11 (by decide) f_38 (fun _ h9 => h9) rfl dX6_trills_94 ?_
                    refine lv_iload hx hb dX6_trills_97 (lv_at hl 0 rfl) ?_
                    refine z_iald hx hb hK hP 8 0 rfl rfl (by omega) dX6_trills_99 ?_
                    have b_15 := I.ka (a + 1)
                    refine lv_aload_n hx hb dX6_trills_100 rfl (lv_at hl 6 rfl) ?_
                    refine va_get (D := D) (ci := 6) (v := .ref (q 8)) (C := RX6) (T := TX6) (N := 21) hx hb hts n_X6 hown hK hP 0 rfl rfl 11 (by decide) f_38 (fun _ h9 => h9) rfl dX6_trills_101 ?_
                    refine lv_iload hx hb dX6_trills_104 (lv_at hl 2 rfl) ?_
                    refine z_iald hx hb hK hP 8 0 rfl rfl (by omega) dX6_trills_106 ?_
                    have b_16 := I.ka a
                    refine z_icmp_eq (tgt := 140) hx hb dX6_trills_107 (by decide) (by omega) (fun c_17 => ?_) (fun c_17 => ?_)
                    · refine lv_iconst (v := iI (0)) hx hb dX6_trills_140 rfl ?_
                      refine lv_istore (lv' := [(7, .int (iI 0)), (8, .int (iI (a + 1))), (6, .int (iI a)), (5, .int (iI ((40 * p9) + (ns p9)))), (4, .int (iI f)), (3, .int (iI acc)), (0, .ref (q 0)), (1, .int (iI p9)), (2, .int (iI (bZ bad)))]) hx hb dX6_trills_141 hl (by decide) rfl (fun ls hl => ?_)
                      refine lv_iload hx hb dX6_trills_143 (lv_at hl 2 rfl) ?_
                      refine lv_iload hx hb dX6_trills_145 (lv_at hl 0 rfl) ?_
                      refine z_if_eq (tgt := 154) hx hb dX6_trills_147 (by decide) (by omega) (fun c_18 => ?_) (fun c_18 => ?_)
                      · refine lv_iconst (v := iI (0)) hx hb dX6_trills_154 rfl ?_
                        refine z_iadd hx hb dX6_trills_155 ?_
                        refine lv_istore (lv' := [(6, .int (iI (a + 0))), (7, .int (iI 0)), (8, .int (iI (a + 1))), (5, .int (iI ((40 * p9) + (ns p9)))), (4, .int (iI f)), (3, .int (iI acc)), (0, .ref (q 0)), (1, .int (iI p9)), (2, .int (iI (bZ bad)))]) hx hb dX6_trills_156 hl (by decide) rfl (fun ls hl => ?_)
                        refine lv_goto (tgt := 50) hx hb dX6_trills_158 (by decide) ?_
                        exact ih_50 (a + 0) false (by omega) (by first | exact Or.inl ⟨rfl, by omega⟩ | exact Or.inr ⟨rfl, by omega⟩) (by first | (rw [Int.add_zero]; exact hAA) | exact (fun x g1 g2 => by rcases (show x ≤ a ∨ x = a + 1 by omega) with g | g; exact hAA x g1 g; rw [g]; exact go_y (by omega) (by omega) (by omega) (by omega))) (by first | (rw [Int.add_zero]; exact hN) | exact (fun _ => by rw [show a + 1 - 1 = a by omega]; omega)) (by first | (intro z; cases z; done) | (rw [Int.add_zero]; exact fun _ g2 => go_n (by omega) hN (fun z => by omega))) _ _ _ hP hD hS (lv_sub hl [1, 0, 3, 4, 5, 6, 7, 8] rfl)
                      · exact absurd c_18 (by decide)
                    · refine lv_iload hx hb dX6_trills_110 (lv_at hl 2 rfl) ?_
                      refine lv_iload hx hb dX6_trills_112 (lv_at hl 4 rfl) ?_
                      refine z_icmp_eq (tgt := 136) hx hb dX6_trills_114 (by decide) (by omega) (fun c_19 => ?_) (fun c_19 => ?_)
                      · refine lv_iconst (v := iI (1)) hx hb dX6_trills_136 rfl ?_
                        refine lv_goto (tgt := 141) hx hb dX6_trills_137 (by decide) ?_
                        refine lv_istore (lv' := [(7, .int (iI 1)), (8, .int (iI (a + 1))), (6, .int (iI a)), (5, .int (iI ((40 * p9) + (ns p9)))), (4, .int (iI f)), (3, .int (iI acc)), (0, .ref (q 0)), (1, .int (iI p9)), (2, .int (iI (bZ bad)))]) hx hb dX6_trills_141 hl (by decide) rfl (fun ls hl => ?_)
                        refine lv_iload hx hb dX6_trills_143 (lv_at hl 2 rfl) ?_
                        refine lv_iload hx hb dX6_trills_145 (lv_at hl 0 rfl) ?_
                        refine z_if_eq (tgt := 154) hx hb dX6_trills_147 (by decide) (by omega) (fun c_20 => ?_) (fun c_20 => ?_)
                        · exact absurd c_20 (by decide)
                        · refine lv_iconst (v := iI (1)) hx hb dX6_trills_150 rfl ?_
                          refine lv_goto (tgt := 155) hx hb dX6_trills_151 (by decide) ?_
                          refine z_iadd hx hb dX6_trills_155 ?_
                          refine lv_istore (lv' := [(6, .int (iI (a + 1))), (7, .int (iI 1)), (8, .int (iI (a + 1))), (5, .int (iI ((40 * p9) + (ns p9)))), (4, .int (iI f)), (3, .int (iI acc)), (0, .ref (q 0)), (1, .int (iI p9)), (2, .int (iI (bZ bad)))]) hx hb dX6_trills_156 hl (by decide) rfl (fun ls hl => ?_)
                          refine lv_goto (tgt := 50) hx hb dX6_trills_158 (by decide) ?_
                          exact ih_50 (a + 1) true (by omega) (by first | exact Or.inl ⟨rfl, by omega⟩ | exact Or.inr ⟨rfl, by omega⟩) (by first | (rw [Int.add_zero]; exact hAA) | exact (fun x g1 g2 => by rcases (show x ≤ a ∨ x = a + 1 by omega) with g | g; exact hAA x g1 g; rw [g]; exact go_y (by omega) (by omega) (by omega) (by omega))) (by first | (rw [Int.add_zero]; exact hN) | exact (fun _ => by rw [show a + 1 - 1 = a by omega]; omega)) (by first | (intro z; cases z; done) | (rw [Int.add_zero]; exact fun _ g2 => go_n (by omega) hN (fun z => by omega))) _ _ _ hP hD hS (lv_sub hl [1, 0, 3, 4, 5, 6, 7, 8] rfl)
                      · refine lv_aload_n hx hb dX6_trills_117 rfl (lv_at hl 6 rfl) ?_
                        refine va_get (D := D) (ci := 6) (v := .ref (q 8)) (C := RX6) (T := TX6) (N := 21) hx hb hts n_X6 hown hK hP 0 rfl rfl 11 (by decide) f_38 (fun _ h9 => h9) rfl dX6_trills_118 ?_
                        refine lv_iload hx hb dX6_trills_121 (lv_at hl 0 rfl) ?_
                        refine z_iald hx hb hK hP 8 0 rfl rfl (by omega) dX6_trills_123 ?_
                        have b_21 := I.ka (a + 1)
                        refine lv_aload_n hx hb dX6_trills_124 rfl (lv_at hl 6 rfl) ?_
                        refine va_get (D := D) (ci := 6) (v := .ref (q 8)) (C := RX6) (T := TX6) (N := 21) hx hb hts n_X6 hown hK hP 0 rfl rfl 11 (by decide) f_38 (fun _ h9 => h9) rfl dX6_trills_125 ?_
                        refine lv_iload hx hb dX6_trills_128 (lv_at hl 2 rfl) ?_
                        refine lv_iconst (v := iI (1)) hx hb dX6_trills_130 rfl ?_
                        refine z_isub hx hb dX6_trills_131 ?_
                        refine z_iald hx hb hK hP 8 0 rfl rfl (by omega) dX6_trills_132 ?_
                        have b_22 := I.ka (a - 1)
                        refine z_icmp_ne (tgt := 140) hx hb dX6_trills_133 (by decide) (by omega) (fun c_23 => ?_) (fun c_23 => ?_)
                        · refine lv_iconst (v := iI (0)) hx hb dX6_trills_140 rfl ?_
                          refine lv_istore (lv' := [(7, .int (iI 0)), (8, .int (iI (a + 1))), (6, .int (iI a)), (5, .int (iI ((40 * p9) + (ns p9)))), (4, .int (iI f)), (3, .int (iI acc)), (0, .ref (q 0)), (1, .int (iI p9)), (2, .int (iI (bZ bad)))]) hx hb dX6_trills_141 hl (by decide) rfl (fun ls hl => ?_)
                          refine lv_iload hx hb dX6_trills_143 (lv_at hl 2 rfl) ?_
                          refine lv_iload hx hb dX6_trills_145 (lv_at hl 0 rfl) ?_
                          refine z_if_eq (tgt := 154) hx hb dX6_trills_147 (by decide) (by omega) (fun c_24 => ?_) (fun c_24 => ?_)
                          · refine lv_iconst (v := iI (0)) hx hb dX6_trills_154 rfl ?_
                            refine z_iadd hx hb dX6_trills_155 ?_
                            refine lv_istore (lv' := [(6, .int (iI (a + 0))), (7, .int (iI 0)), (8, .int (iI (a + 1))), (5, .int (iI ((40 * p9) + (ns p9)))), (4, .int (iI f)), (3, .int (iI acc)), (0, .ref (q 0)), (1, .int (iI p9)), (2, .int (iI (bZ bad)))]) hx hb dX6_trills_156 hl (by decide) rfl (fun ls hl => ?_)
                            refine lv_goto (tgt := 50) hx hb dX6_trills_158 (by decide) ?_
                            exact ih_50 (a + 0) false (by omega) (by first | exact Or.inl ⟨rfl, by omega⟩ | exact Or.inr ⟨rfl, by omega⟩) (by first | (rw [Int.add_zero]; exact hAA) | exact (fun x g1 g2 => by rcases (show x ≤ a ∨ x = a + 1 by omega) with g | g; exact hAA x g1 g; rw [g]; exact go_y (by omega) (by omega) (by omega) (by omega))) (by first | (rw [Int.add_zero]; exact hN) | exact (fun _ => by rw [show a + 1 - 1 = a by omega]; omega)) (by first | (intro z; cases z; done) | (rw [Int.add_zero]; exact fun _ g2 => go_n (by omega) hN (fun z => by omega))) _ _ _ hP hD hS (lv_sub hl [1, 0, 3, 4, 5, 6, 7, 8] rfl)
                          · exact absurd c_24 (by decide)
                        · refine lv_iconst (v := iI (1)) hx hb dX6_trills_136 rfl ?_
                          refine lv_goto (tgt := 141) hx hb dX6_trills_137 (by decide) ?_
                          refine lv_istore (lv' := [(7, .int (iI 1)), (8, .int (iI (a + 1))), (6, .int (iI a)), (5, .int (iI ((40 * p9) + (ns p9)))), (4, .int (iI f)), (3, .int (iI acc)), (0, .ref (q 0)), (1, .int (iI p9)), (2, .int (iI (bZ bad)))]) hx hb dX6_trills_141 hl (by decide) rfl (fun ls hl => ?_)
                          refine lv_iload hx hb dX6_trills_143 (lv_at hl 2 rfl) ?_
                          refine lv_iload hx hb dX6_trills_145 (lv_at hl 0 rfl) ?_
                          refine z_if_eq (tgt := 154) hx hb dX6_trills_147 (by decide) (by omega) (fun c_25 => ?_) (fun c_25 => ?_)
                          · exact absurd c_25 (by decide)
                          · refine lv_iconst (v := iI (1)) hx hb dX6_trills_150 rfl ?_
                            refine lv_goto (tgt := 155) hx hb dX6_trills_151 (by decide) ?_
                            refine z_iadd hx hb dX6_trills_155 ?_
                            refine lv_istore (lv' := [(6, .int (iI (a + 1))), (7, .int (iI 1)), (8, .int (iI (a + 1))), (5, .int (iI ((40 * p9) + (ns p9)))), (4, .int (iI f)), (3, .int (iI acc)), (0, .ref (q 0)), (1, .int (iI p9)), (2, .int (iI (bZ bad)))]) hx hb dX6_trills_156 hl (by decide) rfl (fun ls hl => ?_)
                            refine lv_goto (tgt := 50) hx hb dX6_trills_158 (by decide) ?_
                            exact ih_50 (a + 1) true (by omega) (by first | exact Or.inl ⟨rfl, by omega⟩ | exact Or.inr ⟨rfl, by omega⟩) (by first | (rw [Int.add_zero]; exact hAA) | exact (fun x g1 g2 => by rcases (show x ≤ a ∨ x = a + 1 by omega) with g | g; exact hAA x g1 g; rw [g]; exact go_y (by omega) (by omega) (by omega) (by omega))) (by first | (rw [Int.add_zero]; exact hN) | exact (fun _ => by rw [show a + 1 - 1 = a by omega]; omega)) (by first | (intro z; cases z; done) | (rw [Int.add_zero]; exact fun _ g2 => go_n (by omega) hN (fun z => by omega))) _ _ _ hP hD hS (lv_sub hl [1, 0, 3, 4, 5, 6, 7, 8] rfl)
          exact L_50 43 f true (by omega) (Or.inl ⟨rfl, by omega⟩) (fun x _ _ => by omega) (fun z => by omega) (fun z => (by cases z)) _ _ _ hP hD hS (lv_sub hl [0, 1, 2, 3, 4, 5, 6, 7] rfl)
    exact L_36 41 0 (40 * p9) (by omega) (by omega) rfl _ _ _ hP hD hS (lv_sub hl [0, 1, 2, 3, 4, 5] rfl)
  · refine z_ldc (n := -100001) hx hb hown k_86 (by decide) dX6_trills_12 ?_
    exact z_iret X hK hP hD hS dX6_trills_14 (by (repeat' split) <;> first | rfl | omega)

theorem hd_X6_heardOf : yX6_heardOf.cls = RX6 ∧ yX6_heardOf.cls ≠ "java/lang/invoke/MethodHandle" ∧ yX6_heardOf.cls ≠ "java/lang/invoke/VarHandle" ∧ (parseMethodDescriptor yX6_heardOf.desc).map (fun d => d.parameters.length) = some 3 := by decide +kernel
set_option maxHeartbeats 4000000 in
set_option maxRecDepth 100000 in
theorem c_X6_heardOf (I : okS nK st le be te ab bl ka bg ln ns me sc pi re bk) (p9 : Int) (s9 : Int) (t9 : Int) (h : 0 ≤ p9 ∧ p9 ≤ 3) (h2 : -2147483648 ≤ s9 ∧ s9 ≤ 2147483647 ∧ -2147483648 ≤ t9 ∧ t9 ≤ 2147483647) : MI l D cy yX6_heardOf wsX6_heardOf ({ frames := 1, cells := 0, slots := 0, locals := 25 } : Room) [.ref (q 0), .int (iI p9), .int (iI s9), .int (iI t9)] (wM q cy nK st le be te ab bl ka bg ln ns me sc pi re bk th co bs gr lo) (hdF nK st le be ka bg ln s9 t9 (40 * p9) (40 * p9 + ns p9)) (wM q cy nK st le be te ab bl ka bg ln ns me sc pi re bk th co bs gr lo) := by
  refine MI.ofW (cc := cX6_heardOf) (maxL := 8) (ret := (some .int)) (by decide) rfl (Nat.le_of_ble_eq_true rfl) ?_
  intro p e s m below meth c A ls X hK hP hD hA hS hl
  obtain ⟨hx, hb, hml, hr, hts, hown, hlocks⟩ := id X
  have hl : lv_has ls 8 [(0, .ref (q 0)), (1, .int (iI p9)), (2, .int (iI s9)), (3, .int (iI t9))] := hl
  have k_62 := hts (Cond.constant RX6 62 (-100009)) (by decide +kernel)
  have f_35 := hts (Cond.fieldLink RX6 35 "TwoKeysModel" "notes" "[I") (by decide +kernel)
  have f_38 := hts (Cond.fieldLink RX6 38 "TwoKeysModel" "noteKey" "[I") (by decide +kernel)
  have f_7 := hts (Cond.fieldLink RX6 7 "TwoKeysModel" "keys" "I") (by decide +kernel)
  have f_13 := hts (Cond.fieldLink RX6 13 "TwoKeysModel" "string" "[I") (by decide +kernel)
  have f_41 := hts (Cond.fieldLink RX6 41 "TwoKeysModel" "begin" "[I") (by decide +kernel)
  have f_44 := hts (Cond.fieldLink RX6 44 "TwoKeysModel" "lasts" "[I") (by decide +kernel)
  have n_X6 : ∀ w ∈ u_ws RX6 TX6 21, w ∈ wsX6_heardOf := by decide +kernel
  have iK := I.nK
  have i7 := I.ns p9
  refine z_ldc (n := -100009) hx hb hown k_62 (by decide) dX6_heardOf_0 ?_
  refine lv_istore (lv' := [(4, .int (iI (-100009))), (0, .ref (q 0)), (1, .int (iI p9)), (2, .int (iI s9)), (3, .int (iI t9))]) hx hb dX6_heardOf_2 hl (by decide) rfl (fun ls hl => ?_)
  refine lv_bipush (v := iI (40)) hx hb dX6_heardOf_4 (by decide) ?_
  refine lv_iload_n hx hb dX6_heardOf_6 rfl (lv_at hl 2 rfl) ?_
  refine z_imul hx hb dX6_heardOf_7 ?_
  refine lv_istore (lv' := [(5, .int (iI (40 * p9))), (4, .int (iI (-100009))), (0, .ref (q 0)), (1, .int (iI p9)), (2, .int (iI s9)), (3, .int (iI t9))]) hx hb dX6_heardOf_8 hl (by decide) rfl (fun ls hl => ?_)
  have L_10 : ∀ (n : Nat) (fo : Int) (a : Int), (h0 : 40 * p9 ≤ a ∧ a ≤ (40 * p9 + ns p9)) → (hf : (40 * p9 + ns p9) - a < n) → (hr : fo = hdF nK st le be ka bg ln s9 t9 (40 * p9) a) → (hn : fo = -100009 ∨ (0 ≤ fo ∧ fo ≤ 23)) → ∀ (H : Heap) (locs : List Loc) (ls : Array Slot), va_P D vwCl (wM q cy nK st le be te ab bl ka bg ln ns me sc pi re bk th co bs gr lo) H → va_D A (wM q cy nK st le be te ab bl ka bg ln ns me sc pi re bk th co bs gr lo) → va_S A s.heap H locs → lv_has ls 8 [(5, .int (iI a)), (4, .int (iI fo)), (0, .ref (q 0)), (1, .int (iI p9)), (2, .int (iI s9)), (3, .int (iI t9))] → W p l e ({ frames := 1, cells := 0, slots := 0, locals := 25 } : Room) s m [.ref (q 0), .int (iI p9), .int (iI s9), .int (iI t9)].toArray below meth c H locs 0 0 (MQ below (zQi D cy (wM q cy nK st le be te ab bl ka bg ln ns me sc pi re bk th co bs gr lo) A (hdF nK st le be ka bg ln s9 t9 (40 * p9) (40 * p9 + ns p9))) [.ref (q 0), .int (iI p9), .int (iI s9), .int (iI t9)].toArray s 0 0 A) (F0 m 10 ls []) := by
    intro n
    induction n with
    | zero =>
      intro fo a h0 hf hr hn
      exfalso; omega
    | succ n ih_10 =>
      intro fo a h0 hf hr hn H locs ls hP hD hS hl
      refine lv_iload hx hb dX6_heardOf_10 (lv_at hl 0 rfl) ?_
      refine lv_bipush (v := iI (40)) hx hb dX6_heardOf_12 (by decide) ?_
      refine lv_iload_n hx hb dX6_heardOf_14 rfl (lv_at hl 3 rfl) ?_
      refine z_imul hx hb dX6_heardOf_15 ?_
      refine lv_aload_n hx hb dX6_heardOf_16 rfl (lv_at hl 2 rfl) ?_
      refine va_get (D := D) (ci := 6) (v := .ref (q 7)) (C := RX6) (T := TX6) (N := 21) hx hb hts n_X6 hown hK hP 0 rfl rfl 10 (by decide) f_35 (fun _ h9 => h9) rfl dX6_heardOf_17 ?_
      refine lv_iload_n hx hb dX6_heardOf_20 rfl (lv_at hl 3 rfl) ?_
      refine z_iald hx hb hK hP 7 0 rfl rfl (by omega) dX6_heardOf_21 ?_
      have b_1 := I.ns p9
      refine z_iadd hx hb dX6_heardOf_22 ?_
      refine z_icmp_ge (tgt := 155) hx hb dX6_heardOf_23 (by decide) (by omega) (fun c_2 => ?_) (fun c_2 => ?_)
      · refine lv_iload hx hb dX6_heardOf_155 (lv_at hl 1 rfl) ?_
        exact z_iret X hK hP hD hS dX6_heardOf_157 (by rw [hr, show a = (40 * p9 + ns p9) by omega])
      · refine lv_aload_n hx hb dX6_heardOf_26 rfl (lv_at hl 2 rfl) ?_
        refine va_get (D := D) (ci := 6) (v := .ref (q 8)) (C := RX6) (T := TX6) (N := 21) hx hb hts n_X6 hown hK hP 0 rfl rfl 11 (by decide) f_38 (fun _ h9 => h9) rfl dX6_heardOf_27 ?_
        refine lv_iload hx hb dX6_heardOf_30 (lv_at hl 0 rfl) ?_
        refine z_iald hx hb hK hP 8 0 rfl rfl (by omega) dX6_heardOf_32 ?_
        have b_3 := I.ka a
        refine lv_istore (lv' := [(6, .int (iI (ka a))), (5, .int (iI a)), (4, .int (iI fo)), (0, .ref (q 0)), (1, .int (iI p9)), (2, .int (iI s9)), (3, .int (iI t9))]) hx hb dX6_heardOf_33 hl (by decide) rfl (fun ls hl => ?_)
        refine lv_iload hx hb dX6_heardOf_35 (lv_at hl 0 rfl) ?_
        refine lv_aload_n hx hb dX6_heardOf_37 rfl (lv_at hl 3 rfl) ?_
        refine va_get (D := D) (ci := 6) (v := .int (iI nK)) (C := RX6) (T := TX6) (N := 21) hx hb hts n_X6 hown hK hP 0 rfl rfl 1 (by decide) f_7 (fun _ h9 => h9) rfl dX6_heardOf_38 ?_
        refine z_icmp_ge (tgt := 93) hx hb dX6_heardOf_41 (by decide) (by omega) (fun c_4 => ?_) (fun c_4 => ?_)
        · refine lv_iconst (v := iI (0)) hx hb dX6_heardOf_93 rfl ?_
          refine lv_istore (lv' := [(7, .int (iI 0)), (6, .int (iI (ka a))), (5, .int (iI a)), (4, .int (iI fo)), (0, .ref (q 0)), (1, .int (iI p9)), (2, .int (iI s9)), (3, .int (iI t9))]) hx hb dX6_heardOf_94 hl (by decide) rfl (fun ls hl => ?_)
          refine lv_iload hx hb dX6_heardOf_96 (lv_at hl 0 rfl) ?_
          refine z_if_eq (tgt := 149) hx hb dX6_heardOf_98 (by decide) (by omega) (fun c_5 => ?_) (fun c_5 => ?_)
          · refine lv_iinc (v := iI (a + 1)) (lv' := [(5, .int (iI (a + 1))), (7, .int (iI 0)), (6, .int (iI (ka a))), (4, .int (iI fo)), (0, .ref (q 0)), (1, .int (iI p9)), (2, .int (iI s9)), (3, .int (iI t9))]) hx hb dX6_heardOf_149 hl (k := 2) rfl (iI_add _ _) (by decide) rfl (fun ls hl => ?_)
            refine lv_goto (tgt := 10) hx hb dX6_heardOf_152 (by decide) ?_
            exact ih_10 fo (a + 1) (by omega) (by omega) (by first | exact hdM_n (by omega) hr (fun z => by have z1 := z.1; omega) | exact hdM_y (by omega) hr ⟨by omega, by omega⟩ | exact hdM_n (by omega) hr (fun z => by have z1 := z.2; omega)) (by omega) _ _ _ hP hD hS (lv_sub hl [0, 3, 4, 5, 6, 7] rfl)
          · exact absurd c_5 (by decide)
        · refine lv_aload_n hx hb dX6_heardOf_44 rfl (lv_at hl 3 rfl) ?_
          refine va_get (D := D) (ci := 6) (v := .ref (q 1)) (C := RX6) (T := TX6) (N := 21) hx hb hts n_X6 hown hK hP 0 rfl rfl 2 (by decide) f_13 (fun _ h9 => h9) rfl dX6_heardOf_45 ?_
          refine lv_iload hx hb dX6_heardOf_48 (lv_at hl 0 rfl) ?_
          refine z_iald hx hb hK hP 1 0 rfl rfl (by omega) dX6_heardOf_50 ?_
          have b_6 := I.st (ka a)
          refine lv_iload_n hx hb dX6_heardOf_51 rfl (lv_at hl 5 rfl) ?_
          refine z_icmp_ne (tgt := 93) hx hb dX6_heardOf_52 (by decide) (by omega) (fun c_7 => ?_) (fun c_7 => ?_)
          · refine lv_iconst (v := iI (0)) hx hb dX6_heardOf_93 rfl ?_
            refine lv_istore (lv' := [(7, .int (iI 0)), (6, .int (iI (ka a))), (5, .int (iI a)), (4, .int (iI fo)), (0, .ref (q 0)), (1, .int (iI p9)), (2, .int (iI s9)), (3, .int (iI t9))]) hx hb dX6_heardOf_94 hl (by decide) rfl (fun ls hl => ?_)
            refine lv_iload hx hb dX6_heardOf_96 (lv_at hl 0 rfl) ?_
            refine z_if_eq (tgt := 149) hx hb dX6_heardOf_98 (by decide) (by omega) (fun c_8 => ?_) (fun c_8 => ?_)
            · refine lv_iinc (v := iI (a + 1)) (lv' := [(5, .int (iI (a + 1))), (7, .int (iI 0)), (6, .int (iI (ka a))), (4, .int (iI fo)), (0, .ref (q 0)), (1, .int (iI p9)), (2, .int (iI s9)), (3, .int (iI t9))]) hx hb dX6_heardOf_149 hl (k := 2) rfl (iI_add _ _) (by decide) rfl (fun ls hl => ?_)
              refine lv_goto (tgt := 10) hx hb dX6_heardOf_152 (by decide) ?_
              exact ih_10 fo (a + 1) (by omega) (by omega) (by first | exact hdM_n (by omega) hr (fun z => by have z1 := z.1; omega) | exact hdM_y (by omega) hr ⟨by omega, by omega⟩ | exact hdM_n (by omega) hr (fun z => by have z1 := z.2; omega)) (by omega) _ _ _ hP hD hS (lv_sub hl [0, 3, 4, 5, 6, 7] rfl)
            · exact absurd c_8 (by decide)
          · refine lv_iload_n hx hb dX6_heardOf_55 rfl (lv_at hl 6 rfl) ?_
            refine z_i2l hx hb dX6_heardOf_56 (by omega) ?_
            refine lv_aload_n hx hb dX6_heardOf_57 rfl (lv_at hl 3 rfl) ?_
            refine va_get (D := D) (ci := 6) (v := .ref (q 9)) (C := RX6) (T := TX6) (N := 21) hx hb hts n_X6 hown hK hP 0 rfl rfl 12 (by decide) f_41 (fun _ h9 => h9) rfl dX6_heardOf_58 ?_
            refine lv_iload hx hb dX6_heardOf_61 (lv_at hl 1 rfl) ?_
            refine z_iald hx hb hK hP 9 0 rfl rfl (by omega) dX6_heardOf_63 ?_
            have b_9 := I.bg a
            refine z_i2l hx hb dX6_heardOf_64 (by omega) ?_
            refine lv_aload_n hx hb dX6_heardOf_65 rfl (lv_at hl 3 rfl) ?_
            refine va_get (D := D) (ci := 6) (v := .ref (q 9)) (C := RX6) (T := TX6) (N := 21) hx hb hts n_X6 hown hK hP 0 rfl rfl 12 (by decide) f_41 (fun _ h9 => h9) rfl dX6_heardOf_66 ?_
            refine lv_iload hx hb dX6_heardOf_69 (lv_at hl 1 rfl) ?_
            refine z_iald hx hb hK hP 9 0 rfl rfl (by omega) dX6_heardOf_71 ?_
            have b_10 := I.bg a
            refine lv_aload_n hx hb dX6_heardOf_72 rfl (lv_at hl 3 rfl) ?_
            refine va_get (D := D) (ci := 6) (v := .ref (q 10)) (C := RX6) (T := TX6) (N := 21) hx hb hts n_X6 hown hK hP 0 rfl rfl 13 (by decide) f_44 (fun _ h9 => h9) rfl dX6_heardOf_73 ?_
            refine lv_iload hx hb dX6_heardOf_76 (lv_at hl 1 rfl) ?_
            refine z_iald hx hb hK hP 10 0 rfl rfl (by omega) dX6_heardOf_78 ?_
            have b_11 := I.ln a
            refine z_iadd hx hb dX6_heardOf_79 ?_
            refine lv_iconst (v := iI (1)) hx hb dX6_heardOf_80 rfl ?_
            refine z_isub hx hb dX6_heardOf_81 ?_
            refine z_i2l hx hb dX6_heardOf_82 (by omega) ?_
            refine z_callSi (As := [.long (lI t9), .long (lI (bg a)), .long (lI (((bg a) + (ln a)) - 1))]) (rest := []) X hK hP hD hA hS hl.1 gX6_heardOf_X6_in rfl ⟨rfl, rfl⟩ hd_X6_in ⟨Nat.le_of_ble_eq_true rfl, Nat.le_of_ble_eq_true rfl⟩ rfl (Nat.le_of_ble_eq_true rfl) ⟨Nat.zero_le _, Nat.zero_le _⟩ rfl dX6_heardOf_83 (c_X6_in t9 (bg a) (((bg a) + (ln a)) - 1) (by omega)) (fun H locs hP hD hS => ?_)
            refine z_ifp_eq (tgt := 93) hx hb dX6_heardOf_86 (by decide) (fun c_12 => ?_) (fun c_12 => ?_)
            · refine lv_iconst (v := iI (0)) hx hb dX6_heardOf_93 rfl ?_
              refine lv_istore (lv' := [(7, .int (iI 0)), (6, .int (iI (ka a))), (5, .int (iI a)), (4, .int (iI fo)), (0, .ref (q 0)), (1, .int (iI p9)), (2, .int (iI s9)), (3, .int (iI t9))]) hx hb dX6_heardOf_94 hl (by decide) rfl (fun ls hl => ?_)
              refine lv_iload hx hb dX6_heardOf_96 (lv_at hl 0 rfl) ?_
              refine z_if_eq (tgt := 149) hx hb dX6_heardOf_98 (by decide) (by omega) (fun c_13 => ?_) (fun c_13 => ?_)
              · refine lv_iinc (v := iI (a + 1)) (lv' := [(5, .int (iI (a + 1))), (7, .int (iI 0)), (6, .int (iI (ka a))), (4, .int (iI fo)), (0, .ref (q 0)), (1, .int (iI p9)), (2, .int (iI s9)), (3, .int (iI t9))]) hx hb dX6_heardOf_149 hl (k := 2) rfl (iI_add _ _) (by decide) rfl (fun ls hl => ?_)
                refine lv_goto (tgt := 10) hx hb dX6_heardOf_152 (by decide) ?_
                exact ih_10 fo (a + 1) (by omega) (by omega) (by first | exact hdM_n (by omega) hr (fun z => by have z1 := z.1; omega) | exact hdM_y (by omega) hr ⟨by omega, by omega⟩ | exact hdM_n (by omega) hr (fun z => by have z1 := z.2; omega)) (by omega) _ _ _ hP hD hS (lv_sub hl [0, 3, 4, 5, 6, 7] rfl)
              · exact absurd c_13 (by decide)
            · refine lv_iconst (v := iI (1)) hx hb dX6_heardOf_89 rfl ?_
              refine lv_goto (tgt := 94) hx hb dX6_heardOf_90 (by decide) ?_
              refine lv_istore (lv' := [(7, .int (iI 1)), (6, .int (iI (ka a))), (5, .int (iI a)), (4, .int (iI fo)), (0, .ref (q 0)), (1, .int (iI p9)), (2, .int (iI s9)), (3, .int (iI t9))]) hx hb dX6_heardOf_94 hl (by decide) rfl (fun ls hl => ?_)
              refine lv_iload hx hb dX6_heardOf_96 (lv_at hl 0 rfl) ?_
              refine z_if_eq (tgt := 149) hx hb dX6_heardOf_98 (by decide) (by omega) (fun c_14 => ?_) (fun c_14 => ?_)
              · exact absurd c_14 (by decide)
              · refine lv_iload hx hb dX6_heardOf_101 (lv_at hl 3 rfl) ?_
                refine z_ldc (n := -100009) hx hb hown k_62 (by decide) dX6_heardOf_103 ?_
                refine z_icmp_eq (tgt := 145) hx hb dX6_heardOf_105 (by decide) (by omega) (fun c_15 => ?_) (fun c_15 => ?_)
                · refine lv_iload hx hb dX6_heardOf_145 (lv_at hl 1 rfl) ?_
                  refine lv_istore (lv' := [(4, .int (iI (ka a))), (7, .int (iI 1)), (6, .int (iI (ka a))), (5, .int (iI a)), (0, .ref (q 0)), (1, .int (iI p9)), (2, .int (iI s9)), (3, .int (iI t9))]) hx hb dX6_heardOf_147 hl (by decide) rfl (fun ls hl => ?_)
                  refine lv_iinc (v := iI (a + 1)) (lv' := [(5, .int (iI (a + 1))), (4, .int (iI (ka a))), (7, .int (iI 1)), (6, .int (iI (ka a))), (0, .ref (q 0)), (1, .int (iI p9)), (2, .int (iI s9)), (3, .int (iI t9))]) hx hb dX6_heardOf_149 hl (k := 3) rfl (iI_add _ _) (by decide) rfl (fun ls hl => ?_)
                  refine lv_goto (tgt := 10) hx hb dX6_heardOf_152 (by decide) ?_
                  exact ih_10 (ka a) (a + 1) (by omega) (by omega) (by first | exact hdM_n (by omega) hr (fun z => by have z1 := z.1; omega) | exact hdM_y (by omega) hr ⟨by omega, by omega⟩ | exact hdM_n (by omega) hr (fun z => by have z1 := z.2; omega)) (by omega) _ _ _ hP hD hS (lv_sub hl [0, 1, 4, 5, 6, 7] rfl)
                · have v1 := I.le (ka a)
                  have v2 := I.be (ka a)
                  have v3 := I.le fo
                  have v4 := I.be fo
                  refine lv_aload_n hx hb dX6_heardOf_108 rfl (lv_at hl 4 rfl) ?_
                  refine lv_iload hx hb dX6_heardOf_109 (lv_at hl 1 rfl) ?_
                  refine z_callVi (ci := 6) (q0 := 0) (As := [.int (iI (ka a))]) (rest := []) X hK hP hD hA hS hl.1 gX6_heardOf_X6_soundsOf rfl ⟨rfl, rfl⟩ hd_X6_soundsOf ⟨Nat.le_of_ble_eq_true rfl, Nat.le_of_ble_eq_true rfl⟩ rfl rfl rfl (Nat.le_of_ble_eq_true rfl) ⟨Nat.zero_le _, Nat.zero_le _⟩ rfl dX6_heardOf_111 (c_X6_soundsOf I (ka a) (by omega)) (fun H locs hP hD hS => ?_)
                  refine lv_aload_n hx hb dX6_heardOf_114 rfl (lv_at hl 4 rfl) ?_
                  refine lv_iload hx hb dX6_heardOf_115 (lv_at hl 3 rfl) ?_
                  refine z_callVi (ci := 6) (q0 := 0) (As := [.int (iI fo)]) (rest := [.int (iI (le (ka a) + be (ka a)))]) X hK hP hD hA hS hl.1 gX6_heardOf_X6_soundsOf rfl ⟨rfl, rfl⟩ hd_X6_soundsOf ⟨Nat.le_of_ble_eq_true rfl, Nat.le_of_ble_eq_true rfl⟩ rfl rfl rfl (Nat.le_of_ble_eq_true rfl) ⟨Nat.zero_le _, Nat.zero_le _⟩ rfl dX6_heardOf_117 (c_X6_soundsOf I fo (by omega)) (fun H locs hP hD hS => ?_)
                  refine z_icmp_lt (tgt := 145) hx hb dX6_heardOf_120 (by decide) (by omega) (fun c_16 => ?_) (fun c_16 => ?_)
                  · refine lv_iload hx hb dX6_heardOf_145 (lv_at hl 1 rfl) ?_
                    refine lv_istore (lv' := [(4, .int (iI (ka a))), (7, .int (iI 1)), (6, .int (iI (ka a))), (5, .int (iI a)), (0, .ref (q 0)), (1, .int (iI p9)), (2, .int (iI s9)), (3, .int (iI t9))]) hx hb dX6_heardOf_147 hl (by decide) rfl (fun ls hl => ?_)
                    refine lv_iinc (v := iI (a + 1)) (lv' := [(5, .int (iI (a + 1))), (4, .int (iI (ka a))), (7, .int (iI 1)), (6, .int (iI (ka a))), (0, .ref (q 0)), (1, .int (iI p9)), (2, .int (iI s9)), (3, .int (iI t9))]) hx hb dX6_heardOf_149 hl (k := 3) rfl (iI_add _ _) (by decide) rfl (fun ls hl => ?_)
                    refine lv_goto (tgt := 10) hx hb dX6_heardOf_152 (by decide) ?_
                    exact ih_10 (ka a) (a + 1) (by omega) (by omega) (by first | exact hdM_n (by omega) hr (fun z => by have z1 := z.1; omega) | exact hdM_y (by omega) hr ⟨by omega, by omega⟩ | exact hdM_n (by omega) hr (fun z => by have z1 := z.2; omega)) (by omega) _ _ _ hP hD hS (lv_sub hl [0, 1, 4, 5, 6, 7] rfl)
                  · refine lv_aload_n hx hb dX6_heardOf_123 rfl (lv_at hl 4 rfl) ?_
                    refine lv_iload hx hb dX6_heardOf_124 (lv_at hl 1 rfl) ?_
                    refine z_callVi (ci := 6) (q0 := 0) (As := [.int (iI (ka a))]) (rest := []) X hK hP hD hA hS hl.1 gX6_heardOf_X6_soundsOf rfl ⟨rfl, rfl⟩ hd_X6_soundsOf ⟨Nat.le_of_ble_eq_true rfl, Nat.le_of_ble_eq_true rfl⟩ rfl rfl rfl (Nat.le_of_ble_eq_true rfl) ⟨Nat.zero_le _, Nat.zero_le _⟩ rfl dX6_heardOf_126 (c_X6_soundsOf I (ka a) (by omega)) (fun H locs hP hD hS => ?_)
                    refine lv_aload_n hx hb dX6_heardOf_129 rfl (lv_at hl 4 rfl) ?_
                    refine lv_iload hx hb dX6_heardOf_130 (lv_at hl 3 rfl) ?_
                    refine z_callVi (ci := 6) (q0 := 0) (As := [.int (iI fo)]) (rest := [.int (iI (le (ka a) + be (ka a)))]) X hK hP hD hA hS hl.1 gX6_heardOf_X6_soundsOf rfl ⟨rfl, rfl⟩ hd_X6_soundsOf ⟨Nat.le_of_ble_eq_true rfl, Nat.le_of_ble_eq_true rfl⟩ rfl rfl rfl (Nat.le_of_ble_eq_true rfl) ⟨Nat.zero_le _, Nat.zero_le _⟩ rfl dX6_heardOf_132 (c_X6_soundsOf I fo (by omega)) (fun H locs hP hD hS => ?_)
                    refine z_icmp_ne (tgt := 149) hx hb dX6_heardOf_135 (by decide) (by omega) (fun c_17 => ?_) (fun c_17 => ?_)
                    · refine lv_iinc (v := iI (a + 1)) (lv' := [(5, .int (iI (a + 1))), (7, .int (iI 1)), (6, .int (iI (ka a))), (4, .int (iI fo)), (0, .ref (q 0)), (1, .int (iI p9)), (2, .int (iI s9)), (3, .int (iI t9))]) hx hb dX6_heardOf_149 hl (k := 2) rfl (iI_add _ _) (by decide) rfl (fun ls hl => ?_)
                      refine lv_goto (tgt := 10) hx hb dX6_heardOf_152 (by decide) ?_
                      exact ih_10 fo (a + 1) (by omega) (by omega) (by first | exact hdM_n (by omega) hr (fun z => by have z1 := z.1; omega) | exact hdM_y (by omega) hr ⟨by omega, by omega⟩ | exact hdM_n (by omega) hr (fun z => by have z1 := z.2; omega)) (by omega) _ _ _ hP hD hS (lv_sub hl [0, 3, 4, 5, 6, 7] rfl)
                    · refine lv_iload hx hb dX6_heardOf_138 (lv_at hl 1 rfl) ?_
                      refine lv_iload hx hb dX6_heardOf_140 (lv_at hl 3 rfl) ?_
                      refine z_icmp_ge (tgt := 149) hx hb dX6_heardOf_142 (by decide) (by omega) (fun c_18 => ?_) (fun c_18 => ?_)
                      · refine lv_iinc (v := iI (a + 1)) (lv' := [(5, .int (iI (a + 1))), (7, .int (iI 1)), (6, .int (iI (ka a))), (4, .int (iI fo)), (0, .ref (q 0)), (1, .int (iI p9)), (2, .int (iI s9)), (3, .int (iI t9))]) hx hb dX6_heardOf_149 hl (k := 2) rfl (iI_add _ _) (by decide) rfl (fun ls hl => ?_)
                        refine lv_goto (tgt := 10) hx hb dX6_heardOf_152 (by decide) ?_
                        exact ih_10 fo (a + 1) (by omega) (by omega) (by first | exact hdM_n (by omega) hr (fun z => by have z1 := z.1; omega) | exact hdM_y (by omega) hr ⟨by omega, by omega⟩ | exact hdM_n (by omega) hr (fun z => by have z1 := z.2; omega)) (by omega) _ _ _ hP hD hS (lv_sub hl [0, 3, 4, 5, 6, 7] rfl)
                      · refine lv_iload hx hb dX6_heardOf_145 (lv_at hl 1 rfl) ?_
                        refine lv_istore (lv' := [(4, .int (iI (ka a))), (7, .int (iI 1)), (6, .int (iI (ka a))), (5, .int (iI a)), (0, .ref (q 0)), (1, .int (iI p9)), (2, .int (iI s9)), (3, .int (iI t9))]) hx hb dX6_heardOf_147 hl (by decide) rfl (fun ls hl => ?_)
                        refine lv_iinc (v := iI (a + 1)) (lv' := [(5, .int (iI (a + 1))), (4, .int (iI (ka a))), (7, .int (iI 1)), (6, .int (iI (ka a))), (0, .ref (q 0)), (1, .int (iI p9)), (2, .int (iI s9)), (3, .int (iI t9))]) hx hb dX6_heardOf_149 hl (k := 3) rfl (iI_add _ _) (by decide) rfl (fun ls hl => ?_)
                        refine lv_goto (tgt := 10) hx hb dX6_heardOf_152 (by decide) ?_
                        exact ih_10 (ka a) (a + 1) (by omega) (by omega) (by first | exact hdM_n (by omega) hr (fun z => by have z1 := z.1; omega) | exact hdM_y (by omega) hr ⟨by omega, by omega⟩ | exact hdM_n (by omega) hr (fun z => by have z1 := z.2; omega)) (by omega) _ _ _ hP hD hS (lv_sub hl [0, 1, 4, 5, 6, 7] rfl)
  exact L_10 41 (-100009) (40 * p9) (by omega) (by omega) hdF_0.symm (by omega) _ _ _ hP hD hS (lv_sub hl [0, 1, 2, 3, 4, 5] rfl)

theorem hd_X6_heard : yX6_heard.cls = RX6 ∧ yX6_heard.cls ≠ "java/lang/invoke/MethodHandle" ∧ yX6_heard.cls ≠ "java/lang/invoke/VarHandle" ∧ (parseMethodDescriptor yX6_heard.desc).map (fun d => d.parameters.length) = some 3 := by decide +kernel
set_option maxHeartbeats 4000000 in
set_option maxRecDepth 100000 in
theorem c_X6_heard (I : okS nK st le be te ab bl ka bg ln ns me sc pi re bk) (p9 : Int) (s9 : Int) (t9 : Int) (h : -2147483648 ≤ p9 ∧ p9 ≤ 2147483647 ∧ -2147483648 ≤ s9 ∧ s9 ≤ 2147483647 ∧ -2147483648 ≤ t9 ∧ t9 ≤ 2147483647) : MI l D cy yX6_heard wsX6_heard ({ frames := 2, cells := 0, slots := 0, locals := 52 } : Room) [.ref (q 0), .int (iI p9), .int (iI s9), .int (iI t9)] (wM q cy nK st le be te ab bl ka bg ln ns me sc pi re bk th co bs gr lo) (if (0 ≤ p9 ∧ p9 ≤ 3) ∧ (0 ≤ s9 ∧ s9 ≤ 23) then (if 0 ≤ t9 ∧ t9 ≤ 1100 then hdF nK st le be ka bg ln s9 t9 (p9 * 40) (p9 * 40 + ns p9) else (-100002)) else (-100001)) (wM q cy nK st le be te ab bl ka bg ln ns me sc pi re bk 0 co bs gr lo) := by
  refine MI.ofW (cc := cX6_heard) (maxL := 4) (ret := (some .int)) (by decide) rfl (Nat.le_of_ble_eq_true rfl) ?_
  intro p e s m below meth c A ls X hK hP hD hA hS hl
  obtain ⟨hx, hb, hml, hr, hts, hown, hlocks⟩ := id X
  have hl : lv_has ls 4 [(0, .ref (q 0)), (1, .int (iI p9)), (2, .int (iI s9)), (3, .int (iI t9))] := hl
  have f_63 := hts (Cond.fieldLink RX6 63 "TwoKeysModel" "thrown" "I") (by decide +kernel)
  have k_86 := hts (Cond.constant RX6 86 (-100001)) (by decide +kernel)
  have K_160 := hts (Cond.constantLong RX6 160 (1100)) (by decide +kernel)
  have k_78 := hts (Cond.constant RX6 78 (-100002)) (by decide +kernel)
  have n_X6 : ∀ w ∈ u_ws RX6 TX6 21, w ∈ wsX6_heard := by decide +kernel
  have iK := I.nK
  refine lv_aload_n hx hb dX6_heard_0 rfl (lv_at hl 0 rfl) ?_
  refine lv_iconst (v := iI (0)) hx hb dX6_heard_1 rfl ?_
  refine va_put (D := D) (ci := 6) (v := .int (iI 0)) (ty := .int) (C := RX6) (T := TX6) (N := 21) hx hb hts n_X6 tyX6 tyX6_ok nmX6 hown hK hP hD hS 0 rfl rfl 0 (by decide) f_63 (fun _ h9 => h9) rfl (by decide +kernel) rfl rfl (Nat.le_of_ble_eq_true rfl) dX6_heard_2 (fun H locs hP hD hS => ?_)
  have hP : va_P D vwCl (wM q cy nK st le be te ab bl ka bg ln ns me sc pi re bk 0 co bs gr lo) H := hP
  have hD : va_D A (wM q cy nK st le be te ab bl ka bg ln ns me sc pi re bk 0 co bs gr lo) := hD
  refine lv_iload_n hx hb dX6_heard_5 rfl (lv_at hl 1 rfl) ?_
  refine z_callSi (As := [.int (iI p9)]) (rest := []) X hK hP hD hA hS hl.1 gX6_heard_X6_noPiece rfl ⟨rfl, rfl⟩ hd_X6_noPiece ⟨Nat.le_of_ble_eq_true rfl, Nat.le_of_ble_eq_true rfl⟩ rfl (Nat.le_of_ble_eq_true rfl) ⟨Nat.zero_le _, Nat.zero_le _⟩ rfl dX6_heard_6 (c_X6_noPiece p9 (by omega)) (fun H locs hP hD hS => ?_)
  refine z_ifp_ne (tgt := 19) hx hb dX6_heard_9 (by decide) (fun c_1 => ?_) (fun c_1 => ?_)
  · refine z_ldc (n := -100001) hx hb hown k_86 (by decide) dX6_heard_19 ?_
    exact z_iret X hK hP hD hS dX6_heard_21 (by rw [Int.mul_comm p9 40]; (repeat' split) <;> first | rfl | omega)
  · refine lv_iload_n hx hb dX6_heard_12 rfl (lv_at hl 2 rfl) ?_
    refine z_callSi (As := [.int (iI s9)]) (rest := []) X hK hP hD hA hS hl.1 gX6_heard_X6_noString rfl ⟨rfl, rfl⟩ hd_X6_noString ⟨Nat.le_of_ble_eq_true rfl, Nat.le_of_ble_eq_true rfl⟩ rfl (Nat.le_of_ble_eq_true rfl) ⟨Nat.zero_le _, Nat.zero_le _⟩ rfl dX6_heard_13 (c_X6_noString s9 (by omega)) (fun H locs hP hD hS => ?_)
    refine z_ifp_eq (tgt := 22) hx hb dX6_heard_16 (by decide) (fun c_2 => ?_) (fun c_2 => ?_)
    · refine lv_iload_n hx hb dX6_heard_22 rfl (lv_at hl 3 rfl) ?_
      refine z_i2l hx hb dX6_heard_23 (by omega) ?_
      refine lv_lconst (v := lI (0)) hx hb dX6_heard_24 (by decide) ?_
      refine z_ldc2 (n := 1100) hx hb hown K_160 (by decide) dX6_heard_25 ?_
      refine z_callSi (As := [.long (lI t9), .long (lI 0), .long (lI 1100)]) (rest := []) X hK hP hD hA hS hl.1 gX6_heard_X6_in rfl ⟨rfl, rfl⟩ hd_X6_in ⟨Nat.le_of_ble_eq_true rfl, Nat.le_of_ble_eq_true rfl⟩ rfl (Nat.le_of_ble_eq_true rfl) ⟨Nat.zero_le _, Nat.zero_le _⟩ rfl dX6_heard_28 (c_X6_in t9 0 1100 (by omega)) (fun H locs hP hD hS => ?_)
      refine z_ifp_eq (tgt := 44) hx hb dX6_heard_31 (by decide) (fun c_3 => ?_) (fun c_3 => ?_)
      · refine z_ldc (n := -100002) hx hb hown k_78 (by decide) dX6_heard_44 ?_
        exact z_iret X hK hP hD hS dX6_heard_46 (by rw [Int.mul_comm p9 40]; (repeat' split) <;> first | rfl | omega)
      · refine lv_aload_n hx hb dX6_heard_34 rfl (lv_at hl 0 rfl) ?_
        refine lv_iload_n hx hb dX6_heard_35 rfl (lv_at hl 1 rfl) ?_
        refine lv_iload_n hx hb dX6_heard_36 rfl (lv_at hl 2 rfl) ?_
        refine lv_iload_n hx hb dX6_heard_37 rfl (lv_at hl 3 rfl) ?_
        refine z_callVi (ci := 6) (q0 := 0) (As := [.int (iI p9), .int (iI s9), .int (iI t9)]) (rest := []) X hK hP hD hA hS hl.1 gX6_heard_X6_heardOf rfl ⟨rfl, rfl⟩ hd_X6_heardOf ⟨Nat.le_of_ble_eq_true rfl, Nat.le_of_ble_eq_true rfl⟩ rfl rfl rfl (Nat.le_of_ble_eq_true rfl) ⟨Nat.zero_le _, Nat.zero_le _⟩ rfl dX6_heard_38 (c_X6_heardOf I p9 s9 t9 (by omega) (by omega)) (fun H locs hP hD hS => ?_)
        refine lv_goto (tgt := 46) hx hb dX6_heard_41 (by decide) ?_
        exact z_iret X hK hP hD hS dX6_heard_46 (by rw [Int.mul_comm p9 40]; (repeat' split) <;> first | rfl | omega)
    · refine z_ldc (n := -100001) hx hb hown k_86 (by decide) dX6_heard_19 ?_
      exact z_iret X hK hP hD hS dX6_heard_21 (by rw [Int.mul_comm p9 40]; (repeat' split) <;> first | rfl | omega)

theorem hd_X6_lost : yX6_lost.cls = RX6 ∧ yX6_lost.cls ≠ "java/lang/invoke/MethodHandle" ∧ yX6_lost.cls ≠ "java/lang/invoke/VarHandle" ∧ (parseMethodDescriptor yX6_lost.desc).map (fun d => d.parameters.length) = some 2 := by decide +kernel
set_option maxHeartbeats 4000000 in
set_option maxRecDepth 100000 in
theorem c_X6_lost (I : okS nK st le be te ab bl ka bg ln ns me sc pi re bk) (p9 : Int) (k : Int) (h : -2147483648 ≤ p9 ∧ p9 ≤ 2147483647 ∧ -2147483648 ≤ k ∧ k ≤ 2147483647) : MI l D cy yX6_lost wsX6_lost ({ frames := 2, cells := 0, slots := 0, locals := 52 } : Room) [.ref (q 0), .int (iI p9), .int (iI k)] (wM q cy nK st le be te ab bl ka bg ln ns me sc pi re bk th co bs gr lo) (if (0 ≤ p9 ∧ p9 ≤ 3) ∧ (0 ≤ k ∧ k < nK) then ltN (fun t => hdF nK st le be ka bg ln (st k) t (p9 * 40) (p9 * 40 + ns p9) ≠ k) ka bg ln k (p9 * 40) (p9 * 40 + ns p9) else (-100001)) (wM q cy nK st le be te ab bl ka bg ln ns me sc pi re bk 0 co bs gr lo) := by
  refine MI.ofW (cc := cX6_lost) (maxL := 7) (ret := (some .int)) (by decide) rfl (Nat.le_of_ble_eq_true rfl) ?_
  intro p e s m below meth c A ls X hK hP hD hA hS hl
  obtain ⟨hx, hb, hml, hr, hts, hown, hlocks⟩ := id X
  have hl : lv_has ls 7 [(0, .ref (q 0)), (1, .int (iI p9)), (2, .int (iI k))] := hl
  have f_63 := hts (Cond.fieldLink RX6 63 "TwoKeysModel" "thrown" "I") (by decide +kernel)
  have k_86 := hts (Cond.constant RX6 86 (-100001)) (by decide +kernel)
  have f_35 := hts (Cond.fieldLink RX6 35 "TwoKeysModel" "notes" "[I") (by decide +kernel)
  have f_13 := hts (Cond.fieldLink RX6 13 "TwoKeysModel" "string" "[I") (by decide +kernel)
  have f_38 := hts (Cond.fieldLink RX6 38 "TwoKeysModel" "noteKey" "[I") (by decide +kernel)
  have f_41 := hts (Cond.fieldLink RX6 41 "TwoKeysModel" "begin" "[I") (by decide +kernel)
  have f_44 := hts (Cond.fieldLink RX6 44 "TwoKeysModel" "lasts" "[I") (by decide +kernel)
  have n_X6 : ∀ w ∈ u_ws RX6 TX6 21, w ∈ wsX6_lost := by decide +kernel
  have iK := I.nK
  refine lv_aload_n hx hb dX6_lost_0 rfl (lv_at hl 0 rfl) ?_
  refine lv_iconst (v := iI (0)) hx hb dX6_lost_1 rfl ?_
  refine va_put (D := D) (ci := 6) (v := .int (iI 0)) (ty := .int) (C := RX6) (T := TX6) (N := 21) hx hb hts n_X6 tyX6 tyX6_ok nmX6 hown hK hP hD hS 0 rfl rfl 0 (by decide) f_63 (fun _ h9 => h9) rfl (by decide +kernel) rfl rfl (Nat.le_of_ble_eq_true rfl) dX6_lost_2 (fun H locs hP hD hS => ?_)
  have hP : va_P D vwCl (wM q cy nK st le be te ab bl ka bg ln ns me sc pi re bk 0 co bs gr lo) H := hP
  have hD : va_D A (wM q cy nK st le be te ab bl ka bg ln ns me sc pi re bk 0 co bs gr lo) := hD
  refine lv_iload_n hx hb dX6_lost_5 rfl (lv_at hl 1 rfl) ?_
  refine z_callSi (As := [.int (iI p9)]) (rest := []) X hK hP hD hA hS hl.1 gX6_lost_X6_noPiece rfl ⟨rfl, rfl⟩ hd_X6_noPiece ⟨Nat.le_of_ble_eq_true rfl, Nat.le_of_ble_eq_true rfl⟩ rfl (Nat.le_of_ble_eq_true rfl) ⟨Nat.zero_le _, Nat.zero_le _⟩ rfl dX6_lost_6 (c_X6_noPiece p9 (by omega)) (fun H locs hP hD hS => ?_)
  refine z_ifp_ne (tgt := 20) hx hb dX6_lost_9 (by decide) (fun c_1 => ?_) (fun c_1 => ?_)
  · refine z_ldc (n := -100001) hx hb hown k_86 (by decide) dX6_lost_20 ?_
    exact z_iret X hK hP hD hS dX6_lost_22 (by (repeat' split) <;> first | rfl | omega)
  · refine lv_aload_n hx hb dX6_lost_12 rfl (lv_at hl 0 rfl) ?_
    refine lv_iload_n hx hb dX6_lost_13 rfl (lv_at hl 2 rfl) ?_
    refine z_callVi (ci := 6) (q0 := 0) (As := [.int (iI k)]) (rest := []) X hK hP hD hA hS hl.1 gX6_lost_X6_noKey rfl ⟨rfl, rfl⟩ hd_X6_noKey ⟨Nat.le_of_ble_eq_true rfl, Nat.le_of_ble_eq_true rfl⟩ rfl rfl rfl (Nat.le_of_ble_eq_true rfl) ⟨Nat.zero_le _, Nat.zero_le _⟩ rfl dX6_lost_14 (c_X6_noKey I k (by omega)) (fun H locs hP hD hS => ?_)
    refine z_ifp_eq (tgt := 23) hx hb dX6_lost_17 (by decide) (fun c_2 => ?_) (fun c_2 => ?_)
    · have i7 := I.ns p9
      refine lv_iconst (v := iI (0)) hx hb dX6_lost_23 rfl ?_
      refine lv_istore_n (lv' := [(3, .int (iI 0)), (0, .ref (q 0)), (1, .int (iI p9)), (2, .int (iI k))]) hx hb dX6_lost_24 rfl hl (by decide) rfl (fun ls hl => ?_)
      refine lv_iconst (v := iI (0)) hx hb dX6_lost_25 rfl ?_
      refine lv_istore (lv' := [(4, .int (iI 0)), (3, .int (iI 0)), (0, .ref (q 0)), (1, .int (iI p9)), (2, .int (iI k))]) hx hb dX6_lost_26 hl (by decide) rfl (fun ls hl => ?_)
      have L_28 : ∀ (n : Nat) (acc : Int) (t : Int), (h0 : 0 ≤ t ∧ t ≤ 1100) → (hf : 1100 - t < n) → (hr : acc = sZ (fun t => bP (cvP ka bg ln k (40 * p9) (40 * p9 + ns p9) t ∧ hdF nK st le be ka bg ln (st k) t (40 * p9) (40 * p9 + ns p9) ≠ k)) 0 t) → ∀ (H : Heap) (locs : List Loc) (ls : Array Slot), va_P D vwCl (wM q cy nK st le be te ab bl ka bg ln ns me sc pi re bk 0 co bs gr lo) H → va_D A (wM q cy nK st le be te ab bl ka bg ln ns me sc pi re bk 0 co bs gr lo) → va_S A s.heap H locs → lv_has ls 7 [(4, .int (iI t)), (3, .int (iI acc)), (0, .ref (q 0)), (1, .int (iI p9)), (2, .int (iI k))] → W p l e ({ frames := 2, cells := 0, slots := 0, locals := 52 } : Room) s m [.ref (q 0), .int (iI p9), .int (iI k)].toArray below meth c H locs 0 0 (MQ below (zQi D cy (wM q cy nK st le be te ab bl ka bg ln ns me sc pi re bk 0 co bs gr lo) A (if (0 ≤ p9 ∧ p9 ≤ 3) ∧ (0 ≤ k ∧ k < nK) then ltN (fun t => hdF nK st le be ka bg ln (st k) t (p9 * 40) (p9 * 40 + ns p9) ≠ k) ka bg ln k (p9 * 40) (p9 * 40 + ns p9) else (-100001))) [.ref (q 0), .int (iI p9), .int (iI k)].toArray s 0 0 A) (F0 m 28 ls []) := by
        intro n
        induction n with
        | zero =>
          intro acc t h0 hf hr
          exfalso; omega
        | succ n ih_28 =>
          intro acc t h0 hf hr H locs ls hP hD hS hl
          refine lv_iload hx hb dX6_lost_28 (lv_at hl 0 rfl) ?_
          refine lv_sipush (v := iI (1100)) hx hb dX6_lost_30 (by decide) ?_
          refine z_icmp_ge (tgt := 161) hx hb dX6_lost_33 (by decide) (by omega) (fun c_3 => ?_) (fun c_3 => ?_)
          · refine lv_iload_n hx hb dX6_lost_161 rfl (lv_at hl 1 rfl) ?_
            exact z_iret X hK hP hD hS dX6_lost_162 (by rw [if_pos (by omega), Int.mul_comm p9 40, hr, show t = 1100 by omega]; rfl)
          · refine lv_iconst (v := iI (0)) hx hb dX6_lost_36 rfl ?_
            refine lv_istore (lv' := [(5, .int (iI 0)), (4, .int (iI t)), (3, .int (iI acc)), (0, .ref (q 0)), (1, .int (iI p9)), (2, .int (iI k))]) hx hb dX6_lost_37 hl (by decide) rfl (fun ls hl => ?_)
            refine lv_bipush (v := iI (40)) hx hb dX6_lost_39 (by decide) ?_
            refine lv_iload_n hx hb dX6_lost_41 rfl (lv_at hl 4 rfl) ?_
            refine z_imul hx hb dX6_lost_42 ?_
            refine lv_istore (lv' := [(6, .int (iI (40 * p9))), (5, .int (iI 0)), (4, .int (iI t)), (3, .int (iI acc)), (0, .ref (q 0)), (1, .int (iI p9)), (2, .int (iI k))]) hx hb dX6_lost_43 hl (by decide) rfl (fun ls hl => ?_)
            have L_45 : ∀ (n : Nat) (pr : Bool) (a : Int), (h3 : 40 * p9 ≤ a ∧ a ≤ (40 * p9 + ns p9)) → (hf2 : (40 * p9 + ns p9) - a < n) → (hr2 : pr = true ↔ cvP ka bg ln k (40 * p9) a t) → ∀ (H : Heap) (locs : List Loc) (ls : Array Slot), va_P D vwCl (wM q cy nK st le be te ab bl ka bg ln ns me sc pi re bk 0 co bs gr lo) H → va_D A (wM q cy nK st le be te ab bl ka bg ln ns me sc pi re bk 0 co bs gr lo) → va_S A s.heap H locs → lv_has ls 7 [(6, .int (iI a)), (5, .int (iI (bZ pr))), (4, .int (iI t)), (3, .int (iI acc)), (0, .ref (q 0)), (1, .int (iI p9)), (2, .int (iI k))] → W p l e ({ frames := 2, cells := 0, slots := 0, locals := 52 } : Room) s m [.ref (q 0), .int (iI p9), .int (iI k)].toArray below meth c H locs 0 0 (MQ below (zQi D cy (wM q cy nK st le be te ab bl ka bg ln ns me sc pi re bk 0 co bs gr lo) A (if (0 ≤ p9 ∧ p9 ≤ 3) ∧ (0 ≤ k ∧ k < nK) then ltN (fun t => hdF nK st le be ka bg ln (st k) t (p9 * 40) (p9 * 40 + ns p9) ≠ k) ka bg ln k (p9 * 40) (p9 * 40 + ns p9) else (-100001))) [.ref (q 0), .int (iI p9), .int (iI k)].toArray s 0 0 A) (F0 m 45 ls []) := by
              intro n
              induction n with
              | zero =>
                intro pr a h3 hf2 hr2
                exfalso; omega
              | succ n ih_45 =>
                intro pr a h3 hf2 hr2 H locs ls hP hD hS hl
                refine lv_iload hx hb dX6_lost_45 (lv_at hl 0 rfl) ?_
                refine lv_bipush (v := iI (40)) hx hb dX6_lost_47 (by decide) ?_
                refine lv_iload_n hx hb dX6_lost_49 rfl (lv_at hl 5 rfl) ?_
                refine z_imul hx hb dX6_lost_50 ?_
                refine lv_aload_n hx hb dX6_lost_51 rfl (lv_at hl 4 rfl) ?_
                refine va_get (D := D) (ci := 6) (v := .ref (q 7)) (C := RX6) (T := TX6) (N := 21) hx hb hts n_X6 hown hK hP 0 rfl rfl 10 (by decide) f_35 (fun _ h9 => h9) rfl dX6_lost_52 ?_
                refine lv_iload_n hx hb dX6_lost_55 rfl (lv_at hl 5 rfl) ?_
                refine z_iald hx hb hK hP 7 0 rfl rfl (by omega) dX6_lost_56 ?_
                have b_4 := I.ns p9
                refine z_iadd hx hb dX6_lost_57 ?_
                refine z_icmp_ge (tgt := 125) hx hb dX6_lost_58 (by decide) (by omega) (fun c_5 => ?_) (fun c_5 => ?_)
                · refine lv_iload_n hx hb dX6_lost_125 rfl (lv_at hl 3 rfl) ?_
                  refine lv_iload hx hb dX6_lost_126 (lv_at hl 1 rfl) ?_
                  refine z_ifb_eq (tgt := 152) hx hb dX6_lost_128 (by decide) (fun c_6 => ?_) (fun c_6 => ?_)
                  · refine lv_iconst (v := iI (0)) hx hb dX6_lost_152 rfl ?_
                    refine z_iadd hx hb dX6_lost_153 ?_
                    refine lv_istore_n (lv' := [(3, .int (iI (acc + 0))), (6, .int (iI a)), (5, .int (iI (bZ pr))), (4, .int (iI t)), (0, .ref (q 0)), (1, .int (iI p9)), (2, .int (iI k))]) hx hb dX6_lost_154 rfl hl (by decide) rfl (fun ls hl => ?_)
                    refine lv_iinc (v := iI (t + 1)) (lv' := [(4, .int (iI (t + 1))), (3, .int (iI (acc + 0))), (6, .int (iI a)), (5, .int (iI (bZ pr))), (0, .ref (q 0)), (1, .int (iI p9)), (2, .int (iI k))]) hx hb dX6_lost_155 hl (k := 3) rfl (iI_add _ _) (by decide) rfl (fun ls hl => ?_)
                    refine lv_goto (tgt := 28) hx hb dX6_lost_158 (by decide) ?_
                    exact ih_28 (acc + 0) (t + 1) (by omega) (by omega) (by rw [sZ_step (by omega), ← hr]; (try dsimp only); first | rw [bP_1 ⟨by rw [← show a = (40 * p9 + ns p9) by omega]; exact hr2.mp (by assumption), by assumption⟩] | rw [bP_0 (fun z => absurd (by assumption) z.2)] | rw [bP_0 (fun z => absurd ((by assumption : pr = false).symm.trans (hr2.mpr (by rw [show a = (40 * p9 + ns p9) by omega]; exact z.1))) Bool.false_ne_true)]) _ _ _ hP hD hS (lv_sub hl [0, 1, 4, 5, 6] rfl)
                  · refine lv_aload_n hx hb dX6_lost_131 rfl (lv_at hl 4 rfl) ?_
                    refine lv_iload_n hx hb dX6_lost_132 rfl (lv_at hl 5 rfl) ?_
                    refine lv_aload_n hx hb dX6_lost_133 rfl (lv_at hl 4 rfl) ?_
                    refine va_get (D := D) (ci := 6) (v := .ref (q 1)) (C := RX6) (T := TX6) (N := 21) hx hb hts n_X6 hown hK hP 0 rfl rfl 2 (by decide) f_13 (fun _ h9 => h9) rfl dX6_lost_134 ?_
                    refine lv_iload_n hx hb dX6_lost_137 rfl (lv_at hl 6 rfl) ?_
                    refine z_iald hx hb hK hP 1 0 rfl rfl (by omega) dX6_lost_138 ?_
                    have b_7 := I.st k
                    refine lv_iload hx hb dX6_lost_139 (lv_at hl 2 rfl) ?_
                    refine z_callVi (ci := 6) (q0 := 0) (As := [.int (iI p9), .int (iI (st k)), .int (iI t)]) (rest := [.int (iI acc)]) X hK hP hD hA hS hl.1 gX6_lost_X6_heardOf rfl ⟨rfl, rfl⟩ hd_X6_heardOf ⟨Nat.le_of_ble_eq_true rfl, Nat.le_of_ble_eq_true rfl⟩ rfl rfl rfl (Nat.le_of_ble_eq_true rfl) ⟨Nat.zero_le _, Nat.zero_le _⟩ rfl dX6_lost_141 (c_X6_heardOf I p9 (st k) t (by omega) (by omega)) (fun H locs hP hD hS => ?_)
                    have hhb := hdF_b (nK := nK) (st := st) (le := le) (be := be) (bg := bg) (ln := ln) (s := st k) (t := t) (lo := 40 * p9) (hi := (40 * p9 + ns p9)) I.ka
                    refine lv_iload_n hx hb dX6_lost_144 rfl (lv_at hl 6 rfl) ?_
                    refine z_icmp_eq (tgt := 152) hx hb dX6_lost_145 (by decide) (by omega) (fun c_8 => ?_) (fun c_8 => ?_)
                    · refine lv_iconst (v := iI (0)) hx hb dX6_lost_152 rfl ?_
                      refine z_iadd hx hb dX6_lost_153 ?_
                      refine lv_istore_n (lv' := [(3, .int (iI (acc + 0))), (6, .int (iI a)), (5, .int (iI (bZ pr))), (4, .int (iI t)), (0, .ref (q 0)), (1, .int (iI p9)), (2, .int (iI k))]) hx hb dX6_lost_154 rfl hl (by decide) rfl (fun ls hl => ?_)
                      refine lv_iinc (v := iI (t + 1)) (lv' := [(4, .int (iI (t + 1))), (3, .int (iI (acc + 0))), (6, .int (iI a)), (5, .int (iI (bZ pr))), (0, .ref (q 0)), (1, .int (iI p9)), (2, .int (iI k))]) hx hb dX6_lost_155 hl (k := 3) rfl (iI_add _ _) (by decide) rfl (fun ls hl => ?_)
                      refine lv_goto (tgt := 28) hx hb dX6_lost_158 (by decide) ?_
                      exact ih_28 (acc + 0) (t + 1) (by omega) (by omega) (by rw [sZ_step (by omega), ← hr]; (try dsimp only); first | rw [bP_1 ⟨by rw [← show a = (40 * p9 + ns p9) by omega]; exact hr2.mp (by assumption), by assumption⟩] | rw [bP_0 (fun z => absurd (by assumption) z.2)] | rw [bP_0 (fun z => absurd ((by assumption : pr = false).symm.trans (hr2.mpr (by rw [show a = (40 * p9 + ns p9) by omega]; exact z.1))) Bool.false_ne_true)]) _ _ _ hP hD hS (lv_sub hl [0, 1, 4, 5, 6] rfl)
                    · refine lv_iconst (v := iI (1)) hx hb dX6_lost_148 rfl ?_
                      refine lv_goto (tgt := 153) hx hb dX6_lost_149 (by decide) ?_
                      refine z_iadd hx hb dX6_lost_153 ?_
                      refine lv_istore_n (lv' := [(3, .int (iI (acc + 1))), (6, .int (iI a)), (5, .int (iI (bZ pr))), (4, .int (iI t)), (0, .ref (q 0)), (1, .int (iI p9)), (2, .int (iI k))]) hx hb dX6_lost_154 rfl hl (by decide) rfl (fun ls hl => ?_)
                      refine lv_iinc (v := iI (t + 1)) (lv' := [(4, .int (iI (t + 1))), (3, .int (iI (acc + 1))), (6, .int (iI a)), (5, .int (iI (bZ pr))), (0, .ref (q 0)), (1, .int (iI p9)), (2, .int (iI k))]) hx hb dX6_lost_155 hl (k := 3) rfl (iI_add _ _) (by decide) rfl (fun ls hl => ?_)
                      refine lv_goto (tgt := 28) hx hb dX6_lost_158 (by decide) ?_
                      exact ih_28 (acc + 1) (t + 1) (by omega) (by omega) (by rw [sZ_step (by omega), ← hr]; (try dsimp only); first | rw [bP_1 ⟨by rw [← show a = (40 * p9 + ns p9) by omega]; exact hr2.mp (by assumption), by assumption⟩] | rw [bP_0 (fun z => absurd (by assumption) z.2)] | rw [bP_0 (fun z => absurd ((by assumption : pr = false).symm.trans (hr2.mpr (by rw [show a = (40 * p9 + ns p9) by omega]; exact z.1))) Bool.false_ne_true)]) _ _ _ hP hD hS (lv_sub hl [0, 1, 4, 5, 6] rfl)
                · refine lv_iload hx hb dX6_lost_61 (lv_at hl 1 rfl) ?_
                  refine z_ifb_ne (tgt := 112) hx hb dX6_lost_63 (by decide) (fun c_9 => ?_) (fun c_9 => ?_)
                  · refine lv_iconst (v := iI (1)) hx hb dX6_lost_112 rfl ?_
                    refine lv_goto (tgt := 117) hx hb dX6_lost_113 (by decide) ?_
                    refine lv_istore (lv' := [(5, .int (iI 1)), (6, .int (iI a)), (4, .int (iI t)), (3, .int (iI acc)), (0, .ref (q 0)), (1, .int (iI p9)), (2, .int (iI k))]) hx hb dX6_lost_117 hl (by decide) rfl (fun ls hl => ?_)
                    refine lv_iinc (v := iI (a + 1)) (lv' := [(6, .int (iI (a + 1))), (5, .int (iI 1)), (4, .int (iI t)), (3, .int (iI acc)), (0, .ref (q 0)), (1, .int (iI p9)), (2, .int (iI k))]) hx hb dX6_lost_119 hl (k := 1) rfl (iI_add _ _) (by decide) rfl (fun ls hl => ?_)
                    refine lv_goto (tgt := 45) hx hb dX6_lost_122 (by decide) ?_
                    exact ih_45 true (a + 1) (by omega) (by omega) (by first | exact cv_t hr2 (by assumption) | exact cv_y hr2 (by omega) (by omega) (by omega) | exact cv_n hr2 (by assumption) (by omega)) _ _ _ hP hD hS (lv_sub hl [0, 1, 2, 3, 4, 5, 6] rfl)
                  · refine lv_aload_n hx hb dX6_lost_66 rfl (lv_at hl 4 rfl) ?_
                    refine va_get (D := D) (ci := 6) (v := .ref (q 8)) (C := RX6) (T := TX6) (N := 21) hx hb hts n_X6 hown hK hP 0 rfl rfl 11 (by decide) f_38 (fun _ h9 => h9) rfl dX6_lost_67 ?_
                    refine lv_iload hx hb dX6_lost_70 (lv_at hl 0 rfl) ?_
                    refine z_iald hx hb hK hP 8 0 rfl rfl (by omega) dX6_lost_72 ?_
                    have b_10 := I.ka a
                    refine lv_iload_n hx hb dX6_lost_73 rfl (lv_at hl 6 rfl) ?_
                    refine z_icmp_ne (tgt := 116) hx hb dX6_lost_74 (by decide) (by omega) (fun c_11 => ?_) (fun c_11 => ?_)
                    · refine lv_iconst (v := iI (0)) hx hb dX6_lost_116 rfl ?_
                      refine lv_istore (lv' := [(5, .int (iI 0)), (6, .int (iI a)), (4, .int (iI t)), (3, .int (iI acc)), (0, .ref (q 0)), (1, .int (iI p9)), (2, .int (iI k))]) hx hb dX6_lost_117 hl (by decide) rfl (fun ls hl => ?_)
                      refine lv_iinc (v := iI (a + 1)) (lv' := [(6, .int (iI (a + 1))), (5, .int (iI 0)), (4, .int (iI t)), (3, .int (iI acc)), (0, .ref (q 0)), (1, .int (iI p9)), (2, .int (iI k))]) hx hb dX6_lost_119 hl (k := 1) rfl (iI_add _ _) (by decide) rfl (fun ls hl => ?_)
                      refine lv_goto (tgt := 45) hx hb dX6_lost_122 (by decide) ?_
                      exact ih_45 false (a + 1) (by omega) (by omega) (by first | exact cv_t hr2 (by assumption) | exact cv_y hr2 (by omega) (by omega) (by omega) | exact cv_n hr2 (by assumption) (by omega)) _ _ _ hP hD hS (lv_sub hl [0, 1, 2, 3, 4, 5, 6] rfl)
                    · refine lv_iload hx hb dX6_lost_77 (lv_at hl 2 rfl) ?_
                      refine z_i2l hx hb dX6_lost_79 (by omega) ?_
                      refine lv_aload_n hx hb dX6_lost_80 rfl (lv_at hl 4 rfl) ?_
                      refine va_get (D := D) (ci := 6) (v := .ref (q 9)) (C := RX6) (T := TX6) (N := 21) hx hb hts n_X6 hown hK hP 0 rfl rfl 12 (by decide) f_41 (fun _ h9 => h9) rfl dX6_lost_81 ?_
                      refine lv_iload hx hb dX6_lost_84 (lv_at hl 0 rfl) ?_
                      refine z_iald hx hb hK hP 9 0 rfl rfl (by omega) dX6_lost_86 ?_
                      have b_12 := I.bg a
                      refine z_i2l hx hb dX6_lost_87 (by omega) ?_
                      refine lv_aload_n hx hb dX6_lost_88 rfl (lv_at hl 4 rfl) ?_
                      refine va_get (D := D) (ci := 6) (v := .ref (q 9)) (C := RX6) (T := TX6) (N := 21) hx hb hts n_X6 hown hK hP 0 rfl rfl 12 (by decide) f_41 (fun _ h9 => h9) rfl dX6_lost_89 ?_
                      refine lv_iload hx hb dX6_lost_92 (lv_at hl 0 rfl) ?_
                      refine z_iald hx hb hK hP 9 0 rfl rfl (by omega) dX6_lost_94 ?_
                      have b_13 := I.bg a
                      refine lv_aload_n hx hb dX6_lost_95 rfl (lv_at hl 4 rfl) ?_
                      refine va_get (D := D) (ci := 6) (v := .ref (q 10)) (C := RX6) (T := TX6) (N := 21) hx hb hts n_X6 hown hK hP 0 rfl rfl 13 (by decide) f_44 (fun _ h9 => h9) rfl dX6_lost_96 ?_
                      refine lv_iload hx hb dX6_lost_99 (lv_at hl 0 rfl) ?_
                      refine z_iald hx hb hK hP 10 0 rfl rfl (by omega) dX6_lost_101 ?_
                      have b_14 := I.ln a
                      refine z_iadd hx hb dX6_lost_102 ?_
                      refine lv_iconst (v := iI (1)) hx hb dX6_lost_103 rfl ?_
                      refine z_isub hx hb dX6_lost_104 ?_
                      refine z_i2l hx hb dX6_lost_105 (by omega) ?_
                      refine z_callSi (As := [.long (lI t), .long (lI (bg a)), .long (lI (((bg a) + (ln a)) - 1))]) (rest := []) X hK hP hD hA hS hl.1 gX6_lost_X6_in rfl ⟨rfl, rfl⟩ hd_X6_in ⟨Nat.le_of_ble_eq_true rfl, Nat.le_of_ble_eq_true rfl⟩ rfl (Nat.le_of_ble_eq_true rfl) ⟨Nat.zero_le _, Nat.zero_le _⟩ rfl dX6_lost_106 (c_X6_in t (bg a) (((bg a) + (ln a)) - 1) (by omega)) (fun H locs hP hD hS => ?_)
                      refine z_ifp_eq (tgt := 116) hx hb dX6_lost_109 (by decide) (fun c_15 => ?_) (fun c_15 => ?_)
                      · refine lv_iconst (v := iI (0)) hx hb dX6_lost_116 rfl ?_
                        refine lv_istore (lv' := [(5, .int (iI 0)), (6, .int (iI a)), (4, .int (iI t)), (3, .int (iI acc)), (0, .ref (q 0)), (1, .int (iI p9)), (2, .int (iI k))]) hx hb dX6_lost_117 hl (by decide) rfl (fun ls hl => ?_)
                        refine lv_iinc (v := iI (a + 1)) (lv' := [(6, .int (iI (a + 1))), (5, .int (iI 0)), (4, .int (iI t)), (3, .int (iI acc)), (0, .ref (q 0)), (1, .int (iI p9)), (2, .int (iI k))]) hx hb dX6_lost_119 hl (k := 1) rfl (iI_add _ _) (by decide) rfl (fun ls hl => ?_)
                        refine lv_goto (tgt := 45) hx hb dX6_lost_122 (by decide) ?_
                        exact ih_45 false (a + 1) (by omega) (by omega) (by first | exact cv_t hr2 (by assumption) | exact cv_y hr2 (by omega) (by omega) (by omega) | exact cv_n hr2 (by assumption) (by omega)) _ _ _ hP hD hS (lv_sub hl [0, 1, 2, 3, 4, 5, 6] rfl)
                      · refine lv_iconst (v := iI (1)) hx hb dX6_lost_112 rfl ?_
                        refine lv_goto (tgt := 117) hx hb dX6_lost_113 (by decide) ?_
                        refine lv_istore (lv' := [(5, .int (iI 1)), (6, .int (iI a)), (4, .int (iI t)), (3, .int (iI acc)), (0, .ref (q 0)), (1, .int (iI p9)), (2, .int (iI k))]) hx hb dX6_lost_117 hl (by decide) rfl (fun ls hl => ?_)
                        refine lv_iinc (v := iI (a + 1)) (lv' := [(6, .int (iI (a + 1))), (5, .int (iI 1)), (4, .int (iI t)), (3, .int (iI acc)), (0, .ref (q 0)), (1, .int (iI p9)), (2, .int (iI k))]) hx hb dX6_lost_119 hl (k := 1) rfl (iI_add _ _) (by decide) rfl (fun ls hl => ?_)
                        refine lv_goto (tgt := 45) hx hb dX6_lost_122 (by decide) ?_
                        exact ih_45 true (a + 1) (by omega) (by omega) (by first | exact cv_t hr2 (by assumption) | exact cv_y hr2 (by omega) (by omega) (by omega) | exact cv_n hr2 (by assumption) (by omega)) _ _ _ hP hD hS (lv_sub hl [0, 1, 2, 3, 4, 5, 6] rfl)
            exact L_45 41 false (40 * p9) (by omega) (by omega) cv_0 _ _ _ hP hD hS (lv_sub hl [0, 1, 2, 3, 4, 5, 6] rfl)
      exact L_28 1101 0 0 (by omega) (by omega) ((sZ_nil (by omega)).symm) _ _ _ hP hD hS (lv_sub hl [0, 1, 2, 3, 4] rfl)
    · refine z_ldc (n := -100001) hx hb hown k_86 (by decide) dX6_lost_20 ?_
      exact z_iret X hK hP hD hS dX6_lost_22 (by (repeat' split) <;> first | rfl | omega)
