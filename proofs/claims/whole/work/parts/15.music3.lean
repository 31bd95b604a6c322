variable {l : Launch} {D : va_G} {cy : ClassId} {q : Nat → Nat} {nK sc pi re bk ss sm pf mf th lo : Int} {st le be te ab bl ka bg ln ns me pa lz go co bs gr : Int → Int}
theorem hd_X1_goesOn : yX1_goesOn.cls = RX1 ∧ yX1_goesOn.cls ≠ "java/lang/invoke/MethodHandle" ∧ yX1_goesOn.cls ≠ "java/lang/invoke/VarHandle" ∧ (parseMethodDescriptor yX1_goesOn.desc).map (fun d => d.parameters.length) = some 2 := by decide +kernel
set_option maxHeartbeats 4000000 in
set_option maxRecDepth 100000 in
theorem c_X1_goesOn (I : okS nK st le be te ab bl ka bg ln ns me sc pi re bk) (f : Int) (x9 : Int) (h : 0 ≤ f ∧ f < x9 ∧ x9 < 160) : MI l D cy yX1_goesOn wsX1_goesOn ({ frames := 1, cells := 0, slots := 0, locals := 21 } : Room) [.ref (q 9), .int (iI f), .int (iI x9)] (wT q cy nK st le be te ab bl ka bg ln ns me sc pi re bk pa lz go ss sm pf mf) (bP (goP ka bg ln f x9)) (wT q cy nK st le be te ab bl ka bg ln ns me sc pi re bk pa lz go ss sm pf mf) := by
  refine MI.ofW (cc := cX1_goesOn) (maxL := 3) (ret := (some .boolean)) (by decide) rfl (Nat.le_of_ble_eq_true rfl) ?_
  intro p e s m below meth c A ls X hK hP hD hA hS hl
  obtain ⟨hx, hb, hml, hr, hts, hown, hlocks⟩ := id X
  have hl : lv_has ls 3 [(0, .ref (q 9)), (1, .int (iI f)), (2, .int (iI x9))] := hl
  have f_15 := hts (Cond.fieldLink RX1 15 "TwoKeys$Music" "beginAt" "[I") (by decide +kernel)
  have f_9 := hts (Cond.fieldLink RX1 9 "TwoKeys$Music" "keyAt" "[I") (by decide +kernel)
  have n_X1 : ∀ w ∈ u_ws RX1 TX1 5, w ∈ wsX1_goesOn := by decide +kernel
  have iK := I.nK
  have := I.bg x9
  have := I.bg (x9 - 1)
  have := I.ln (x9 - 1)
  refine lv_aload_n hx hb dX1_goesOn_0 rfl (lv_at hl 0 rfl) ?_
  refine va_get (D := D) (ci := 1) (v := .ref (q 11)) (C := RX1) (T := TX1) (N := 5) hx hb hts n_X1 hown hK hP 9 rfl rfl 2 (by decide) f_15 (fun _ h9 => h9) rfl dX1_goesOn_1 ?_
  refine lv_iload_n hx hb dX1_goesOn_4 rfl (lv_at hl 2 rfl) ?_
  refine z_iald hx hb hK hP 11 0 rfl rfl (by omega) dX1_goesOn_5 ?_
  have b_1 := I.bg x9
  refine lv_aload_n hx hb dX1_goesOn_6 rfl (lv_at hl 0 rfl) ?_
  refine lv_iload_n hx hb dX1_goesOn_7 rfl (lv_at hl 2 rfl) ?_
  refine lv_iconst (v := iI (1)) hx hb dX1_goesOn_8 rfl ?_
  refine z_isub hx hb dX1_goesOn_9 ?_
  refine z_callVi (ci := 1) (q0 := 9) (As := [.int (iI (x9 - 1))]) (rest := [.int (iI (bg x9))]) X hK hP hD hA hS hl.1 gX1_goesOn_X1_tickBehind rfl ⟨rfl, rfl⟩ hd_X1_tickBehind ⟨Nat.le_of_ble_eq_true rfl, Nat.le_of_ble_eq_true rfl⟩ rfl rfl rfl (Nat.le_of_ble_eq_true rfl) ⟨Nat.zero_le _, Nat.zero_le _⟩ rfl dX1_goesOn_10 (c_X1_tickBehind I (x9 - 1) (by omega)) (fun H locs hP hD hS => ?_)
  refine z_icmp_le (tgt := 18) hx hb dX1_goesOn_13 (by decide) (by omega) (fun c_2 => ?_) (fun c_2 => ?_)
  · refine lv_iload_n hx hb dX1_goesOn_18 rfl (lv_at hl 2 rfl) ?_
    refine lv_iload_n hx hb dX1_goesOn_19 rfl (lv_at hl 1 rfl) ?_
    refine lv_iconst (v := iI (1)) hx hb dX1_goesOn_20 rfl ?_
    refine z_iadd hx hb dX1_goesOn_21 ?_
    refine z_icmp_ne (tgt := 46) hx hb dX1_goesOn_22 (by decide) (by omega) (fun c_3 => ?_) (fun c_3 => ?_)
    · refine lv_aload_n hx hb dX1_goesOn_46 rfl (lv_at hl 0 rfl) ?_
      refine va_get (D := D) (ci := 1) (v := .ref (q 10)) (C := RX1) (T := TX1) (N := 5) hx hb hts n_X1 hown hK hP 9 rfl rfl 1 (by decide) f_9 (fun _ h9 => h9) rfl dX1_goesOn_47 ?_
      refine lv_iload_n hx hb dX1_goesOn_50 rfl (lv_at hl 2 rfl) ?_
      refine z_iald hx hb hK hP 10 0 rfl rfl (by omega) dX1_goesOn_51 ?_
      have b_4 := I.ka x9
      refine lv_aload_n hx hb dX1_goesOn_52 rfl (lv_at hl 0 rfl) ?_
      refine va_get (D := D) (ci := 1) (v := .ref (q 10)) (C := RX1) (T := TX1) (N := 5) hx hb hts n_X1 hown hK hP 9 rfl rfl 1 (by decide) f_9 (fun _ h9 => h9) rfl dX1_goesOn_53 ?_
      refine lv_iload_n hx hb dX1_goesOn_56 rfl (lv_at hl 2 rfl) ?_
      refine lv_iconst (v := iI (2)) hx hb dX1_goesOn_57 rfl ?_
      refine z_isub hx hb dX1_goesOn_58 ?_
      refine z_iald hx hb hK hP 10 0 rfl rfl (by omega) dX1_goesOn_59 ?_
      have b_5 := I.ka (x9 - 2)
      refine z_icmp_ne (tgt := 67) hx hb dX1_goesOn_60 (by decide) (by omega) (fun c_6 => ?_) (fun c_6 => ?_)
      · refine lv_iconst (v := iI (0)) hx hb dX1_goesOn_67 rfl ?_
        exact z_pret0 X hK hP hD hS dX1_goesOn_68 (by first | exact fun z => absurd z.1 (by omega) | exact ⟨by omega, by omega⟩ | exact fun z => absurd z.2 (by omega))
      · refine lv_iconst (v := iI (1)) hx hb dX1_goesOn_63 rfl ?_
        refine lv_goto (tgt := 68) hx hb dX1_goesOn_64 (by decide) ?_
        exact z_pret1 X hK hP hD hS dX1_goesOn_68 (by first | exact fun z => absurd z.1 (by omega) | exact ⟨by omega, by omega⟩ | exact fun z => absurd z.2 (by omega))
    · refine lv_aload_n hx hb dX1_goesOn_25 rfl (lv_at hl 0 rfl) ?_
      refine va_get (D := D) (ci := 1) (v := .ref (q 10)) (C := RX1) (T := TX1) (N := 5) hx hb hts n_X1 hown hK hP 9 rfl rfl 1 (by decide) f_9 (fun _ h9 => h9) rfl dX1_goesOn_26 ?_
      refine lv_iload_n hx hb dX1_goesOn_29 rfl (lv_at hl 2 rfl) ?_
      refine z_iald hx hb hK hP 10 0 rfl rfl (by omega) dX1_goesOn_30 ?_
      have b_7 := I.ka x9
      refine lv_aload_n hx hb dX1_goesOn_31 rfl (lv_at hl 0 rfl) ?_
      refine va_get (D := D) (ci := 1) (v := .ref (q 10)) (C := RX1) (T := TX1) (N := 5) hx hb hts n_X1 hown hK hP 9 rfl rfl 1 (by decide) f_9 (fun _ h9 => h9) rfl dX1_goesOn_32 ?_
      refine lv_iload_n hx hb dX1_goesOn_35 rfl (lv_at hl 1 rfl) ?_
      refine z_iald hx hb hK hP 10 0 rfl rfl (by omega) dX1_goesOn_36 ?_
      have b_8 := I.ka f
      refine z_icmp_eq (tgt := 44) hx hb dX1_goesOn_37 (by decide) (by omega) (fun c_9 => ?_) (fun c_9 => ?_)
      · refine lv_iconst (v := iI (0)) hx hb dX1_goesOn_44 rfl ?_
        exact z_pret0 X hK hP hD hS dX1_goesOn_45 (by first | exact fun z => absurd z.1 (by omega) | exact ⟨by omega, by omega⟩ | exact fun z => absurd z.2 (by omega))
      · refine lv_iconst (v := iI (1)) hx hb dX1_goesOn_40 rfl ?_
        refine lv_goto (tgt := 45) hx hb dX1_goesOn_41 (by decide) ?_
        exact z_pret1 X hK hP hD hS dX1_goesOn_45 (by first | exact fun z => absurd z.1 (by omega) | exact ⟨by omega, by omega⟩ | exact fun z => absurd z.2 (by omega))
  · refine lv_iconst (v := iI (0)) hx hb dX1_goesOn_16 rfl ?_
    exact z_pret0 X hK hP hD hS dX1_goesOn_17 (by first | exact fun z => absurd z.1 (by omega) | exact ⟨by omega, by omega⟩ | exact fun z => absurd z.2 (by omega))

theorem hd_X1_lastOfTrill : yX1_lastOfTrill.cls = RX1 ∧ yX1_lastOfTrill.cls ≠ "java/lang/invoke/MethodHandle" ∧ yX1_lastOfTrill.cls ≠ "java/lang/invoke/VarHandle" ∧ (parseMethodDescriptor yX1_lastOfTrill.desc).map (fun d => d.parameters.length) = some 2 := by decide +kernel
set_option maxHeartbeats 4000000 in
set_option maxRecDepth 100000 in
theorem c_X1_lastOfTrill (I : okS nK st le be te ab bl ka bg ln ns me sc pi re bk) (f : Int) (e9 : Int) (h : 0 ≤ f ∧ f < e9 ∧ e9 ≤ 160) : MI l D cy yX1_lastOfTrill wsX1_lastOfTrill ({ frames := 2, cells := 0, slots := 0, locals := 43 } : Room) [.ref (q 9), .int (iI f), .int (iI e9)] (wT q cy nK st le be te ab bl ka bg ln ns me sc pi re bk pa lz go ss sm pf mf) (lot ka bg ln f e9) (wT q cy nK st le be te ab bl ka bg ln ns me sc pi re bk pa lz go ss sm pf mf) := by
  refine MI.ofW (cc := cX1_lastOfTrill) (maxL := 5) (ret := (some .int)) (by decide) rfl (Nat.le_of_ble_eq_true rfl) ?_
  intro p e s m below meth c A ls X hK hP hD hA hS hl
  obtain ⟨hx, hb, hml, hr, hts, hown, hlocks⟩ := id X
  have hl : lv_has ls 5 [(0, .ref (q 9)), (1, .int (iI f)), (2, .int (iI e9))] := hl
  have iK := I.nK
  refine lv_iload_n hx hb dX1_lastOfTrill_0 rfl (lv_at hl 1 rfl) ?_
  refine lv_istore_n (lv' := [(3, .int (iI f)), (0, .ref (q 9)), (1, .int (iI f)), (2, .int (iI e9))]) hx hb dX1_lastOfTrill_1 rfl hl (by decide) rfl (fun ls hl => ?_)
  refine lv_iload_n hx hb dX1_lastOfTrill_2 rfl (lv_at hl 2 rfl) ?_
  refine lv_iconst (v := iI (1)) hx hb dX1_lastOfTrill_3 rfl ?_
  refine z_iadd hx hb dX1_lastOfTrill_4 ?_
  refine lv_istore (lv' := [(4, .int (iI (f + 1))), (3, .int (iI f)), (0, .ref (q 9)), (1, .int (iI f)), (2, .int (iI e9))]) hx hb dX1_lastOfTrill_5 hl (by decide) rfl (fun ls hl => ?_)
  have L_7 : ∀ (n : Nat) (la : Int) (x9 : Int), (h0 : f + 1 ≤ x9 ∧ x9 ≤ e9 ∧ la = x9 - 1) → (hf : e9 - x9 < n) → (hr : ∀ x, f < x → x < x9 → goP ka bg ln f x) → ∀ (H : Heap) (locs : List Loc) (ls : Array Slot), va_P D vwCl (wT q cy nK st le be te ab bl ka bg ln ns me sc pi re bk pa lz go ss sm pf mf) H → va_D A (wT q cy nK st le be te ab bl ka bg ln ns me sc pi re bk pa lz go ss sm pf mf) → va_S A s.heap H locs → lv_has ls 5 [(4, .int (iI x9)), (3, .int (iI la)), (0, .ref (q 9)), (1, .int (iI f)), (2, .int (iI e9))] → W p l e ({ frames := 2, cells := 0, slots := 0, locals := 43 } : Room) s m [.ref (q 9), .int (iI f), .int (iI e9)].toArray below meth c H locs 0 0 (MQ below (zQi D cy (wT q cy nK st le be te ab bl ka bg ln ns me sc pi re bk pa lz go ss sm pf mf) A (lot ka bg ln f e9)) [.ref (q 9), .int (iI f), .int (iI e9)].toArray s 0 0 A) (F0 m 7 ls []) := by
    intro n
    induction n with
    | zero =>
      intro la x9 h0 hf hr
      exfalso; omega
    | succ n ih_7 =>
      intro la x9 h0 hf hr H locs ls hP hD hS hl
      refine lv_iload hx hb dX1_lastOfTrill_7 (lv_at hl 0 rfl) ?_
      refine lv_iload_n hx hb dX1_lastOfTrill_9 rfl (lv_at hl 4 rfl) ?_
      refine z_icmp_ge (tgt := 35) hx hb dX1_lastOfTrill_10 (by decide) (by omega) (fun c_1 => ?_) (fun c_1 => ?_)
      · refine lv_iload_n hx hb dX1_lastOfTrill_35 rfl (lv_at hl 1 rfl) ?_
        exact z_iret X hK hP hD hS dX1_lastOfTrill_36 (by first | exact (lot_eq ⟨by omega, by omega, fun x g1 g2 => hr x g1 (by omega), fun g => by omega⟩).symm | exact (lot_eq ⟨by omega, by omega, fun x g1 g2 => hr x g1 (by omega), fun g => by rw [show la + 1 = x9 by omega]; assumption⟩).symm)
      · refine lv_aload_n hx hb dX1_lastOfTrill_13 rfl (lv_at hl 2 rfl) ?_
        refine lv_iload_n hx hb dX1_lastOfTrill_14 rfl (lv_at hl 3 rfl) ?_
        refine lv_iload hx hb dX1_lastOfTrill_15 (lv_at hl 0 rfl) ?_
        refine z_callVi (ci := 1) (q0 := 9) (As := [.int (iI f), .int (iI x9)]) (rest := []) X hK hP hD hA hS hl.1 gX1_lastOfTrill_X1_goesOn rfl ⟨rfl, rfl⟩ hd_X1_goesOn ⟨Nat.le_of_ble_eq_true rfl, Nat.le_of_ble_eq_true rfl⟩ rfl rfl rfl (Nat.le_of_ble_eq_true rfl) ⟨Nat.zero_le _, Nat.zero_le _⟩ rfl dX1_lastOfTrill_17 (c_X1_goesOn I f x9 (by omega)) (fun H locs hP hD hS => ?_)
        refine z_ifp_ne (tgt := 26) hx hb dX1_lastOfTrill_20 (by decide) (fun c_2 => ?_) (fun c_2 => ?_)
        · refine lv_iload hx hb dX1_lastOfTrill_26 (lv_at hl 0 rfl) ?_
          refine lv_istore_n (lv' := [(3, .int (iI x9)), (4, .int (iI x9)), (0, .ref (q 9)), (1, .int (iI f)), (2, .int (iI e9))]) hx hb dX1_lastOfTrill_28 rfl hl (by decide) rfl (fun ls hl => ?_)
          refine lv_iinc (v := iI (x9 + 1)) (lv' := [(4, .int (iI (x9 + 1))), (3, .int (iI x9)), (0, .ref (q 9)), (1, .int (iI f)), (2, .int (iI e9))]) hx hb dX1_lastOfTrill_29 hl (k := 1) rfl (iI_add _ _) (by decide) rfl (fun ls hl => ?_)
          refine lv_goto (tgt := 7) hx hb dX1_lastOfTrill_32 (by decide) ?_
          exact ih_7 x9 (x9 + 1) (by omega) (by omega) (fun x g1 g2 => by rcases (show x < x9 ∨ x = x9 by omega) with g | g; exact hr x g1 g; rw [g]; assumption) _ _ _ hP hD hS (lv_sub hl [0, 1, 2, 3, 4] rfl)
        · refine lv_goto (tgt := 35) hx hb dX1_lastOfTrill_23 (by decide) ?_
          refine lv_iload_n hx hb dX1_lastOfTrill_35 rfl (lv_at hl 1 rfl) ?_
          exact z_iret X hK hP hD hS dX1_lastOfTrill_36 (by first | exact (lot_eq ⟨by omega, by omega, fun x g1 g2 => hr x g1 (by omega), fun g => by omega⟩).symm | exact (lot_eq ⟨by omega, by omega, fun x g1 g2 => hr x g1 (by omega), fun g => by rw [show la + 1 = x9 by omega]; assumption⟩).symm)
  exact L_7 161 f (f + 1) (by omega) (by omega) (fun x _ _ => by omega) _ _ _ hP hD hS (lv_sub hl [0, 1, 2, 3, 4] rfl)

theorem hd_X1_countTrills : yX1_countTrills.cls = RX1 ∧ yX1_countTrills.cls ≠ "java/lang/invoke/MethodHandle" ∧ yX1_countTrills.cls ≠ "java/lang/invoke/VarHandle" ∧ (parseMethodDescriptor yX1_countTrills.desc).map (fun d => d.parameters.length) = some 2 := by decide +kernel
set_option maxHeartbeats 4000000 in
set_option maxRecDepth 100000 in
theorem c_X1_countTrills (I : okS nK st le be te ab bl ka bg ln ns me sc pi re bk) (p9 : Int) (bad : Bool) (h : 0 ≤ p9 ∧ p9 ≤ 3) : MI l D cy yX1_countTrills wsX1_countTrills ({ frames := 3, cells := 0, slots := 0, locals := 67 } : Room) [.ref (q 9), .int (iI p9), .int (iI (bZ bad))] (wT q cy nK st le be te ab bl ka bg ln ns me sc pi re bk pa lz go ss sm pf mf) (trF nK st ka bg ln bad (p9 * 40) (p9 * 40 + ns p9)) (wT q cy nK st le be te ab bl ka bg ln ns me sc pi re bk pa lz go ss sm pf mf) := by
  refine MI.ofW (cc := cX1_countTrills) (maxL := 6) (ret := (some .int)) (by decide) rfl (Nat.le_of_ble_eq_true rfl) ?_
  intro p e s m below meth c A ls X hK hP hD hA hS hl
  obtain ⟨hx, hb, hml, hr, hts, hown, hlocks⟩ := id X
  have hl : lv_has ls 6 [(0, .ref (q 9)), (1, .int (iI p9)), (2, .int (iI (bZ bad)))] := hl
  have f_24 := hts (Cond.fieldLink RX1 24 "TwoKeys$Music" "board" "LTwoKeys$Board;") (by decide +kernel)
  have f_9 := hts (Cond.fieldLink RX1 9 "TwoKeys$Music" "keyAt" "[I") (by decide +kernel)
  have n_X1 : ∀ w ∈ u_ws RX1 TX1 5, w ∈ wsX1_countTrills := by decide +kernel
  have iK := I.nK
  have i7 := I.ns p9
  refine lv_iconst (v := iI (0)) hx hb dX1_countTrills_0 rfl ?_
  refine lv_istore_n (lv' := [(3, .int (iI 0)), (0, .ref (q 9)), (1, .int (iI p9)), (2, .int (iI (bZ bad)))]) hx hb dX1_countTrills_1 rfl hl (by decide) rfl (fun ls hl => ?_)
  refine lv_aload_n hx hb dX1_countTrills_2 rfl (lv_at hl 1 rfl) ?_
  refine lv_iload_n hx hb dX1_countTrills_3 rfl (lv_at hl 2 rfl) ?_
  refine z_callVi (ci := 1) (q0 := 9) (As := [.int (iI p9)]) (rest := []) X hK hP hD hA hS hl.1 gX1_countTrills_X1_startOf rfl ⟨rfl, rfl⟩ hd_X1_startOf ⟨Nat.le_of_ble_eq_true rfl, Nat.le_of_ble_eq_true rfl⟩ rfl rfl rfl (Nat.le_of_ble_eq_true rfl) ⟨Nat.zero_le _, Nat.zero_le _⟩ rfl dX1_countTrills_4 (c_X1_startOf p9) (fun H locs hP hD hS => ?_)
  refine lv_istore (lv' := [(4, .int (iI (p9 * 40))), (3, .int (iI 0)), (0, .ref (q 9)), (1, .int (iI p9)), (2, .int (iI (bZ bad)))]) hx hb dX1_countTrills_7 hl (by decide) rfl (fun ls hl => ?_)
  have L_9 : ∀ (n : Nat) (acc : Int) (f : Int), (h0 : p9 * 40 ≤ f ∧ f ≤ p9 * 40 + ns p9) → (hf : p9 * 40 + ns p9 - f < n) → (hr : trN (fun f => lot ka bg ln f (p9 * 40 + ns p9)) (trB nK st ka bad) (p9 * 40 + ns p9) n f acc = trF nK st ka bg ln bad (p9 * 40) (p9 * 40 + ns p9)) → ∀ (H : Heap) (locs : List Loc) (ls : Array Slot), va_P D vwCl (wT q cy nK st le be te ab bl ka bg ln ns me sc pi re bk pa lz go ss sm pf mf) H → va_D A (wT q cy nK st le be te ab bl ka bg ln ns me sc pi re bk pa lz go ss sm pf mf) → va_S A s.heap H locs → lv_has ls 6 [(4, .int (iI f)), (3, .int (iI acc)), (0, .ref (q 9)), (1, .int (iI p9)), (2, .int (iI (bZ bad)))] → W p l e ({ frames := 3, cells := 0, slots := 0, locals := 67 } : Room) s m [.ref (q 9), .int (iI p9), .int (iI (bZ bad))].toArray below meth c H locs 0 0 (MQ below (zQi D cy (wT q cy nK st le be te ab bl ka bg ln ns me sc pi re bk pa lz go ss sm pf mf) A (trF nK st ka bg ln bad (p9 * 40) (p9 * 40 + ns p9))) [.ref (q 9), .int (iI p9), .int (iI (bZ bad))].toArray s 0 0 A) (F0 m 9 ls []) := by
    intro n
    induction n with
    | zero =>
      intro acc f h0 hf hr
      exfalso; omega
    | succ n ih_9 =>
      intro acc f h0 hf hr H locs ls hP hD hS hl
      refine lv_iload hx hb dX1_countTrills_9 (lv_at hl 0 rfl) ?_
      refine lv_aload_n hx hb dX1_countTrills_11 rfl (lv_at hl 2 rfl) ?_
      refine lv_iload_n hx hb dX1_countTrills_12 rfl (lv_at hl 3 rfl) ?_
      refine z_callVi (ci := 1) (q0 := 9) (As := [.int (iI p9)]) (rest := [.int (iI f)]) X hK hP hD hA hS hl.1 gX1_countTrills_X1_endOf rfl ⟨rfl, rfl⟩ hd_X1_endOf ⟨Nat.le_of_ble_eq_true rfl, Nat.le_of_ble_eq_true rfl⟩ rfl rfl rfl (Nat.le_of_ble_eq_true rfl) ⟨Nat.zero_le _, Nat.zero_le _⟩ rfl dX1_countTrills_13 (c_X1_endOf I p9 (by omega)) (fun H locs hP hD hS => ?_)
      refine z_icmp_ge (tgt := 91) hx hb dX1_countTrills_16 (by decide) (by omega) (fun c_1 => ?_) (fun c_1 => ?_)
      · refine lv_iload_n hx hb dX1_countTrills_91 rfl (lv_at hl 1 rfl) ?_
        exact z_iret X hK hP hD hS dX1_countTrills_92 (by rw [← hr, trN_end (by omega)])
      · refine lv_aload_n hx hb dX1_countTrills_19 rfl (lv_at hl 2 rfl) ?_
        refine lv_iload hx hb dX1_countTrills_20 (lv_at hl 0 rfl) ?_
        refine lv_aload_n hx hb dX1_countTrills_22 rfl (lv_at hl 2 rfl) ?_
        refine lv_iload_n hx hb dX1_countTrills_23 rfl (lv_at hl 3 rfl) ?_
        refine z_callVi (ci := 1) (q0 := 9) (As := [.int (iI p9)]) (rest := [.int (iI f), .ref (q 9)]) X hK hP hD hA hS hl.1 gX1_countTrills_X1_endOf rfl ⟨rfl, rfl⟩ hd_X1_endOf ⟨Nat.le_of_ble_eq_true rfl, Nat.le_of_ble_eq_true rfl⟩ rfl rfl rfl (Nat.le_of_ble_eq_true rfl) ⟨Nat.zero_le _, Nat.zero_le _⟩ rfl dX1_countTrills_24 (c_X1_endOf I p9 (by omega)) (fun H locs hP hD hS => ?_)
        refine z_callVi (ci := 1) (q0 := 9) (As := [.int (iI f), .int (iI (p9 * 40 + ns p9))]) (rest := []) X hK hP hD hA hS hl.1 gX1_countTrills_X1_lastOfTrill rfl ⟨rfl, rfl⟩ hd_X1_lastOfTrill ⟨Nat.le_of_ble_eq_true rfl, Nat.le_of_ble_eq_true rfl⟩ rfl rfl rfl (Nat.le_of_ble_eq_true rfl) ⟨Nat.zero_le _, Nat.zero_le _⟩ rfl dX1_countTrills_27 (c_X1_lastOfTrill I f (p9 * 40 + ns p9) (by omega)) (fun H locs hP hD hS => ?_)
        refine lv_istore (lv' := [(5, .int (iI (lot ka bg ln f (p9 * 40 + ns p9)))), (4, .int (iI f)), (3, .int (iI acc)), (0, .ref (q 9)), (1, .int (iI p9)), (2, .int (iI (bZ bad)))]) hx hb dX1_countTrills_30 hl (by decide) rfl (fun ls hl => ?_)
        have lq := lot_is (ka := ka) (bg := bg) (ln := ln) (f := f) (e := p9 * 40 + ns p9) (by omega)
        have lq1 := lq.1
        have lq2 := lq.2.1
        refine lv_iload hx hb dX1_countTrills_32 (lv_at hl 0 rfl) ?_
        refine lv_iload hx hb dX1_countTrills_34 (lv_at hl 1 rfl) ?_
        refine z_isub hx hb dX1_countTrills_36 ?_
        refine lv_iconst (v := iI (1)) hx hb dX1_countTrills_37 rfl ?_
        refine z_iadd hx hb dX1_countTrills_38 ?_
        refine lv_iconst (v := iI (4)) hx hb dX1_countTrills_39 rfl ?_
        refine z_icmp_ge (tgt := 46) hx hb dX1_countTrills_40 (by decide) (by omega) (fun c_2 => ?_) (fun c_2 => ?_)
        · refine lv_iload_n hx hb dX1_countTrills_46 rfl (lv_at hl 5 rfl) ?_
          refine z_ifb_eq (tgt := 76) hx hb dX1_countTrills_47 (by decide) (fun c_3 => ?_) (fun c_3 => ?_)
          · refine lv_iinc (v := iI (acc + 1)) (lv' := [(3, .int (iI (acc + 1))), (5, .int (iI (lot ka bg ln f (p9 * 40 + ns p9)))), (4, .int (iI f)), (0, .ref (q 9)), (1, .int (iI p9)), (2, .int (iI (bZ bad)))]) hx hb dX1_countTrills_76 hl (k := 2) rfl (iI_add _ _) (by decide) rfl (fun ls hl => ?_)
            refine lv_iload hx hb dX1_countTrills_79 (lv_at hl 1 rfl) ?_
            refine lv_iconst (v := iI (1)) hx hb dX1_countTrills_81 rfl ?_
            refine z_isub hx hb dX1_countTrills_82 ?_
            refine lv_istore (lv' := [(4, .int (iI ((lot ka bg ln f (p9 * 40 + ns p9)) - 1))), (3, .int (iI (acc + 1))), (5, .int (iI (lot ka bg ln f (p9 * 40 + ns p9)))), (0, .ref (q 9)), (1, .int (iI p9)), (2, .int (iI (bZ bad)))]) hx hb dX1_countTrills_83 hl (by decide) rfl (fun ls hl => ?_)
            refine lv_iinc (v := iI (((lot ka bg ln f (p9 * 40 + ns p9)) - 1) + 1)) (lv' := [(4, .int (iI (((lot ka bg ln f (p9 * 40 + ns p9)) - 1) + 1))), (3, .int (iI (acc + 1))), (5, .int (iI (lot ka bg ln f (p9 * 40 + ns p9)))), (0, .ref (q 9)), (1, .int (iI p9)), (2, .int (iI (bZ bad)))]) hx hb dX1_countTrills_85 hl (k := 0) rfl (iI_add _ _) (by decide) rfl (fun ls hl => ?_)
            refine lv_goto (tgt := 9) hx hb dX1_countTrills_88 (by decide) ?_
            exact ih_9 (acc + 1) (((lot ka bg ln f (p9 * 40 + ns p9)) - 1) + 1) (by omega) (by omega) (by first | (rw [← hr, trN_short (by omega) (by show lot ka bg ln f (p9 * 40 + ns p9) - f < 3; omega)]; done) | (rw [show lot ka bg ln f (p9 * 40 + ns p9) - 1 + 1 = lot ka bg ln f (p9 * 40 + ns p9) by omega, ← hr, trN_long (by omega) (by show 3 ≤ lot ka bg ln f (p9 * 40 + ns p9) - f; omega)]; unfold trB; first | (rw [if_pos (by assumption), bP_1 (by assumption)]; done) | (rw [if_pos (by assumption), bP_0 (by assumption), Int.add_zero]; done) | (rw [if_neg (by simp_all)]; done))) _ _ _ hP hD hS (lv_sub hl [0, 1, 3, 4, 5] rfl)
          · refine lv_aload_n hx hb dX1_countTrills_50 rfl (lv_at hl 3 rfl) ?_
            refine va_get (D := D) (ci := 1) (v := .ref (q 1)) (C := RX1) (T := TX1) (N := 5) hx hb hts n_X1 hown hK hP 9 rfl rfl 0 (by decide) f_24 (fun _ h9 => h9) rfl dX1_countTrills_51 ?_
            refine lv_aload_n hx hb dX1_countTrills_54 rfl (lv_at hl 3 rfl) ?_
            refine va_get (D := D) (ci := 1) (v := .ref (q 10)) (C := RX1) (T := TX1) (N := 5) hx hb hts n_X1 hown hK hP 9 rfl rfl 1 (by decide) f_9 (fun _ h9 => h9) rfl dX1_countTrills_55 ?_
            refine lv_iload hx hb dX1_countTrills_58 (lv_at hl 1 rfl) ?_
            refine z_iald hx hb hK hP 10 0 rfl rfl (by omega) dX1_countTrills_60 ?_
            have b_4 := I.ka f
            refine lv_aload_n hx hb dX1_countTrills_61 rfl (lv_at hl 3 rfl) ?_
            refine va_get (D := D) (ci := 1) (v := .ref (q 10)) (C := RX1) (T := TX1) (N := 5) hx hb hts n_X1 hown hK hP 9 rfl rfl 1 (by decide) f_9 (fun _ h9 => h9) rfl dX1_countTrills_62 ?_
            refine lv_iload hx hb dX1_countTrills_65 (lv_at hl 1 rfl) ?_
            refine lv_iconst (v := iI (1)) hx hb dX1_countTrills_67 rfl ?_
            refine z_iadd hx hb dX1_countTrills_68 ?_
            refine z_iald hx hb hK hP 10 0 rfl rfl (by omega) dX1_countTrills_69 ?_
            have b_5 := I.ka (f + 1)
            refine z_callVi (ci := 0) (q0 := 1) (As := [.int (iI (ka f)), .int (iI (ka (f + 1)))]) (rest := []) X hK hP hD hA hS hl.1 gX1_countTrills_X0_doShare rfl ⟨rfl, rfl⟩ hd_X0_doShare ⟨Nat.le_of_ble_eq_true rfl, Nat.le_of_ble_eq_true rfl⟩ rfl rfl rfl (Nat.le_of_ble_eq_true rfl) ⟨Nat.zero_le _, Nat.zero_le _⟩ rfl dX1_countTrills_70 (c_X0_doShare I (ka f) (ka (f + 1)) (by omega)) (fun H locs hP hD hS => ?_)
            refine z_ifp_eq (tgt := 79) hx hb dX1_countTrills_73 (by decide) (fun c_6 => ?_) (fun c_6 => ?_)
            · refine lv_iload hx hb dX1_countTrills_79 (lv_at hl 0 rfl) ?_
              refine lv_iconst (v := iI (1)) hx hb dX1_countTrills_81 rfl ?_
              refine z_isub hx hb dX1_countTrills_82 ?_
              refine lv_istore (lv' := [(4, .int (iI ((lot ka bg ln f (p9 * 40 + ns p9)) - 1))), (5, .int (iI (lot ka bg ln f (p9 * 40 + ns p9)))), (3, .int (iI acc)), (0, .ref (q 9)), (1, .int (iI p9)), (2, .int (iI (bZ bad)))]) hx hb dX1_countTrills_83 hl (by decide) rfl (fun ls hl => ?_)
              refine lv_iinc (v := iI (((lot ka bg ln f (p9 * 40 + ns p9)) - 1) + 1)) (lv' := [(4, .int (iI (((lot ka bg ln f (p9 * 40 + ns p9)) - 1) + 1))), (5, .int (iI (lot ka bg ln f (p9 * 40 + ns p9)))), (3, .int (iI acc)), (0, .ref (q 9)), (1, .int (iI p9)), (2, .int (iI (bZ bad)))]) hx hb dX1_countTrills_85 hl (k := 0) rfl (iI_add _ _) (by decide) rfl (fun ls hl => ?_)
              refine lv_goto (tgt := 9) hx hb dX1_countTrills_88 (by decide) ?_
              exact ih_9 acc (((lot ka bg ln f (p9 * 40 + ns p9)) - 1) + 1) (by omega) (by omega) (by first | (rw [← hr, trN_short (by omega) (by show lot ka bg ln f (p9 * 40 + ns p9) - f < 3; omega)]; done) | (rw [show lot ka bg ln f (p9 * 40 + ns p9) - 1 + 1 = lot ka bg ln f (p9 * 40 + ns p9) by omega, ← hr, trN_long (by omega) (by show 3 ≤ lot ka bg ln f (p9 * 40 + ns p9) - f; omega)]; unfold trB; first | (rw [if_pos (by assumption), bP_1 (by assumption)]; done) | (rw [if_pos (by assumption), bP_0 (by assumption), Int.add_zero]; done) | (rw [if_neg (by simp_all)]; done))) _ _ _ hP hD hS (lv_sub hl [0, 2, 3, 4, 5] rfl)
            · refine lv_iinc (v := iI (acc + 1)) (lv' := [(3, .int (iI (acc + 1))), (5, .int (iI (lot ka bg ln f (p9 * 40 + ns p9)))), (4, .int (iI f)), (0, .ref (q 9)), (1, .int (iI p9)), (2, .int (iI (bZ bad)))]) hx hb dX1_countTrills_76 hl (k := 2) rfl (iI_add _ _) (by decide) rfl (fun ls hl => ?_)
              refine lv_iload hx hb dX1_countTrills_79 (lv_at hl 1 rfl) ?_
              refine lv_iconst (v := iI (1)) hx hb dX1_countTrills_81 rfl ?_
              refine z_isub hx hb dX1_countTrills_82 ?_
              refine lv_istore (lv' := [(4, .int (iI ((lot ka bg ln f (p9 * 40 + ns p9)) - 1))), (3, .int (iI (acc + 1))), (5, .int (iI (lot ka bg ln f (p9 * 40 + ns p9)))), (0, .ref (q 9)), (1, .int (iI p9)), (2, .int (iI (bZ bad)))]) hx hb dX1_countTrills_83 hl (by decide) rfl (fun ls hl => ?_)
              refine lv_iinc (v := iI (((lot ka bg ln f (p9 * 40 + ns p9)) - 1) + 1)) (lv' := [(4, .int (iI (((lot ka bg ln f (p9 * 40 + ns p9)) - 1) + 1))), (3, .int (iI (acc + 1))), (5, .int (iI (lot ka bg ln f (p9 * 40 + ns p9)))), (0, .ref (q 9)), (1, .int (iI p9)), (2, .int (iI (bZ bad)))]) hx hb dX1_countTrills_85 hl (k := 0) rfl (iI_add _ _) (by decide) rfl (fun ls hl => ?_)
              refine lv_goto (tgt := 9) hx hb dX1_countTrills_88 (by decide) ?_
              exact ih_9 (acc + 1) (((lot ka bg ln f (p9 * 40 + ns p9)) - 1) + 1) (by omega) (by omega) (by first | (rw [← hr, trN_short (by omega) (by show lot ka bg ln f (p9 * 40 + ns p9) - f < 3; omega)]; done) | (rw [show lot ka bg ln f (p9 * 40 + ns p9) - 1 + 1 = lot ka bg ln f (p9 * 40 + ns p9) by omega, ← hr, trN_long (by omega) (by show 3 ≤ lot ka bg ln f (p9 * 40 + ns p9) - f; omega)]; unfold trB; first | (rw [if_pos (by assumption), bP_1 (by assumption)]; done) | (rw [if_pos (by assumption), bP_0 (by assumption), Int.add_zero]; done) | (rw [if_neg (by simp_all)]; done))) _ _ _ hP hD hS (lv_sub hl [0, 1, 3, 4, 5] rfl)
        · refine lv_goto (tgt := 85) hx hb dX1_countTrills_43 (by decide) ?_
          refine lv_iinc (v := iI (f + 1)) (lv' := [(4, .int (iI (f + 1))), (5, .int (iI (lot ka bg ln f (p9 * 40 + ns p9)))), (3, .int (iI acc)), (0, .ref (q 9)), (1, .int (iI p9)), (2, .int (iI (bZ bad)))]) hx hb dX1_countTrills_85 hl (k := 1) rfl (iI_add _ _) (by decide) rfl (fun ls hl => ?_)
          refine lv_goto (tgt := 9) hx hb dX1_countTrills_88 (by decide) ?_
          exact ih_9 acc (f + 1) (by omega) (by omega) (by first | (rw [← hr, trN_short (by omega) (by show lot ka bg ln f (p9 * 40 + ns p9) - f < 3; omega)]; done) | (rw [show lot ka bg ln f (p9 * 40 + ns p9) - 1 + 1 = lot ka bg ln f (p9 * 40 + ns p9) by omega, ← hr, trN_long (by omega) (by show 3 ≤ lot ka bg ln f (p9 * 40 + ns p9) - f; omega)]; unfold trB; first | (rw [if_pos (by assumption), bP_1 (by assumption)]; done) | (rw [if_pos (by assumption), bP_0 (by assumption), Int.add_zero]; done) | (rw [if_neg (by simp_all)]; done))) _ _ _ hP hD hS (lv_sub hl [0, 2, 3, 4, 5] rfl)
  exact L_9 41 0 (p9 * 40) (by omega) (by omega) rfl _ _ _ hP hD hS (lv_sub hl [0, 1, 2, 3, 4] rfl)

theorem hd_X5_trills : yX5_trills.cls = RX5 ∧ yX5_trills.cls ≠ "java/lang/invoke/MethodHandle" ∧ yX5_trills.cls ≠ "java/lang/invoke/VarHandle" ∧ (parseMethodDescriptor yX5_trills.desc).map (fun d => d.parameters.length) = some 2 := by decide +kernel
set_option maxHeartbeats 4000000 in
set_option maxRecDepth 100000 in
theorem c_X5_trills (I : okS nK st le be te ab bl ka bg ln ns me sc pi re bk) (p9 : Int) (bad : Bool) (h : -2147483648 ≤ p9 ∧ p9 ≤ 2147483647) : MI l D cy yX5_trills wsX5_trills ({ frames := 4, cells := 0, slots := 0, locals := 92 } : Room) [.ref (q 0), .int (iI p9), .int (iI (bZ bad))] (wT q cy nK st le be te ab bl ka bg ln ns me sc pi re bk pa lz go ss sm pf mf) (if 0 ≤ p9 ∧ p9 ≤ 3 then trF nK st ka bg ln bad (p9 * 40) (p9 * 40 + ns p9) else (-100001)) (wT q cy nK st le be te ab bl ka bg ln ns me sc pi re bk pa lz go ss sm pf mf) := by
  refine MI.ofW (cc := cX5_trills) (maxL := 3) (ret := (some .int)) (by decide) rfl (Nat.le_of_ble_eq_true rfl) ?_
  intro p e s m below meth c A ls X hK hP hD hA hS hl
  obtain ⟨hx, hb, hml, hr, hts, hown, hlocks⟩ := id X
  have hl : lv_has ls 3 [(0, .ref (q 0)), (1, .int (iI p9)), (2, .int (iI (bZ bad)))] := hl
  have f_41 := hts (Cond.fieldLink RX5 41 "TwoKeys" "music" "LTwoKeys$Music;") (by decide +kernel)
  have k_76 := hts (Cond.constant RX5 76 (-100001)) (by decide +kernel)
  have n_X5 : ∀ w ∈ u_ws RX5 TX5 9, w ∈ wsX5_trills := by decide +kernel
  have iK := I.nK
  refine lv_iload_n hx hb dX5_trills_0 rfl (lv_at hl 1 rfl) ?_
  refine z_callSi (As := [.int (iI p9)]) (rest := []) X hK hP hD hA hS hl.1 gX5_trills_X5_isPiece rfl ⟨rfl, rfl⟩ hd_X5_isPiece ⟨Nat.le_of_ble_eq_true rfl, Nat.le_of_ble_eq_true rfl⟩ rfl (Nat.le_of_ble_eq_true rfl) ⟨Nat.zero_le _, Nat.zero_le _⟩ rfl dX5_trills_1 (c_X5_isPiece p9 (by omega)) (fun H locs hP hD hS => ?_)
  refine z_ifp_ne (tgt := 10) hx hb dX5_trills_4 (by decide) (fun c_1 => ?_) (fun c_1 => ?_)
  · refine lv_aload_n hx hb dX5_trills_10 rfl (lv_at hl 0 rfl) ?_
    refine va_get (D := D) (ci := 5) (v := .ref (q 9)) (C := RX5) (T := TX5) (N := 9) hx hb hts n_X5 hown hK hP 0 rfl rfl 2 (by decide) f_41 (fun _ h9 => h9) rfl dX5_trills_11 ?_
    refine lv_iload_n hx hb dX5_trills_14 rfl (lv_at hl 1 rfl) ?_
    refine lv_iload_n hx hb dX5_trills_15 rfl (lv_at hl 2 rfl) ?_
    refine z_callVi (ci := 1) (q0 := 9) (As := [.int (iI p9), .int (iI (bZ bad))]) (rest := []) X hK hP hD hA hS hl.1 gX5_trills_X1_countTrills rfl ⟨rfl, rfl⟩ hd_X1_countTrills ⟨Nat.le_of_ble_eq_true rfl, Nat.le_of_ble_eq_true rfl⟩ rfl rfl rfl (Nat.le_of_ble_eq_true rfl) ⟨Nat.zero_le _, Nat.zero_le _⟩ rfl dX5_trills_16 (c_X1_countTrills I p9 bad (by omega)) (fun H locs hP hD hS => ?_)
    exact z_iret X hK hP hD hS dX5_trills_19 (by (repeat' split) <;> first | rfl | omega)
  · refine z_ldc (n := -100001) hx hb hown k_76 (by decide) dX5_trills_7 ?_
    exact z_iret X hK hP hD hS dX5_trills_9 (by (repeat' split) <;> first | rfl | omega)

theorem hd_X1_keyHeard : yX1_keyHeard.cls = RX1 ∧ yX1_keyHeard.cls ≠ "java/lang/invoke/MethodHandle" ∧ yX1_keyHeard.cls ≠ "java/lang/invoke/VarHandle" ∧ (parseMethodDescriptor yX1_keyHeard.desc).map (fun d => d.parameters.length) = some 3 := by decide +kernel
set_option maxHeartbeats 4000000 in
set_option maxRecDepth 100000 in
theorem c_X1_keyHeard (I : okS nK st le be te ab bl ka bg ln ns me sc pi re bk) (p9 : Int) (s9 : Int) (t9 : Int) (h : 0 ≤ p9 ∧ p9 ≤ 3) (h2 : -2147483648 ≤ s9 ∧ s9 ≤ 2147483647 ∧ -2147483648 ≤ t9 ∧ t9 ≤ 2147483647) : MI l D cy yX1_keyHeard wsX1_keyHeard ({ frames := 2, cells := 0, slots := 0, locals := 45 } : Room) [.ref (q 9), .int (iI p9), .int (iI s9), .int (iI t9)] (wT q cy nK st le be te ab bl ka bg ln ns me sc pi re bk pa lz go ss sm pf mf) (hdF nK st le be ka bg ln s9 t9 (p9 * 40) (p9 * 40 + ns p9)) (wT q cy nK st le be te ab bl ka bg ln ns me sc pi re bk pa lz go ss sm pf mf) := by
  refine MI.ofW (cc := cX1_keyHeard) (maxL := 7) (ret := (some .int)) (by decide) rfl (Nat.le_of_ble_eq_true rfl) ?_
  intro p e s m below meth c A ls X hK hP hD hA hS hl
  obtain ⟨hx, hb, hml, hr, hts, hown, hlocks⟩ := id X
  have hl : lv_has ls 7 [(0, .ref (q 9)), (1, .int (iI p9)), (2, .int (iI s9)), (3, .int (iI t9))] := hl
  have k_50 := hts (Cond.constant RX1 50 (-100009)) (by decide +kernel)
  have f_9 := hts (Cond.fieldLink RX1 9 "TwoKeys$Music" "keyAt" "[I") (by decide +kernel)
  have f_24 := hts (Cond.fieldLink RX1 24 "TwoKeys$Music" "board" "LTwoKeys$Board;") (by decide +kernel)
  have n_X1 : ∀ w ∈ u_ws RX1 TX1 5, w ∈ wsX1_keyHeard := by decide +kernel
  have iK := I.nK
  have i7 := I.ns p9
  refine lv_iconst (v := iI (-1)) hx hb dX1_keyHeard_0 rfl ?_
  refine lv_istore (lv' := [(4, .int (iI (-1))), (0, .ref (q 9)), (1, .int (iI p9)), (2, .int (iI s9)), (3, .int (iI t9))]) hx hb dX1_keyHeard_1 hl (by decide) rfl (fun ls hl => ?_)
  refine lv_aload_n hx hb dX1_keyHeard_3 rfl (lv_at hl 1 rfl) ?_
  refine lv_iload_n hx hb dX1_keyHeard_4 rfl (lv_at hl 2 rfl) ?_
  refine z_callVi (ci := 1) (q0 := 9) (As := [.int (iI p9)]) (rest := []) X hK hP hD hA hS hl.1 gX1_keyHeard_X1_startOf rfl ⟨rfl, rfl⟩ hd_X1_startOf ⟨Nat.le_of_ble_eq_true rfl, Nat.le_of_ble_eq_true rfl⟩ rfl rfl rfl (Nat.le_of_ble_eq_true rfl) ⟨Nat.zero_le _, Nat.zero_le _⟩ rfl dX1_keyHeard_5 (c_X1_startOf p9) (fun H locs hP hD hS => ?_)
  refine lv_istore (lv' := [(5, .int (iI (p9 * 40))), (4, .int (iI (-1))), (0, .ref (q 9)), (1, .int (iI p9)), (2, .int (iI s9)), (3, .int (iI t9))]) hx hb dX1_keyHeard_8 hl (by decide) rfl (fun ls hl => ?_)
  have L_10 : ∀ (n : Nat) (nr : Int) (a : Int), (h0 : p9 * 40 ≤ a ∧ a ≤ p9 * 40 + ns p9) → (hf : p9 * 40 + ns p9 - a < n) → (hr : hdI (hdF nK st le be ka bg ln s9 t9 (p9 * 40) a) nr) → (hn : -1 ≤ nr ∧ nr < 24) → ∀ (H : Heap) (locs : List Loc) (ls : Array Slot), va_P D vwCl (wT q cy nK st le be te ab bl ka bg ln ns me sc pi re bk pa lz go ss sm pf mf) H → va_D A (wT q cy nK st le be te ab bl ka bg ln ns me sc pi re bk pa lz go ss sm pf mf) → va_S A s.heap H locs → lv_has ls 7 [(5, .int (iI a)), (4, .int (iI nr)), (0, .ref (q 9)), (1, .int (iI p9)), (2, .int (iI s9)), (3, .int (iI t9))] → W p l e ({ frames := 2, cells := 0, slots := 0, locals := 45 } : Room) s m [.ref (q 9), .int (iI p9), .int (iI s9), .int (iI t9)].toArray below meth c H locs 0 0 (MQ below (zQi D cy (wT q cy nK st le be te ab bl ka bg ln ns me sc pi re bk pa lz go ss sm pf mf) A (hdF nK st le be ka bg ln s9 t9 (p9 * 40) (p9 * 40 + ns p9))) [.ref (q 9), .int (iI p9), .int (iI s9), .int (iI t9)].toArray s 0 0 A) (F0 m 10 ls []) := by
    intro n
    induction n with
    | zero =>
      intro nr a h0 hf hr hn
      exfalso; omega
    | succ n ih_10 =>
      intro nr a h0 hf hr hn H locs ls hP hD hS hl
      refine lv_iload hx hb dX1_keyHeard_10 (lv_at hl 0 rfl) ?_
      refine lv_aload_n hx hb dX1_keyHeard_12 rfl (lv_at hl 2 rfl) ?_
      refine lv_iload_n hx hb dX1_keyHeard_13 rfl (lv_at hl 3 rfl) ?_
      refine z_callVi (ci := 1) (q0 := 9) (As := [.int (iI p9)]) (rest := [.int (iI a)]) X hK hP hD hA hS hl.1 gX1_keyHeard_X1_endOf rfl ⟨rfl, rfl⟩ hd_X1_endOf ⟨Nat.le_of_ble_eq_true rfl, Nat.le_of_ble_eq_true rfl⟩ rfl rfl rfl (Nat.le_of_ble_eq_true rfl) ⟨Nat.zero_le _, Nat.zero_le _⟩ rfl dX1_keyHeard_14 (c_X1_endOf I p9 (by omega)) (fun H locs hP hD hS => ?_)
      refine z_icmp_ge (tgt := 85) hx hb dX1_keyHeard_17 (by decide) (by omega) (fun c_1 => ?_) (fun c_1 => ?_)
      · refine lv_iload hx hb dX1_keyHeard_85 (lv_at hl 1 rfl) ?_
        refine lv_iconst (v := iI (-1)) hx hb dX1_keyHeard_87 rfl ?_
        refine z_icmp_ne (tgt := 96) hx hb dX1_keyHeard_88 (by decide) (by omega) (fun c_2 => ?_) (fun c_2 => ?_)
        · refine lv_iload hx hb dX1_keyHeard_96 (lv_at hl 1 rfl) ?_
          exact z_iret X hK hP hD hS dX1_keyHeard_98 (by rw [show p9 * 40 + ns p9 = a by omega]; unfold hdI at hr; omega)
        · refine z_ldc (n := -100009) hx hb hown k_50 (by decide) dX1_keyHeard_91 ?_
          refine lv_goto (tgt := 98) hx hb dX1_keyHeard_93 (by decide) ?_
          exact z_iret X hK hP hD hS dX1_keyHeard_98 (by rw [show p9 * 40 + ns p9 = a by omega]; unfold hdI at hr; omega)
      · refine lv_aload_n hx hb dX1_keyHeard_20 rfl (lv_at hl 2 rfl) ?_
        refine va_get (D := D) (ci := 1) (v := .ref (q 10)) (C := RX1) (T := TX1) (N := 5) hx hb hts n_X1 hown hK hP 9 rfl rfl 1 (by decide) f_9 (fun _ h9 => h9) rfl dX1_keyHeard_21 ?_
        refine lv_iload hx hb dX1_keyHeard_24 (lv_at hl 0 rfl) ?_
        refine z_iald hx hb hK hP 10 0 rfl rfl (by omega) dX1_keyHeard_26 ?_
        have b_3 := I.ka a
        refine lv_istore (lv' := [(6, .int (iI (ka a))), (5, .int (iI a)), (4, .int (iI nr)), (0, .ref (q 9)), (1, .int (iI p9)), (2, .int (iI s9)), (3, .int (iI t9))]) hx hb dX1_keyHeard_27 hl (by decide) rfl (fun ls hl => ?_)
        refine lv_aload_n hx hb dX1_keyHeard_29 rfl (lv_at hl 3 rfl) ?_
        refine va_get (D := D) (ci := 1) (v := .ref (q 1)) (C := RX1) (T := TX1) (N := 5) hx hb hts n_X1 hown hK hP 9 rfl rfl 0 (by decide) f_24 (fun _ h9 => h9) rfl dX1_keyHeard_30 ?_
        refine lv_iload hx hb dX1_keyHeard_33 (lv_at hl 0 rfl) ?_
        refine lv_iload_n hx hb dX1_keyHeard_35 rfl (lv_at hl 5 rfl) ?_
        refine z_callVi (ci := 0) (q0 := 1) (As := [.int (iI (ka a)), .int (iI s9)]) (rest := []) X hK hP hD hA hS hl.1 gX1_keyHeard_X0_strikes rfl ⟨rfl, rfl⟩ hd_X0_strikes ⟨Nat.le_of_ble_eq_true rfl, Nat.le_of_ble_eq_true rfl⟩ rfl rfl rfl (Nat.le_of_ble_eq_true rfl) ⟨Nat.zero_le _, Nat.zero_le _⟩ rfl dX1_keyHeard_36 (c_X0_strikes I (ka a) s9 (by omega)) (fun H locs hP hD hS => ?_)
        refine z_ifp_eq (tgt := 79) hx hb dX1_keyHeard_39 (by decide) (fun c_4 => ?_) (fun c_4 => ?_)
        · refine lv_iinc (v := iI (a + 1)) (lv' := [(5, .int (iI (a + 1))), (6, .int (iI (ka a))), (4, .int (iI nr)), (0, .ref (q 9)), (1, .int (iI p9)), (2, .int (iI s9)), (3, .int (iI t9))]) hx hb dX1_keyHeard_79 hl (k := 1) rfl (iI_add _ _) (by decide) rfl (fun ls hl => ?_)
          refine lv_goto (tgt := 10) hx hb dX1_keyHeard_82 (by decide) ?_
          exact ih_10 nr (a + 1) (by omega) (by omega) (by first | exact hd_no (by omega) hr (by omega) | exact hd_new I.ka (by omega) hr (by omega) (Or.inl (by omega)) | exact hd_new I.ka (by omega) hr (by omega) (Or.inr (by assumption)) | exact hd_keep (by omega) hr (by omega) (by assumption)) (by omega) _ _ _ hP hD hS (lv_sub hl [0, 2, 3, 4, 5, 6] rfl)
        · refine lv_aload_n hx hb dX1_keyHeard_42 rfl (lv_at hl 3 rfl) ?_
          refine lv_iload hx hb dX1_keyHeard_43 (lv_at hl 1 rfl) ?_
          refine lv_iload_n hx hb dX1_keyHeard_45 rfl (lv_at hl 6 rfl) ?_
          refine z_callVi (ci := 1) (q0 := 9) (As := [.int (iI a), .int (iI t9)]) (rest := []) X hK hP hD hA hS hl.1 gX1_keyHeard_X1_soundsAt rfl ⟨rfl, rfl⟩ hd_X1_soundsAt ⟨Nat.le_of_ble_eq_true rfl, Nat.le_of_ble_eq_true rfl⟩ rfl rfl rfl (Nat.le_of_ble_eq_true rfl) ⟨Nat.zero_le _, Nat.zero_le _⟩ rfl dX1_keyHeard_46 (c_X1_soundsAt I a t9 (by omega) (by omega)) (fun H locs hP hD hS => ?_)
          refine z_ifp_ne (tgt := 55) hx hb dX1_keyHeard_49 (by decide) (fun c_5 => ?_) (fun c_5 => ?_)
          · refine lv_iload hx hb dX1_keyHeard_55 (lv_at hl 2 rfl) ?_
            refine lv_iconst (v := iI (-1)) hx hb dX1_keyHeard_57 rfl ?_
            refine z_icmp_eq (tgt := 75) hx hb dX1_keyHeard_58 (by decide) (by omega) (fun c_6 => ?_) (fun c_6 => ?_)
            · refine lv_iload hx hb dX1_keyHeard_75 (lv_at hl 0 rfl) ?_
              refine lv_istore (lv' := [(4, .int (iI (ka a))), (6, .int (iI (ka a))), (5, .int (iI a)), (0, .ref (q 9)), (1, .int (iI p9)), (2, .int (iI s9)), (3, .int (iI t9))]) hx hb dX1_keyHeard_77 hl (by decide) rfl (fun ls hl => ?_)
              refine lv_iinc (v := iI (a + 1)) (lv' := [(5, .int (iI (a + 1))), (4, .int (iI (ka a))), (6, .int (iI (ka a))), (0, .ref (q 9)), (1, .int (iI p9)), (2, .int (iI s9)), (3, .int (iI t9))]) hx hb dX1_keyHeard_79 hl (k := 2) rfl (iI_add _ _) (by decide) rfl (fun ls hl => ?_)
              refine lv_goto (tgt := 10) hx hb dX1_keyHeard_82 (by decide) ?_
              exact ih_10 (ka a) (a + 1) (by omega) (by omega) (by first | exact hd_no (by omega) hr (by omega) | exact hd_new I.ka (by omega) hr (by omega) (Or.inl (by omega)) | exact hd_new I.ka (by omega) hr (by omega) (Or.inr (by assumption)) | exact hd_keep (by omega) hr (by omega) (by assumption)) (by omega) _ _ _ hP hD hS (lv_sub hl [0, 1, 3, 4, 5, 6] rfl)
            · refine lv_aload_n hx hb dX1_keyHeard_61 rfl (lv_at hl 3 rfl) ?_
              refine va_get (D := D) (ci := 1) (v := .ref (q 1)) (C := RX1) (T := TX1) (N := 5) hx hb hts n_X1 hown hK hP 9 rfl rfl 0 (by decide) f_24 (fun _ h9 => h9) rfl dX1_keyHeard_62 ?_
              refine lv_iload hx hb dX1_keyHeard_65 (lv_at hl 0 rfl) ?_
              refine lv_iload hx hb dX1_keyHeard_67 (lv_at hl 2 rfl) ?_
              refine z_callVi (ci := 0) (q0 := 1) (As := [.int (iI (ka a)), .int (iI nr)]) (rest := []) X hK hP hD hA hS hl.1 gX1_keyHeard_X0_stopsNearer rfl ⟨rfl, rfl⟩ hd_X0_stopsNearer ⟨Nat.le_of_ble_eq_true rfl, Nat.le_of_ble_eq_true rfl⟩ rfl rfl rfl (Nat.le_of_ble_eq_true rfl) ⟨Nat.zero_le _, Nat.zero_le _⟩ rfl dX1_keyHeard_69 (c_X0_stopsNearer I (ka a) nr (by omega) (by omega)) (fun H locs hP hD hS => ?_)
              refine z_ifp_eq (tgt := 79) hx hb dX1_keyHeard_72 (by decide) (fun c_7 => ?_) (fun c_7 => ?_)
              · refine lv_iinc (v := iI (a + 1)) (lv' := [(5, .int (iI (a + 1))), (6, .int (iI (ka a))), (4, .int (iI nr)), (0, .ref (q 9)), (1, .int (iI p9)), (2, .int (iI s9)), (3, .int (iI t9))]) hx hb dX1_keyHeard_79 hl (k := 1) rfl (iI_add _ _) (by decide) rfl (fun ls hl => ?_)
                refine lv_goto (tgt := 10) hx hb dX1_keyHeard_82 (by decide) ?_
                exact ih_10 nr (a + 1) (by omega) (by omega) (by first | exact hd_no (by omega) hr (by omega) | exact hd_new I.ka (by omega) hr (by omega) (Or.inl (by omega)) | exact hd_new I.ka (by omega) hr (by omega) (Or.inr (by assumption)) | exact hd_keep (by omega) hr (by omega) (by assumption)) (by omega) _ _ _ hP hD hS (lv_sub hl [0, 2, 3, 4, 5, 6] rfl)
              · refine lv_iload hx hb dX1_keyHeard_75 (lv_at hl 0 rfl) ?_
                refine lv_istore (lv' := [(4, .int (iI (ka a))), (6, .int (iI (ka a))), (5, .int (iI a)), (0, .ref (q 9)), (1, .int (iI p9)), (2, .int (iI s9)), (3, .int (iI t9))]) hx hb dX1_keyHeard_77 hl (by decide) rfl (fun ls hl => ?_)
                refine lv_iinc (v := iI (a + 1)) (lv' := [(5, .int (iI (a + 1))), (4, .int (iI (ka a))), (6, .int (iI (ka a))), (0, .ref (q 9)), (1, .int (iI p9)), (2, .int (iI s9)), (3, .int (iI t9))]) hx hb dX1_keyHeard_79 hl (k := 2) rfl (iI_add _ _) (by decide) rfl (fun ls hl => ?_)
                refine lv_goto (tgt := 10) hx hb dX1_keyHeard_82 (by decide) ?_
                exact ih_10 (ka a) (a + 1) (by omega) (by omega) (by first | exact hd_no (by omega) hr (by omega) | exact hd_new I.ka (by omega) hr (by omega) (Or.inl (by omega)) | exact hd_new I.ka (by omega) hr (by omega) (Or.inr (by assumption)) | exact hd_keep (by omega) hr (by omega) (by assumption)) (by omega) _ _ _ hP hD hS (lv_sub hl [0, 1, 3, 4, 5, 6] rfl)
          · refine lv_goto (tgt := 79) hx hb dX1_keyHeard_52 (by decide) ?_
            refine lv_iinc (v := iI (a + 1)) (lv' := [(5, .int (iI (a + 1))), (6, .int (iI (ka a))), (4, .int (iI nr)), (0, .ref (q 9)), (1, .int (iI p9)), (2, .int (iI s9)), (3, .int (iI t9))]) hx hb dX1_keyHeard_79 hl (k := 1) rfl (iI_add _ _) (by decide) rfl (fun ls hl => ?_)
            refine lv_goto (tgt := 10) hx hb dX1_keyHeard_82 (by decide) ?_
            exact ih_10 nr (a + 1) (by omega) (by omega) (by first | exact hd_no (by omega) hr (by omega) | exact hd_new I.ka (by omega) hr (by omega) (Or.inl (by omega)) | exact hd_new I.ka (by omega) hr (by omega) (Or.inr (by assumption)) | exact hd_keep (by omega) hr (by omega) (by assumption)) (by omega) _ _ _ hP hD hS (lv_sub hl [0, 2, 3, 4, 5, 6] rfl)
  exact L_10 41 (-1) (p9 * 40) (by omega) (by omega) (Or.inl ⟨rfl, hdF_0⟩) (by omega) _ _ _ hP hD hS (lv_sub hl [0, 1, 2, 3, 4, 5] rfl)

theorem hd_X5_heard : yX5_heard.cls = RX5 ∧ yX5_heard.cls ≠ "java/lang/invoke/MethodHandle" ∧ yX5_heard.cls ≠ "java/lang/invoke/VarHandle" ∧ (parseMethodDescriptor yX5_heard.desc).map (fun d => d.parameters.length) = some 3 := by decide +kernel
set_option maxHeartbeats 4000000 in
set_option maxRecDepth 100000 in
theorem c_X5_heard (I : okS nK st le be te ab bl ka bg ln ns me sc pi re bk) (p9 : Int) (s9 : Int) (t9 : Int) (h : -2147483648 ≤ p9 ∧ p9 ≤ 2147483647 ∧ -2147483648 ≤ s9 ∧ s9 ≤ 2147483647 ∧ -2147483648 ≤ t9 ∧ t9 ≤ 2147483647) : MI l D cy yX5_heard wsX5_heard ({ frames := 3, cells := 0, slots := 0, locals := 71 } : Room) [.ref (q 0), .int (iI p9), .int (iI s9), .int (iI t9)] (wT q cy nK st le be te ab bl ka bg ln ns me sc pi re bk pa lz go ss sm pf mf) (if (0 ≤ p9 ∧ p9 ≤ 3) ∧ (0 ≤ s9 ∧ s9 ≤ 23) then (if 0 ≤ t9 ∧ t9 ≤ 1100 then hdF nK st le be ka bg ln s9 t9 (p9 * 40) (p9 * 40 + ns p9) else (-100002)) else (-100001)) (wT q cy nK st le be te ab bl ka bg ln ns me sc pi re bk pa lz go ss sm pf mf) := by
  refine MI.ofW (cc := cX5_heard) (maxL := 4) (ret := (some .int)) (by decide) rfl (Nat.le_of_ble_eq_true rfl) ?_
  intro p e s m below meth c A ls X hK hP hD hA hS hl
  obtain ⟨hx, hb, hml, hr, hts, hown, hlocks⟩ := id X
  have hl : lv_has ls 4 [(0, .ref (q 0)), (1, .int (iI p9)), (2, .int (iI s9)), (3, .int (iI t9))] := hl
  have k_76 := hts (Cond.constant RX5 76 (-100001)) (by decide +kernel)
  have f_41 := hts (Cond.fieldLink RX5 41 "TwoKeys" "music" "LTwoKeys$Music;") (by decide +kernel)
  have k_65 := hts (Cond.constant RX5 65 (-100002)) (by decide +kernel)
  have n_X5 : ∀ w ∈ u_ws RX5 TX5 9, w ∈ wsX5_heard := by decide +kernel
  have iK := I.nK
  refine lv_iload_n hx hb dX5_heard_0 rfl (lv_at hl 1 rfl) ?_
  refine z_callSi (As := [.int (iI p9)]) (rest := []) X hK hP hD hA hS hl.1 gX5_heard_X5_isPiece rfl ⟨rfl, rfl⟩ hd_X5_isPiece ⟨Nat.le_of_ble_eq_true rfl, Nat.le_of_ble_eq_true rfl⟩ rfl (Nat.le_of_ble_eq_true rfl) ⟨Nat.zero_le _, Nat.zero_le _⟩ rfl dX5_heard_1 (c_X5_isPiece p9 (by omega)) (fun H locs hP hD hS => ?_)
  refine z_ifp_eq (tgt := 14) hx hb dX5_heard_4 (by decide) (fun c_1 => ?_) (fun c_1 => ?_)
  · refine z_ldc (n := -100001) hx hb hown k_76 (by decide) dX5_heard_14 ?_
    exact z_iret X hK hP hD hS dX5_heard_16 (by (repeat' split) <;> first | rfl | omega)
  · refine lv_iload_n hx hb dX5_heard_7 rfl (lv_at hl 2 rfl) ?_
    refine z_callSi (As := [.int (iI s9)]) (rest := []) X hK hP hD hA hS hl.1 gX5_heard_X5_isString rfl ⟨rfl, rfl⟩ hd_X5_isString ⟨Nat.le_of_ble_eq_true rfl, Nat.le_of_ble_eq_true rfl⟩ rfl (Nat.le_of_ble_eq_true rfl) ⟨Nat.zero_le _, Nat.zero_le _⟩ rfl dX5_heard_8 (c_X5_isString s9 (by omega)) (fun H locs hP hD hS => ?_)
    refine z_ifp_ne (tgt := 17) hx hb dX5_heard_11 (by decide) (fun c_2 => ?_) (fun c_2 => ?_)
    · refine lv_iload_n hx hb dX5_heard_17 rfl (lv_at hl 3 rfl) ?_
      refine lv_iconst (v := iI (0)) hx hb dX5_heard_18 rfl ?_
      refine lv_sipush (v := iI (1100)) hx hb dX5_heard_19 (by decide) ?_
      refine z_callSi (As := [.int (iI t9), .int (iI 0), .int (iI 1100)]) (rest := []) X hK hP hD hA hS hl.1 gX5_heard_X5_within rfl ⟨rfl, rfl⟩ hd_X5_within ⟨Nat.le_of_ble_eq_true rfl, Nat.le_of_ble_eq_true rfl⟩ rfl (Nat.le_of_ble_eq_true rfl) ⟨Nat.zero_le _, Nat.zero_le _⟩ rfl dX5_heard_22 (c_X5_within t9 0 1100 (by omega)) (fun H locs hP hD hS => ?_)
      refine z_ifp_ne (tgt := 31) hx hb dX5_heard_25 (by decide) (fun c_3 => ?_) (fun c_3 => ?_)
      · refine lv_aload_n hx hb dX5_heard_31 rfl (lv_at hl 0 rfl) ?_
        refine va_get (D := D) (ci := 5) (v := .ref (q 9)) (C := RX5) (T := TX5) (N := 9) hx hb hts n_X5 hown hK hP 0 rfl rfl 2 (by decide) f_41 (fun _ h9 => h9) rfl dX5_heard_32 ?_
        refine lv_iload_n hx hb dX5_heard_35 rfl (lv_at hl 1 rfl) ?_
        refine lv_iload_n hx hb dX5_heard_36 rfl (lv_at hl 2 rfl) ?_
        refine lv_iload_n hx hb dX5_heard_37 rfl (lv_at hl 3 rfl) ?_
        refine z_callVi (ci := 1) (q0 := 9) (As := [.int (iI p9), .int (iI s9), .int (iI t9)]) (rest := []) X hK hP hD hA hS hl.1 gX5_heard_X1_keyHeard rfl ⟨rfl, rfl⟩ hd_X1_keyHeard ⟨Nat.le_of_ble_eq_true rfl, Nat.le_of_ble_eq_true rfl⟩ rfl rfl rfl (Nat.le_of_ble_eq_true rfl) ⟨Nat.zero_le _, Nat.zero_le _⟩ rfl dX5_heard_38 (c_X1_keyHeard I p9 s9 t9 (by omega) (by omega)) (fun H locs hP hD hS => ?_)
        exact z_iret X hK hP hD hS dX5_heard_41 (by (repeat' split) <;> first | rfl | omega)
      · refine z_ldc (n := -100002) hx hb hown k_65 (by decide) dX5_heard_28 ?_
        exact z_iret X hK hP hD hS dX5_heard_30 (by (repeat' split) <;> first | rfl | omega)
    · refine z_ldc (n := -100001) hx hb hown k_76 (by decide) dX5_heard_14 ?_
      exact z_iret X hK hP hD hS dX5_heard_16 (by (repeat' split) <;> first | rfl | omega)

theorem hd_X1_ticksLost : yX1_ticksLost.cls = RX1 ∧ yX1_ticksLost.cls ≠ "java/lang/invoke/MethodHandle" ∧ yX1_ticksLost.cls ≠ "java/lang/invoke/VarHandle" ∧ (parseMethodDescriptor yX1_ticksLost.desc).map (fun d => d.parameters.length) = some 2 := by decide +kernel
set_option maxHeartbeats 4000000 in
set_option maxRecDepth 100000 in
theorem c_X1_ticksLost (I : okS nK st le be te ab bl ka bg ln ns me sc pi re bk) (p9 : Int) (k : Int) (h : 0 ≤ p9 ∧ p9 ≤ 3) (h2 : 0 ≤ k ∧ k < 24) : MI l D cy yX1_ticksLost wsX1_ticksLost ({ frames := 3, cells := 0, slots := 0, locals := 71 } : Room) [.ref (q 9), .int (iI p9), .int (iI k)] (wT q cy nK st le be te ab bl ka bg ln ns me sc pi re bk pa lz go ss sm pf mf) (ltN (fun t => hdF nK st le be ka bg ln (st k) t (p9 * 40) (p9 * 40 + ns p9) ≠ k) ka bg ln k (p9 * 40) (p9 * 40 + ns p9)) (wT q cy nK st le be te ab bl ka bg ln ns me sc pi re bk pa lz go ss sm pf mf) := by
  refine MI.ofW (cc := cX1_ticksLost) (maxL := 8) (ret := (some .int)) (by decide) rfl (Nat.le_of_ble_eq_true rfl) ?_
  intro p e s m below meth c A ls X hK hP hD hA hS hl
  obtain ⟨hx, hb, hml, hr, hts, hown, hlocks⟩ := id X
  have hl : lv_has ls 8 [(0, .ref (q 9)), (1, .int (iI p9)), (2, .int (iI k))] := hl
  have f_24 := hts (Cond.fieldLink RX1 24 "TwoKeys$Music" "board" "LTwoKeys$Board;") (by decide +kernel)
  have f_67 := hts (Cond.fieldLink RX1 67 "TwoKeys$Board" "struck" "[I") (by decide +kernel)
  have f_9 := hts (Cond.fieldLink RX1 9 "TwoKeys$Music" "keyAt" "[I") (by decide +kernel)
  have f_15 := hts (Cond.fieldLink RX1 15 "TwoKeys$Music" "beginAt" "[I") (by decide +kernel)
  have k_RX1_70_Lib_Math_max_name := hts (Cond.methodLink RX1 70 Lib.Math.max.name) (by decide +kernel)
  have k_static_Lib_Math_max_name := hts (Cond.static Lib.Math.max.name) (by decide +kernel)
  have k_ialized__java_lang_Math_ := hts (Cond.initialized "java/lang/Math") (by decide +kernel)
  have k_h_max_code_2__some__int_ := hts (Cond.code Lib.Math.max.name Lib.Math.max.code 2 (some .int)) (by decide +kernel)
  have n_X0 : ∀ w ∈ u_ws RX0 TX0 5, w ∈ wsX1_ticksLost := by decide +kernel
  have n_X1 : ∀ w ∈ u_ws RX1 TX1 5, w ∈ wsX1_ticksLost := by decide +kernel
  have iK := I.nK
  have i7 := I.ns p9
  have i6 := I.st k
  refine lv_aload_n hx hb dX1_ticksLost_0 rfl (lv_at hl 0 rfl) ?_
  refine va_get (D := D) (ci := 1) (v := .ref (q 1)) (C := RX1) (T := TX1) (N := 5) hx hb hts n_X1 hown hK hP 9 rfl rfl 0 (by decide) f_24 (fun _ h9 => h9) rfl dX1_ticksLost_1 ?_
  refine va_get (D := D) (ci := 0) (v := .ref (q 2)) (C := RX0) (T := TX0) (N := 5) hx hb hts n_X0 hown hK hP 1 rfl rfl 1 (by decide) f_67 (fun _ h9 => h9) rfl dX1_ticksLost_4 ?_
  refine lv_iload_n hx hb dX1_ticksLost_7 rfl (lv_at hl 2 rfl) ?_
  refine z_iald hx hb hK hP 2 0 rfl rfl (by omega) dX1_ticksLost_8 ?_
  have b_1 := I.st k
  refine lv_istore_n (lv' := [(3, .int (iI (st k))), (0, .ref (q 9)), (1, .int (iI p9)), (2, .int (iI k))]) hx hb dX1_ticksLost_9 rfl hl (by decide) rfl (fun ls hl => ?_)
  refine lv_iconst (v := iI (0)) hx hb dX1_ticksLost_10 rfl ?_
  refine lv_istore (lv' := [(4, .int (iI 0)), (3, .int (iI (st k))), (0, .ref (q 9)), (1, .int (iI p9)), (2, .int (iI k))]) hx hb dX1_ticksLost_11 hl (by decide) rfl (fun ls hl => ?_)
  refine lv_iconst (v := iI (0)) hx hb dX1_ticksLost_13 rfl ?_
  refine lv_istore (lv' := [(5, .int (iI 0)), (4, .int (iI 0)), (3, .int (iI (st k))), (0, .ref (q 9)), (1, .int (iI p9)), (2, .int (iI k))]) hx hb dX1_ticksLost_14 hl (by decide) rfl (fun ls hl => ?_)
  refine lv_aload_n hx hb dX1_ticksLost_16 rfl (lv_at hl 3 rfl) ?_
  refine lv_iload_n hx hb dX1_ticksLost_17 rfl (lv_at hl 4 rfl) ?_
  refine z_callVi (ci := 1) (q0 := 9) (As := [.int (iI p9)]) (rest := []) X hK hP hD hA hS hl.1 gX1_ticksLost_X1_startOf rfl ⟨rfl, rfl⟩ hd_X1_startOf ⟨Nat.le_of_ble_eq_true rfl, Nat.le_of_ble_eq_true rfl⟩ rfl rfl rfl (Nat.le_of_ble_eq_true rfl) ⟨Nat.zero_le _, Nat.zero_le _⟩ rfl dX1_ticksLost_18 (c_X1_startOf p9) (fun H locs hP hD hS => ?_)
  refine lv_istore (lv' := [(6, .int (iI (p9 * 40))), (5, .int (iI 0)), (4, .int (iI 0)), (3, .int (iI (st k))), (0, .ref (q 9)), (1, .int (iI p9)), (2, .int (iI k))]) hx hb dX1_ticksLost_21 hl (by decide) rfl (fun ls hl => ?_)
  have L_23 : ∀ (n : Nat) (acc : Int) (fr : Int) (a : Int), (h0 : p9 * 40 ≤ a ∧ a ≤ p9 * 40 + ns p9) → (hf : p9 * 40 + ns p9 - a < n) → (hr : acc = ltN (fun t => hdF nK st le be ka bg ln (st k) t (p9 * 40) (p9 * 40 + ns p9) ≠ k) ka bg ln k (p9 * 40) a) → (hq : frI ka bg ln k (p9 * 40) a fr) → ∀ (H : Heap) (locs : List Loc) (ls : Array Slot), va_P D vwCl (wT q cy nK st le be te ab bl ka bg ln ns me sc pi re bk pa lz go ss sm pf mf) H → va_D A (wT q cy nK st le be te ab bl ka bg ln ns me sc pi re bk pa lz go ss sm pf mf) → va_S A s.heap H locs → lv_has ls 8 [(6, .int (iI a)), (5, .int (iI fr)), (4, .int (iI acc)), (3, .int (iI (st k))), (0, .ref (q 9)), (1, .int (iI p9)), (2, .int (iI k))] → W p l e ({ frames := 3, cells := 0, slots := 0, locals := 71 } : Room) s m [.ref (q 9), .int (iI p9), .int (iI k)].toArray below meth c H locs 0 0 (MQ below (zQi D cy (wT q cy nK st le be te ab bl ka bg ln ns me sc pi re bk pa lz go ss sm pf mf) A (ltN (fun t => hdF nK st le be ka bg ln (st k) t (p9 * 40) (p9 * 40 + ns p9) ≠ k) ka bg ln k (p9 * 40) (p9 * 40 + ns p9))) [.ref (q 9), .int (iI p9), .int (iI k)].toArray s 0 0 A) (F0 m 23 ls []) := by
    intro n
    induction n with
    | zero =>
      intro acc fr a h0 hf hr hq
      exfalso; omega
    | succ n ih_23 =>
      intro acc fr a h0 hf hr hq H locs ls hP hD hS hl
      have q1 := hq.1
      have q2 := I.bg a
      have q3 := I.ln a
      refine lv_iload hx hb dX1_ticksLost_23 (lv_at hl 0 rfl) ?_
      refine lv_aload_n hx hb dX1_ticksLost_25 rfl (lv_at hl 4 rfl) ?_
      refine lv_iload_n hx hb dX1_ticksLost_26 rfl (lv_at hl 5 rfl) ?_
      refine z_callVi (ci := 1) (q0 := 9) (As := [.int (iI p9)]) (rest := [.int (iI a)]) X hK hP hD hA hS hl.1 gX1_ticksLost_X1_endOf rfl ⟨rfl, rfl⟩ hd_X1_endOf ⟨Nat.le_of_ble_eq_true rfl, Nat.le_of_ble_eq_true rfl⟩ rfl rfl rfl (Nat.le_of_ble_eq_true rfl) ⟨Nat.zero_le _, Nat.zero_le _⟩ rfl dX1_ticksLost_27 (c_X1_endOf I p9 (by omega)) (fun H locs hP hD hS => ?_)
      refine z_icmp_ge (tgt := 112) hx hb dX1_ticksLost_30 (by decide) (by omega) (fun c_2 => ?_) (fun c_2 => ?_)
      · refine lv_iload hx hb dX1_ticksLost_112 (lv_at hl 2 rfl) ?_
        exact z_iret X hK hP hD hS dX1_ticksLost_114 (by rw [hr, show a = p9 * 40 + ns p9 by omega])
      · refine lv_aload_n hx hb dX1_ticksLost_33 rfl (lv_at hl 4 rfl) ?_
        refine va_get (D := D) (ci := 1) (v := .ref (q 10)) (C := RX1) (T := TX1) (N := 5) hx hb hts n_X1 hown hK hP 9 rfl rfl 1 (by decide) f_9 (fun _ h9 => h9) rfl dX1_ticksLost_34 ?_
        refine lv_iload hx hb dX1_ticksLost_37 (lv_at hl 0 rfl) ?_
        refine z_iald hx hb hK hP 10 0 rfl rfl (by omega) dX1_ticksLost_39 ?_
        have b_3 := I.ka a
        refine lv_iload_n hx hb dX1_ticksLost_40 rfl (lv_at hl 6 rfl) ?_
        refine z_icmp_eq (tgt := 47) hx hb dX1_ticksLost_41 (by decide) (by omega) (fun c_4 => ?_) (fun c_4 => ?_)
        · have sso : ∀ j, p9 * 40 ≤ j → j < a → bg j ≤ bg a := fun j g1 g2 => by have := I.so p9 (j - p9 * 40) (a - p9 * 40) (by omega) (by omega) (by omega) (by omega) (by omega); rw [show 40 * p9 + (j - p9 * 40) = j by omega, show 40 * p9 + (a - p9 * 40) = a by omega] at this; exact this
          refine lv_iload hx hb dX1_ticksLost_47 (lv_at hl 1 rfl) ?_
          refine lv_aload_n hx hb dX1_ticksLost_49 rfl (lv_at hl 4 rfl) ?_
          refine va_get (D := D) (ci := 1) (v := .ref (q 11)) (C := RX1) (T := TX1) (N := 5) hx hb hts n_X1 hown hK hP 9 rfl rfl 2 (by decide) f_15 (fun _ h9 => h9) rfl dX1_ticksLost_50 ?_
          refine lv_iload hx hb dX1_ticksLost_53 (lv_at hl 0 rfl) ?_
          refine z_iald hx hb hK hP 11 0 rfl rfl (by omega) dX1_ticksLost_55 ?_
          have b_5 := I.bg a
          refine z_max hx hb (by rw [hml]; exact hl.1.symm) hown k_RX1_70_Lib_Math_max_name k_static_Lib_Math_max_name k_ialized__java_lang_Math_ k_h_max_code_2__some__int_ (Nat.le_of_ble_eq_true rfl) (Nat.le_of_ble_eq_true rfl) (Nat.zero_le _) (Nat.zero_le _) (by omega) dX1_ticksLost_56 ?_
          refine lv_istore (lv' := [(7, .int (iI (max fr (bg a)))), (6, .int (iI a)), (5, .int (iI fr)), (4, .int (iI acc)), (3, .int (iI (st k))), (0, .ref (q 9)), (1, .int (iI p9)), (2, .int (iI k))]) hx hb dX1_ticksLost_59 hl (by decide) rfl (fun ls hl => ?_)
          have L_61 : ∀ (n : Nat) (acc2 : Int) (t : Int), (h3 : max fr (bg a) ≤ t ∧ t ≤ max (max fr (bg a)) (bg a + ln a)) → (hf2 : max (max fr (bg a)) (bg a + ln a) - t < n) → (hr2 : acc2 = ltN (fun t => hdF nK st le be ka bg ln (st k) t (p9 * 40) (p9 * 40 + ns p9) ≠ k) ka bg ln k (p9 * 40) a + sZ (fun t => bP (hdF nK st le be ka bg ln (st k) t (p9 * 40) (p9 * 40 + ns p9) ≠ k)) (max fr (bg a)) t) → ∀ (H : Heap) (locs : List Loc) (ls : Array Slot), va_P D vwCl (wT q cy nK st le be te ab bl ka bg ln ns me sc pi re bk pa lz go ss sm pf mf) H → va_D A (wT q cy nK st le be te ab bl ka bg ln ns me sc pi re bk pa lz go ss sm pf mf) → va_S A s.heap H locs → lv_has ls 8 [(7, .int (iI t)), (6, .int (iI a)), (5, .int (iI fr)), (4, .int (iI acc2)), (3, .int (iI (st k))), (0, .ref (q 9)), (1, .int (iI p9)), (2, .int (iI k))] → W p l e ({ frames := 3, cells := 0, slots := 0, locals := 71 } : Room) s m [.ref (q 9), .int (iI p9), .int (iI k)].toArray below meth c H locs 0 0 (MQ below (zQi D cy (wT q cy nK st le be te ab bl ka bg ln ns me sc pi re bk pa lz go ss sm pf mf) A (ltN (fun t => hdF nK st le be ka bg ln (st k) t (p9 * 40) (p9 * 40 + ns p9) ≠ k) ka bg ln k (p9 * 40) (p9 * 40 + ns p9))) [.ref (q 9), .int (iI p9), .int (iI k)].toArray s 0 0 A) (F0 m 61 ls []) := by
            intro n
            induction n with
            | zero =>
              intro acc2 t h3 hf2 hr2
              exfalso; omega
            | succ n ih_61 =>
              intro acc2 t h3 hf2 hr2 H locs ls hP hD hS hl
              refine lv_iload hx hb dX1_ticksLost_61 (lv_at hl 0 rfl) ?_
              refine lv_aload_n hx hb dX1_ticksLost_63 rfl (lv_at hl 5 rfl) ?_
              refine lv_iload hx hb dX1_ticksLost_64 (lv_at hl 1 rfl) ?_
              refine z_callVi (ci := 1) (q0 := 9) (As := [.int (iI a)]) (rest := [.int (iI t)]) X hK hP hD hA hS hl.1 gX1_ticksLost_X1_tickBehind rfl ⟨rfl, rfl⟩ hd_X1_tickBehind ⟨Nat.le_of_ble_eq_true rfl, Nat.le_of_ble_eq_true rfl⟩ rfl rfl rfl (Nat.le_of_ble_eq_true rfl) ⟨Nat.zero_le _, Nat.zero_le _⟩ rfl dX1_ticksLost_66 (c_X1_tickBehind I a (by omega)) (fun H locs hP hD hS => ?_)
              refine z_icmp_ge (tgt := 93) hx hb dX1_ticksLost_69 (by decide) (by omega) (fun c_6 => ?_) (fun c_6 => ?_)
              · refine lv_iload hx hb dX1_ticksLost_93 (lv_at hl 2 rfl) ?_
                refine lv_aload_n hx hb dX1_ticksLost_95 rfl (lv_at hl 5 rfl) ?_
                refine lv_iload hx hb dX1_ticksLost_96 (lv_at hl 1 rfl) ?_
                refine z_callVi (ci := 1) (q0 := 9) (As := [.int (iI a)]) (rest := [.int (iI fr)]) X hK hP hD hA hS hl.1 gX1_ticksLost_X1_tickBehind rfl ⟨rfl, rfl⟩ hd_X1_tickBehind ⟨Nat.le_of_ble_eq_true rfl, Nat.le_of_ble_eq_true rfl⟩ rfl rfl rfl (Nat.le_of_ble_eq_true rfl) ⟨Nat.zero_le _, Nat.zero_le _⟩ rfl dX1_ticksLost_98 (c_X1_tickBehind I a (by omega)) (fun H locs hP hD hS => ?_)
                refine z_max hx hb (by rw [hml]; exact hl.1.symm) hown k_RX1_70_Lib_Math_max_name k_static_Lib_Math_max_name k_ialized__java_lang_Math_ k_h_max_code_2__some__int_ (Nat.le_of_ble_eq_true rfl) (Nat.le_of_ble_eq_true rfl) (Nat.zero_le _) (Nat.zero_le _) (by omega) dX1_ticksLost_101 ?_
                refine lv_istore (lv' := [(5, .int (iI (max fr (bg a + ln a)))), (7, .int (iI t)), (6, .int (iI a)), (4, .int (iI acc2)), (3, .int (iI (st k))), (0, .ref (q 9)), (1, .int (iI p9)), (2, .int (iI k))]) hx hb dX1_ticksLost_104 hl (by decide) rfl (fun ls hl => ?_)
                refine lv_iinc (v := iI (a + 1)) (lv' := [(6, .int (iI (a + 1))), (5, .int (iI (max fr (bg a + ln a)))), (7, .int (iI t)), (4, .int (iI acc2)), (3, .int (iI (st k))), (0, .ref (q 9)), (1, .int (iI p9)), (2, .int (iI k))]) hx hb dX1_ticksLost_106 hl (k := 2) rfl (iI_add _ _) (by decide) rfl (fun ls hl => ?_)
                refine lv_goto (tgt := 23) hx hb dX1_ticksLost_109 (by decide) ?_
                exact ih_23 acc2 (max fr (bg a + ln a)) (a + 1) (by omega) (by omega) (by first | (rw [lt_skip (by assumption)]; exact hr) | (rw [lt_note hq (by omega) (by assumption) (by omega) (fun j g1 g2 => sso j g1 (by omega)), hr2]; congr 1; rcases (show t = bg a + ln a ∨ (bg a + ln a ≤ max fr (bg a) ∧ t = max fr (bg a)) by omega) with g | g; rw [g]; rw [sZ_nil (by omega), sZ_nil (by omega)])) (by first | exact fr_skip hq (by assumption) | exact fr_note hq (by omega) (by assumption) (by omega)) _ _ _ hP hD hS (lv_sub hl [0, 1, 3, 4, 5, 6, 7] rfl)
              · refine lv_aload_n hx hb dX1_ticksLost_72 rfl (lv_at hl 5 rfl) ?_
                refine lv_iload_n hx hb dX1_ticksLost_73 rfl (lv_at hl 6 rfl) ?_
                refine lv_iload_n hx hb dX1_ticksLost_74 rfl (lv_at hl 4 rfl) ?_
                refine lv_iload hx hb dX1_ticksLost_75 (lv_at hl 0 rfl) ?_
                refine z_callVi (ci := 1) (q0 := 9) (As := [.int (iI p9), .int (iI (st k)), .int (iI t)]) (rest := []) X hK hP hD hA hS hl.1 gX1_ticksLost_X1_keyHeard rfl ⟨rfl, rfl⟩ hd_X1_keyHeard ⟨Nat.le_of_ble_eq_true rfl, Nat.le_of_ble_eq_true rfl⟩ rfl rfl rfl (Nat.le_of_ble_eq_true rfl) ⟨Nat.zero_le _, Nat.zero_le _⟩ rfl dX1_ticksLost_77 (c_X1_keyHeard I p9 (st k) t (by omega) (by omega)) (fun H locs hP hD hS => ?_)
                have hhb := hdF_b (nK := nK) (st := st) (le := le) (be := be) (bg := bg) (ln := ln) (s := st k) (t := t) (lo := p9 * 40) (hi := p9 * 40 + ns p9) I.ka
                refine lv_iload_n hx hb dX1_ticksLost_80 rfl (lv_at hl 7 rfl) ?_
                refine z_icmp_eq (tgt := 87) hx hb dX1_ticksLost_81 (by decide) (by omega) (fun c_7 => ?_) (fun c_7 => ?_)
                · refine lv_iinc (v := iI (t + 1)) (lv' := [(7, .int (iI (t + 1))), (6, .int (iI a)), (5, .int (iI fr)), (4, .int (iI acc2)), (3, .int (iI (st k))), (0, .ref (q 9)), (1, .int (iI p9)), (2, .int (iI k))]) hx hb dX1_ticksLost_87 hl (k := 0) rfl (iI_add _ _) (by decide) rfl (fun ls hl => ?_)
                  refine lv_goto (tgt := 61) hx hb dX1_ticksLost_90 (by decide) ?_
                  exact ih_61 acc2 (t + 1) (by omega) (by omega) (by rw [sZ_step (by omega)]; (try dsimp only); first | (rw [bP_1 (by assumption)]; omega) | (rw [bP_0 (by omega)]; omega)) _ _ _ hP hD hS (lv_sub hl [0, 1, 2, 3, 4, 5, 6, 7] rfl)
                · refine lv_iinc (v := iI (acc2 + 1)) (lv' := [(4, .int (iI (acc2 + 1))), (7, .int (iI t)), (6, .int (iI a)), (5, .int (iI fr)), (3, .int (iI (st k))), (0, .ref (q 9)), (1, .int (iI p9)), (2, .int (iI k))]) hx hb dX1_ticksLost_84 hl (k := 3) rfl (iI_add _ _) (by decide) rfl (fun ls hl => ?_)
                  refine lv_iinc (v := iI (t + 1)) (lv' := [(7, .int (iI (t + 1))), (4, .int (iI (acc2 + 1))), (6, .int (iI a)), (5, .int (iI fr)), (3, .int (iI (st k))), (0, .ref (q 9)), (1, .int (iI p9)), (2, .int (iI k))]) hx hb dX1_ticksLost_87 hl (k := 1) rfl (iI_add _ _) (by decide) rfl (fun ls hl => ?_)
                  refine lv_goto (tgt := 61) hx hb dX1_ticksLost_90 (by decide) ?_
                  exact ih_61 (acc2 + 1) (t + 1) (by omega) (by omega) (by rw [sZ_step (by omega)]; (try dsimp only); first | (rw [bP_1 (by assumption)]; omega) | (rw [bP_0 (by omega)]; omega)) _ _ _ hP hD hS (lv_sub hl [0, 2, 3, 1, 4, 5, 6, 7] rfl)
          exact L_61 101 acc (max fr (bg a)) (by omega) (by omega) (by rw [sZ_nil (by omega), ← hr, Int.add_zero]) _ _ _ hP hD hS (lv_sub hl [0, 1, 2, 3, 4, 5, 6, 7] rfl)
        · refine lv_goto (tgt := 106) hx hb dX1_ticksLost_44 (by decide) ?_
          refine lv_iinc (v := iI (a + 1)) (lv' := [(6, .int (iI (a + 1))), (5, .int (iI fr)), (4, .int (iI acc)), (3, .int (iI (st k))), (0, .ref (q 9)), (1, .int (iI p9)), (2, .int (iI k))]) hx hb dX1_ticksLost_106 hl (k := 0) rfl (iI_add _ _) (by decide) rfl (fun ls hl => ?_)
          refine lv_goto (tgt := 23) hx hb dX1_ticksLost_109 (by decide) ?_
          exact ih_23 acc fr (a + 1) (by omega) (by omega) (by first | (rw [lt_skip (by assumption)]; exact hr) | (rw [lt_note hq (by omega) (by assumption) (by omega) (fun j g1 g2 => sso j g1 (by omega)), hr2]; congr 1; rcases (show t = bg a + ln a ∨ (bg a + ln a ≤ max fr (bg a) ∧ t = max fr (bg a)) by omega) with g | g; rw [g]; rw [sZ_nil (by omega), sZ_nil (by omega)])) (by first | exact fr_skip hq (by assumption) | exact fr_note hq (by omega) (by assumption) (by omega)) _ _ _ hP hD hS (lv_sub hl [0, 1, 2, 3, 4, 5, 6] rfl)
  exact L_23 41 0 0 (p9 * 40) (by omega) (by omega) ltN_0 fr_0 _ _ _ hP hD hS (lv_sub hl [0, 1, 2, 3, 4, 5, 6] rfl)

theorem hd_X5_lost : yX5_lost.cls = RX5 ∧ yX5_lost.cls ≠ "java/lang/invoke/MethodHandle" ∧ yX5_lost.cls ≠ "java/lang/invoke/VarHandle" ∧ (parseMethodDescriptor yX5_lost.desc).map (fun d => d.parameters.length) = some 2 := by decide +kernel
set_option maxHeartbeats 4000000 in
set_option maxRecDepth 100000 in
theorem c_X5_lost (I : okS nK st le be te ab bl ka bg ln ns me sc pi re bk) (p9 : Int) (k : Int) (h : -2147483648 ≤ p9 ∧ p9 ≤ 2147483647 ∧ -2147483648 ≤ k ∧ k ≤ 2147483647) : MI l D cy yX5_lost wsX5_lost ({ frames := 4, cells := 0, slots := 0, locals := 98 } : Room) [.ref (q 0), .int (iI p9), .int (iI k)] (wT q cy nK st le be te ab bl ka bg ln ns me sc pi re bk pa lz go ss sm pf mf) (if (0 ≤ p9 ∧ p9 ≤ 3) ∧ (0 ≤ k ∧ k < nK) then ltN (fun t => hdF nK st le be ka bg ln (st k) t (p9 * 40) (p9 * 40 + ns p9) ≠ k) ka bg ln k (p9 * 40) (p9 * 40 + ns p9) else (-100001)) (wT q cy nK st le be te ab bl ka bg ln ns me sc pi re bk pa lz go ss sm pf mf) := by
  refine MI.ofW (cc := cX5_lost) (maxL := 3) (ret := (some .int)) (by decide) rfl (Nat.le_of_ble_eq_true rfl) ?_
  intro p e s m below meth c A ls X hK hP hD hA hS hl
  obtain ⟨hx, hb, hml, hr, hts, hown, hlocks⟩ := id X
  have hl : lv_has ls 3 [(0, .ref (q 0)), (1, .int (iI p9)), (2, .int (iI k))] := hl
  have k_76 := hts (Cond.constant RX5 76 (-100001)) (by decide +kernel)
  have f_25 := hts (Cond.fieldLink RX5 25 "TwoKeys" "board" "LTwoKeys$Board;") (by decide +kernel)
  have f_41 := hts (Cond.fieldLink RX5 41 "TwoKeys" "music" "LTwoKeys$Music;") (by decide +kernel)
  have n_X5 : ∀ w ∈ u_ws RX5 TX5 9, w ∈ wsX5_lost := by decide +kernel
  have iK := I.nK
  refine lv_iload_n hx hb dX5_lost_0 rfl (lv_at hl 1 rfl) ?_
  refine z_callSi (As := [.int (iI p9)]) (rest := []) X hK hP hD hA hS hl.1 gX5_lost_X5_isPiece rfl ⟨rfl, rfl⟩ hd_X5_isPiece ⟨Nat.le_of_ble_eq_true rfl, Nat.le_of_ble_eq_true rfl⟩ rfl (Nat.le_of_ble_eq_true rfl) ⟨Nat.zero_le _, Nat.zero_le _⟩ rfl dX5_lost_1 (c_X5_isPiece p9 (by omega)) (fun H locs hP hD hS => ?_)
  refine z_ifp_eq (tgt := 18) hx hb dX5_lost_4 (by decide) (fun c_1 => ?_) (fun c_1 => ?_)
  · refine z_ldc (n := -100001) hx hb hown k_76 (by decide) dX5_lost_18 ?_
    exact z_iret X hK hP hD hS dX5_lost_20 (by (repeat' split) <;> first | rfl | omega)
  · refine lv_aload_n hx hb dX5_lost_7 rfl (lv_at hl 0 rfl) ?_
    refine va_get (D := D) (ci := 5) (v := .ref (q 1)) (C := RX5) (T := TX5) (N := 9) hx hb hts n_X5 hown hK hP 0 rfl rfl 0 (by decide) f_25 (fun _ h9 => h9) rfl dX5_lost_8 ?_
    refine lv_iload_n hx hb dX5_lost_11 rfl (lv_at hl 2 rfl) ?_
    refine z_callVi (ci := 0) (q0 := 1) (As := [.int (iI k)]) (rest := []) X hK hP hD hA hS hl.1 gX5_lost_X0_has rfl ⟨rfl, rfl⟩ hd_X0_has ⟨Nat.le_of_ble_eq_true rfl, Nat.le_of_ble_eq_true rfl⟩ rfl rfl rfl (Nat.le_of_ble_eq_true rfl) ⟨Nat.zero_le _, Nat.zero_le _⟩ rfl dX5_lost_12 (c_X0_has I k (by omega)) (fun H locs hP hD hS => ?_)
    refine z_ifp_ne (tgt := 21) hx hb dX5_lost_15 (by decide) (fun c_2 => ?_) (fun c_2 => ?_)
    · refine lv_aload_n hx hb dX5_lost_21 rfl (lv_at hl 0 rfl) ?_
      refine va_get (D := D) (ci := 5) (v := .ref (q 9)) (C := RX5) (T := TX5) (N := 9) hx hb hts n_X5 hown hK hP 0 rfl rfl 2 (by decide) f_41 (fun _ h9 => h9) rfl dX5_lost_22 ?_
      refine lv_iload_n hx hb dX5_lost_25 rfl (lv_at hl 1 rfl) ?_
      refine lv_iload_n hx hb dX5_lost_26 rfl (lv_at hl 2 rfl) ?_
      refine z_callVi (ci := 1) (q0 := 9) (As := [.int (iI p9), .int (iI k)]) (rest := []) X hK hP hD hA hS hl.1 gX5_lost_X1_ticksLost rfl ⟨rfl, rfl⟩ hd_X1_ticksLost ⟨Nat.le_of_ble_eq_true rfl, Nat.le_of_ble_eq_true rfl⟩ rfl rfl rfl (Nat.le_of_ble_eq_true rfl) ⟨Nat.zero_le _, Nat.zero_le _⟩ rfl dX5_lost_27 (c_X1_ticksLost I p9 k (by omega) (by omega)) (fun H locs hP hD hS => ?_)
      exact z_iret X hK hP hD hS dX5_lost_30 (by (repeat' split) <;> first | rfl | omega)
    · refine z_ldc (n := -100001) hx hb hown k_76 (by decide) dX5_lost_18 ?_
      exact z_iret X hK hP hD hS dX5_lost_20 (by (repeat' split) <;> first | rfl | omega)
