variable {l : Launch} {D : va_G} {cy : ClassId} {q : Nat → Nat} {nK sc pi re bk ss sm pf mf th lo : Int} {st le be te ab bl ka bg ln ns me pa lz go co bs gr : Int → Int}
theorem hd_X6_measuredKeys : yX6_measuredKeys.cls = RX6 ∧ yX6_measuredKeys.cls ≠ "java/lang/invoke/MethodHandle" ∧ yX6_measuredKeys.cls ≠ "java/lang/invoke/VarHandle" ∧ (parseMethodDescriptor yX6_measuredKeys.desc).map (fun d => d.parameters.length) = some 0 := by decide +kernel
set_option maxHeartbeats 4000000 in
set_option maxRecDepth 100000 in
theorem c_X6_measuredKeys (I : okS nK st le be te ab bl ka bg ln ns me sc pi re bk)   : MI l D cy yX6_measuredKeys wsX6_measuredKeys ({ frames := 0, cells := 0, slots := 0, locals := 0 } : Room) [.ref (q 0)] (wM q cy nK st le be te ab bl ka bg ln ns me sc pi re bk th co bs gr lo) (cm nK me) (wM q cy nK st le be te ab bl ka bg ln ns me sc pi re bk th co bs gr lo) := by
  refine MI.ofW (cc := cX6_measuredKeys) (maxL := 3) (ret := (some .int)) (by decide) rfl (Nat.le_of_ble_eq_true rfl) ?_
  intro p e s m below meth c A ls X hK hP hD hA hS hl
  obtain ⟨hx, hb, hml, hr, hts, hown, hlocks⟩ := id X
  have hl : lv_has ls 3 [(0, .ref (q 0))] := hl
  have f_7 := hts (Cond.fieldLink RX6 7 "TwoKeysModel" "keys" "I") (by decide +kernel)
  have f_50 := hts (Cond.fieldLink RX6 50 "TwoKeysModel" "measured" "[I") (by decide +kernel)
  have k_62 := hts (Cond.constant RX6 62 (-100009)) (by decide +kernel)
  have n_X6 : ∀ w ∈ u_ws RX6 TX6 21, w ∈ wsX6_measuredKeys := by decide +kernel
  have iK := I.nK
  refine lv_iconst (v := iI (0)) hx hb dX6_measuredKeys_0 rfl ?_
  refine lv_istore_n (lv' := [(1, .int (iI 0)), (0, .ref (q 0))]) hx hb dX6_measuredKeys_1 rfl hl (by decide) rfl (fun ls hl => ?_)
  refine lv_iconst (v := iI (0)) hx hb dX6_measuredKeys_2 rfl ?_
  refine lv_istore_n (lv' := [(2, .int (iI 0)), (1, .int (iI 0)), (0, .ref (q 0))]) hx hb dX6_measuredKeys_3 rfl hl (by decide) rfl (fun ls hl => ?_)
  have L_4 : ∀ (n : Nat) (acc : Int) (k : Int), (h0 : 0 ≤ k ∧ k ≤ nK) → (hf : nK - k < n) → (hr : acc = sZ (fun k => if me k = -100009 then 0 else 1) 0 k) → ∀ (H : Heap) (locs : List Loc) (ls : Array Slot), va_P D vwCl (wM q cy nK st le be te ab bl ka bg ln ns me sc pi re bk th co bs gr lo) H → va_D A (wM q cy nK st le be te ab bl ka bg ln ns me sc pi re bk th co bs gr lo) → va_S A s.heap H locs → lv_has ls 3 [(2, .int (iI k)), (1, .int (iI acc)), (0, .ref (q 0))] → W p l e ({ frames := 0, cells := 0, slots := 0, locals := 0 } : Room) s m [.ref (q 0)].toArray below meth c H locs 0 0 (MQ below (zQi D cy (wM q cy nK st le be te ab bl ka bg ln ns me sc pi re bk th co bs gr lo) A (cm nK me)) [.ref (q 0)].toArray s 0 0 A) (F0 m 4 ls []) := by
    intro n
    induction n with
    | zero =>
      intro acc k h0 hf hr
      exfalso; omega
    | succ n ih_4 =>
      intro acc k h0 hf hr H locs ls hP hD hS hl
      refine lv_iload_n hx hb dX6_measuredKeys_4 rfl (lv_at hl 0 rfl) ?_
      refine lv_aload_n hx hb dX6_measuredKeys_5 rfl (lv_at hl 2 rfl) ?_
      refine va_get (D := D) (ci := 6) (v := .int (iI nK)) (C := RX6) (T := TX6) (N := 21) hx hb hts n_X6 hown hK hP 0 rfl rfl 1 (by decide) f_7 (fun _ h9 => h9) rfl dX6_measuredKeys_6 ?_
      refine z_icmp_ge (tgt := 37) hx hb dX6_measuredKeys_9 (by decide) (by omega) (fun c_1 => ?_) (fun c_1 => ?_)
      · refine lv_iload_n hx hb dX6_measuredKeys_37 rfl (lv_at hl 1 rfl) ?_
        exact z_iret X hK hP hD hS dX6_measuredKeys_38 (by rw [hr, show k = nK by omega]; rfl)
      · refine lv_iload_n hx hb dX6_measuredKeys_12 rfl (lv_at hl 1 rfl) ?_
        refine lv_aload_n hx hb dX6_measuredKeys_13 rfl (lv_at hl 2 rfl) ?_
        refine va_get (D := D) (ci := 6) (v := .ref (q 11)) (C := RX6) (T := TX6) (N := 21) hx hb hts n_X6 hown hK hP 0 rfl rfl 16 (by decide) f_50 (fun _ h9 => h9) rfl dX6_measuredKeys_14 ?_
        refine lv_iload_n hx hb dX6_measuredKeys_17 rfl (lv_at hl 0 rfl) ?_
        refine z_iald hx hb hK hP 11 0 rfl rfl (by omega) dX6_measuredKeys_18 ?_
        have b_2 := I.me k
        refine z_ldc (n := -100009) hx hb hown k_62 (by decide) dX6_measuredKeys_19 ?_
        refine z_icmp_ne (tgt := 28) hx hb dX6_measuredKeys_21 (by decide) (by omega) (fun c_3 => ?_) (fun c_3 => ?_)
        · refine lv_iconst (v := iI (1)) hx hb dX6_measuredKeys_28 rfl ?_
          refine z_iadd hx hb dX6_measuredKeys_29 ?_
          refine lv_istore_n (lv' := [(1, .int (iI (acc + 1))), (2, .int (iI k)), (0, .ref (q 0))]) hx hb dX6_measuredKeys_30 rfl hl (by decide) rfl (fun ls hl => ?_)
          refine lv_iinc (v := iI (k + 1)) (lv' := [(2, .int (iI (k + 1))), (1, .int (iI (acc + 1))), (0, .ref (q 0))]) hx hb dX6_measuredKeys_31 hl (k := 1) rfl (iI_add _ _) (by decide) rfl (fun ls hl => ?_)
          refine lv_goto (tgt := 4) hx hb dX6_measuredKeys_34 (by decide) ?_
          exact ih_4 (acc + 1) (k + 1) (by omega) (by omega) (by rw [sZ_step (by omega), ← hr]; (try dsimp only); split <;> omega) _ _ _ hP hD hS (lv_sub hl [0, 1, 2] rfl)
        · refine lv_iconst (v := iI (0)) hx hb dX6_measuredKeys_24 rfl ?_
          refine lv_goto (tgt := 29) hx hb dX6_measuredKeys_25 (by decide) ?_
          refine z_iadd hx hb dX6_measuredKeys_29 ?_
          refine lv_istore_n (lv' := [(1, .int (iI (acc + 0))), (2, .int (iI k)), (0, .ref (q 0))]) hx hb dX6_measuredKeys_30 rfl hl (by decide) rfl (fun ls hl => ?_)
          refine lv_iinc (v := iI (k + 1)) (lv' := [(2, .int (iI (k + 1))), (1, .int (iI (acc + 0))), (0, .ref (q 0))]) hx hb dX6_measuredKeys_31 hl (k := 1) rfl (iI_add _ _) (by decide) rfl (fun ls hl => ?_)
          refine lv_goto (tgt := 4) hx hb dX6_measuredKeys_34 (by decide) ?_
          exact ih_4 (acc + 0) (k + 1) (by omega) (by omega) (by rw [sZ_step (by omega), ← hr]; (try dsimp only); split <;> omega) _ _ _ hP hD hS (lv_sub hl [0, 1, 2] rfl)
  exact L_4 25 0 0 (by omega) (by omega) ((sZ_nil (by omega)).symm) _ _ _ hP hD hS (lv_sub hl [0, 1, 2] rfl)

theorem hd_X6_misfitOf : yX6_misfitOf.cls = RX6 ∧ yX6_misfitOf.cls ≠ "java/lang/invoke/MethodHandle" ∧ yX6_misfitOf.cls ≠ "java/lang/invoke/VarHandle" ∧ (parseMethodDescriptor yX6_misfitOf.desc).map (fun d => d.parameters.length) = some 3 := by decide +kernel
set_option maxHeartbeats 4000000 in
set_option maxRecDepth 100000 in
theorem c_X6_misfitOf (I : okS nK st le be te ab bl ka bg ln ns me sc pi re bk) (s9 : Int) (p9 : Int) (w9 : Int) (h : 0 ≤ s9 ∧ s9 ≤ 4) (h2 : 0 ≤ p9 ∧ p9 ≤ 200000) (h3 : -2147483648 ≤ w9 ∧ w9 ≤ 2147483647) : MI l D cy yX6_misfitOf wsX6_misfitOf ({ frames := 1, cells := 0, slots := 0, locals := 23 } : Room) [.ref (q 0), .int (iI s9), .int (iI p9), .int (iI w9)] (wM q cy nK st le be te ab bl ka bg ln ns me sc pi re bk th co bs gr lo) (mis nK me ab bl s9 p9 w9) (wM q cy nK st le be te ab bl ka bg ln ns me sc pi re bk th co bs gr lo) := by
  refine MI.ofW (cc := cX6_misfitOf) (maxL := 6) (ret := (some .int)) (by decide) rfl (Nat.le_of_ble_eq_true rfl) ?_
  intro p e s m below meth c A ls X hK hP hD hA hS hl
  obtain ⟨hx, hb, hml, hr, hts, hown, hlocks⟩ := id X
  have hl : lv_has ls 6 [(0, .ref (q 0)), (1, .int (iI s9)), (2, .int (iI p9)), (3, .int (iI w9))] := hl
  have f_7 := hts (Cond.fieldLink RX6 7 "TwoKeysModel" "keys" "I") (by decide +kernel)
  have f_50 := hts (Cond.fieldLink RX6 50 "TwoKeysModel" "measured" "[I") (by decide +kernel)
  have k_62 := hts (Cond.constant RX6 62 (-100009)) (by decide +kernel)
  have n_X6 : ∀ w ∈ u_ws RX6 TX6 21, w ∈ wsX6_misfitOf := by decide +kernel
  have iK := I.nK
  refine lv_iconst (v := iI (0)) hx hb dX6_misfitOf_0 rfl ?_
  refine lv_istore (lv' := [(4, .int (iI 0)), (0, .ref (q 0)), (1, .int (iI s9)), (2, .int (iI p9)), (3, .int (iI w9))]) hx hb dX6_misfitOf_1 hl (by decide) rfl (fun ls hl => ?_)
  refine lv_iconst (v := iI (0)) hx hb dX6_misfitOf_3 rfl ?_
  refine lv_istore (lv' := [(5, .int (iI 0)), (4, .int (iI 0)), (0, .ref (q 0)), (1, .int (iI s9)), (2, .int (iI p9)), (3, .int (iI w9))]) hx hb dX6_misfitOf_4 hl (by decide) rfl (fun ls hl => ?_)
  have L_6 : ∀ (n : Nat) (acc : Int) (k : Int), (h0 : 0 ≤ k ∧ k ≤ nK) → (hf : nK - k < n) → (hr : acc = sZ (fun k => if k = w9 ∨ me k = -100009 then 0 else aZ (gl ab bl s9 p9 k - me k)) 0 k) → ∀ (H : Heap) (locs : List Loc) (ls : Array Slot), va_P D vwCl (wM q cy nK st le be te ab bl ka bg ln ns me sc pi re bk th co bs gr lo) H → va_D A (wM q cy nK st le be te ab bl ka bg ln ns me sc pi re bk th co bs gr lo) → va_S A s.heap H locs → lv_has ls 6 [(5, .int (iI k)), (4, .int (iI acc)), (0, .ref (q 0)), (1, .int (iI s9)), (2, .int (iI p9)), (3, .int (iI w9))] → W p l e ({ frames := 1, cells := 0, slots := 0, locals := 23 } : Room) s m [.ref (q 0), .int (iI s9), .int (iI p9), .int (iI w9)].toArray below meth c H locs 0 0 (MQ below (zQi D cy (wM q cy nK st le be te ab bl ka bg ln ns me sc pi re bk th co bs gr lo) A (mis nK me ab bl s9 p9 w9)) [.ref (q 0), .int (iI s9), .int (iI p9), .int (iI w9)].toArray s 0 0 A) (F0 m 6 ls []) := by
    intro n
    induction n with
    | zero =>
      intro acc k h0 hf hr
      exfalso; omega
    | succ n ih_6 =>
      intro acc k h0 hf hr H locs ls hP hD hS hl
      refine lv_iload hx hb dX6_misfitOf_6 (lv_at hl 0 rfl) ?_
      refine lv_aload_n hx hb dX6_misfitOf_8 rfl (lv_at hl 2 rfl) ?_
      refine va_get (D := D) (ci := 6) (v := .int (iI nK)) (C := RX6) (T := TX6) (N := 21) hx hb hts n_X6 hown hK hP 0 rfl rfl 1 (by decide) f_7 (fun _ h9 => h9) rfl dX6_misfitOf_9 ?_
      refine z_icmp_ge (tgt := 67) hx hb dX6_misfitOf_12 (by decide) (by omega) (fun c_1 => ?_) (fun c_1 => ?_)
      · refine lv_iload hx hb dX6_misfitOf_67 (lv_at hl 1 rfl) ?_
        exact z_iret X hK hP hD hS dX6_misfitOf_69 (by rw [hr, show k = nK by omega]; rfl)
      · refine lv_iload hx hb dX6_misfitOf_15 (lv_at hl 1 rfl) ?_
        refine lv_aload_n hx hb dX6_misfitOf_17 rfl (lv_at hl 2 rfl) ?_
        refine va_get (D := D) (ci := 6) (v := .ref (q 11)) (C := RX6) (T := TX6) (N := 21) hx hb hts n_X6 hown hK hP 0 rfl rfl 16 (by decide) f_50 (fun _ h9 => h9) rfl dX6_misfitOf_18 ?_
        refine lv_iload hx hb dX6_misfitOf_21 (lv_at hl 0 rfl) ?_
        refine z_iald hx hb hK hP 11 0 rfl rfl (by omega) dX6_misfitOf_23 ?_
        have b_2 := I.me k
        refine z_ldc (n := -100009) hx hb hown k_62 (by decide) dX6_misfitOf_24 ?_
        refine z_icmp_eq (tgt := 35) hx hb dX6_misfitOf_26 (by decide) (by omega) (fun c_3 => ?_) (fun c_3 => ?_)
        · refine lv_iconst (v := iI (0)) hx hb dX6_misfitOf_35 rfl ?_
          refine lv_goto (tgt := 58) hx hb dX6_misfitOf_36 (by decide) ?_
          refine z_iadd hx hb dX6_misfitOf_58 ?_
          refine lv_istore (lv' := [(4, .int (iI (acc + 0))), (5, .int (iI k)), (0, .ref (q 0)), (1, .int (iI s9)), (2, .int (iI p9)), (3, .int (iI w9))]) hx hb dX6_misfitOf_59 hl (by decide) rfl (fun ls hl => ?_)
          refine lv_iinc (v := iI (k + 1)) (lv' := [(5, .int (iI (k + 1))), (4, .int (iI (acc + 0))), (0, .ref (q 0)), (1, .int (iI s9)), (2, .int (iI p9)), (3, .int (iI w9))]) hx hb dX6_misfitOf_61 hl (k := 1) rfl (iI_add _ _) (by decide) rfl (fun ls hl => ?_)
          refine lv_goto (tgt := 6) hx hb dX6_misfitOf_64 (by decide) ?_
          exact ih_6 (acc + 0) (k + 1) (by omega) (by omega) (by rw [sZ_step (by omega), ← hr]; (try dsimp only); first | (rw [if_pos (by omega)]; done) | (rw [if_neg (by omega)])) _ _ _ hP hD hS (lv_sub hl [0, 1, 2, 3, 4, 5] rfl)
        · refine lv_iload hx hb dX6_misfitOf_29 (lv_at hl 0 rfl) ?_
          refine lv_iload_n hx hb dX6_misfitOf_31 rfl (lv_at hl 5 rfl) ?_
          refine z_icmp_ne (tgt := 39) hx hb dX6_misfitOf_32 (by decide) (by omega) (fun c_4 => ?_) (fun c_4 => ?_)
          · refine lv_aload_n hx hb dX6_misfitOf_39 rfl (lv_at hl 2 rfl) ?_
            refine lv_iload hx hb dX6_misfitOf_40 (lv_at hl 0 rfl) ?_
            refine lv_iload_n hx hb dX6_misfitOf_42 rfl (lv_at hl 3 rfl) ?_
            refine lv_iload_n hx hb dX6_misfitOf_43 rfl (lv_at hl 4 rfl) ?_
            refine z_callVi (ci := 6) (q0 := 0) (As := [.int (iI k), .int (iI s9), .int (iI p9)]) (rest := [.int (iI acc)]) X hK hP hD hA hS hl.1 gX6_misfitOf_X6_goalOf rfl ⟨rfl, rfl⟩ hd_X6_goalOf ⟨Nat.le_of_ble_eq_true rfl, Nat.le_of_ble_eq_true rfl⟩ rfl rfl rfl (Nat.le_of_ble_eq_true rfl) ⟨Nat.zero_le _, Nat.zero_le _⟩ rfl dX6_misfitOf_44 (c_X6_goalOf I k s9 p9 (by omega) (by omega) (by omega)) (fun H locs hP hD hS => ?_)
            have b7 := gl_b (s := s9) (p := p9) (k := k) I.ab I.bl (by omega) (by omega)
            refine lv_aload_n hx hb dX6_misfitOf_47 rfl (lv_at hl 2 rfl) ?_
            refine va_get (D := D) (ci := 6) (v := .ref (q 11)) (C := RX6) (T := TX6) (N := 21) hx hb hts n_X6 hown hK hP 0 rfl rfl 16 (by decide) f_50 (fun _ h9 => h9) rfl dX6_misfitOf_48 ?_
            refine lv_iload hx hb dX6_misfitOf_51 (lv_at hl 0 rfl) ?_
            refine z_iald hx hb hK hP 11 0 rfl rfl (by omega) dX6_misfitOf_53 ?_
            have b_5 := I.me k
            refine z_isub hx hb dX6_misfitOf_54 ?_
            refine z_callSi (As := [.int (iI ((gl ab bl s9 p9 k) - (me k)))]) (rest := [.int (iI acc)]) X hK hP hD hA hS hl.1 gX6_misfitOf_X6_size rfl ⟨rfl, rfl⟩ hd_X6_size ⟨Nat.le_of_ble_eq_true rfl, Nat.le_of_ble_eq_true rfl⟩ rfl (Nat.le_of_ble_eq_true rfl) ⟨Nat.zero_le _, Nat.zero_le _⟩ rfl dX6_misfitOf_55 (c_X6_size ((gl ab bl s9 p9 k) - (me k)) (by omega)) (fun H locs hP hD hS => ?_)
            refine z_iadd hx hb dX6_misfitOf_58 ?_
            refine lv_istore (lv' := [(4, .int (iI (acc + (aZ ((gl ab bl s9 p9 k) - (me k)))))), (5, .int (iI k)), (0, .ref (q 0)), (1, .int (iI s9)), (2, .int (iI p9)), (3, .int (iI w9))]) hx hb dX6_misfitOf_59 hl (by decide) rfl (fun ls hl => ?_)
            refine lv_iinc (v := iI (k + 1)) (lv' := [(5, .int (iI (k + 1))), (4, .int (iI (acc + (aZ ((gl ab bl s9 p9 k) - (me k)))))), (0, .ref (q 0)), (1, .int (iI s9)), (2, .int (iI p9)), (3, .int (iI w9))]) hx hb dX6_misfitOf_61 hl (k := 1) rfl (iI_add _ _) (by decide) rfl (fun ls hl => ?_)
            refine lv_goto (tgt := 6) hx hb dX6_misfitOf_64 (by decide) ?_
            exact ih_6 (acc + (aZ ((gl ab bl s9 p9 k) - (me k)))) (k + 1) (by omega) (by omega) (by rw [sZ_step (by omega), ← hr]; (try dsimp only); first | (rw [if_pos (by omega)]; done) | (rw [if_neg (by omega)])) _ _ _ hP hD hS (lv_sub hl [0, 1, 2, 3, 4, 5] rfl)
          · refine lv_iconst (v := iI (0)) hx hb dX6_misfitOf_35 rfl ?_
            refine lv_goto (tgt := 58) hx hb dX6_misfitOf_36 (by decide) ?_
            refine z_iadd hx hb dX6_misfitOf_58 ?_
            refine lv_istore (lv' := [(4, .int (iI (acc + 0))), (5, .int (iI k)), (0, .ref (q 0)), (1, .int (iI s9)), (2, .int (iI p9)), (3, .int (iI w9))]) hx hb dX6_misfitOf_59 hl (by decide) rfl (fun ls hl => ?_)
            refine lv_iinc (v := iI (k + 1)) (lv' := [(5, .int (iI (k + 1))), (4, .int (iI (acc + 0))), (0, .ref (q 0)), (1, .int (iI s9)), (2, .int (iI p9)), (3, .int (iI w9))]) hx hb dX6_misfitOf_61 hl (k := 1) rfl (iI_add _ _) (by decide) rfl (fun ls hl => ?_)
            refine lv_goto (tgt := 6) hx hb dX6_misfitOf_64 (by decide) ?_
            exact ih_6 (acc + 0) (k + 1) (by omega) (by omega) (by rw [sZ_step (by omega), ← hr]; (try dsimp only); first | (rw [if_pos (by omega)]; done) | (rw [if_neg (by omega)])) _ _ _ hP hD hS (lv_sub hl [0, 1, 2, 3, 4, 5] rfl)
  exact L_6 25 0 0 (by omega) (by omega) ((sZ_nil (by omega)).symm) _ _ _ hP hD hS (lv_sub hl [0, 1, 2, 3, 4, 5] rfl)

theorem hd_X6_pitchOf : yX6_pitchOf.cls = RX6 ∧ yX6_pitchOf.cls ≠ "java/lang/invoke/MethodHandle" ∧ yX6_pitchOf.cls ≠ "java/lang/invoke/VarHandle" ∧ (parseMethodDescriptor yX6_pitchOf.desc).map (fun d => d.parameters.length) = some 2 := by decide +kernel
set_option maxHeartbeats 4000000 in
set_option maxRecDepth 100000 in
theorem c_X6_pitchOf (I : okS nK st le be te ab bl ka bg ln ns me sc pi re bk) (s9 : Int) (w9 : Int) (h : 0 ≤ s9 ∧ s9 ≤ 4) (h3 : -2147483648 ≤ w9 ∧ w9 ≤ 2147483647) : MI l D cy yX6_pitchOf wsX6_pitchOf ({ frames := 2, cells := 0, slots := 0, locals := 48 } : Room) [.ref (q 0), .int (iI s9), .int (iI w9)] (wM q cy nK st le be te ab bl ka bg ln ns me sc pi re bk th co bs gr lo) (pitF nK me ab bl s9 w9) (wM q cy nK st le be te ab bl ka bg ln ns me sc pi re bk th co bs gr (misF nK me ab bl s9 w9)) := by
  refine MI.ofW (cc := cX6_pitchOf) (maxL := 7) (ret := (some .int)) (by decide) rfl (Nat.le_of_ble_eq_true rfl) ?_
  intro p e s m below meth c A ls X hK hP hD hA hS hl
  obtain ⟨hx, hb, hml, hr, hts, hown, hlocks⟩ := id X
  have hl : lv_has ls 7 [(0, .ref (q 0)), (1, .int (iI s9)), (2, .int (iI w9))] := hl
  have k_195 := hts (Cond.constant RX6 195 (200000)) (by decide +kernel)
  have f_179 := hts (Cond.fieldLink RX6 179 "TwoKeysModel" "leastOf" "I") (by decide +kernel)
  have n_X6 : ∀ w ∈ u_ws RX6 TX6 21, w ∈ wsX6_pitchOf := by decide +kernel
  have iK := I.nK
  refine lv_sipush (v := iI (1000)) hx hb dX6_pitchOf_0 (by decide) ?_
  refine lv_istore_n (lv' := [(3, .int (iI 1000)), (0, .ref (q 0)), (1, .int (iI s9)), (2, .int (iI w9))]) hx hb dX6_pitchOf_3 rfl hl (by decide) rfl (fun ls hl => ?_)
  refine lv_aload_n hx hb dX6_pitchOf_4 rfl (lv_at hl 1 rfl) ?_
  refine lv_iload_n hx hb dX6_pitchOf_5 rfl (lv_at hl 2 rfl) ?_
  refine lv_sipush (v := iI (1000)) hx hb dX6_pitchOf_6 (by decide) ?_
  refine lv_iload_n hx hb dX6_pitchOf_9 rfl (lv_at hl 3 rfl) ?_
  refine z_callVi (ci := 6) (q0 := 0) (As := [.int (iI s9), .int (iI 1000), .int (iI w9)]) (rest := []) X hK hP hD hA hS hl.1 gX6_pitchOf_X6_misfitOf rfl ⟨rfl, rfl⟩ hd_X6_misfitOf ⟨Nat.le_of_ble_eq_true rfl, Nat.le_of_ble_eq_true rfl⟩ rfl rfl rfl (Nat.le_of_ble_eq_true rfl) ⟨Nat.zero_le _, Nat.zero_le _⟩ rfl dX6_pitchOf_10 (c_X6_misfitOf I s9 1000 w9 (by omega) (by omega) (by omega)) (fun H locs hP hD hS => ?_)
  have m1 := mis_b (s := s9) (p := 1000) (w := w9) (nK := nK) (by omega) I.me I.ab I.bl (by omega) (by omega)
  refine lv_istore (lv' := [(4, .int (iI (mis nK me ab bl s9 1000 w9))), (3, .int (iI 1000)), (0, .ref (q 0)), (1, .int (iI s9)), (2, .int (iI w9))]) hx hb dX6_pitchOf_13 hl (by decide) rfl (fun ls hl => ?_)
  refine lv_sipush (v := iI (1020)) hx hb dX6_pitchOf_15 (by decide) ?_
  refine lv_istore (lv' := [(5, .int (iI 1020)), (4, .int (iI (mis nK me ab bl s9 1000 w9))), (3, .int (iI 1000)), (0, .ref (q 0)), (1, .int (iI s9)), (2, .int (iI w9))]) hx hb dX6_pitchOf_18 hl (by decide) rfl (fun ls hl => ?_)
  have L_20 : ∀ (n : Nat) (bp : Int) (bz : Int) (pt : Int), (h0 : 1020 ≤ pt ∧ pt ≤ 200020) → (hf : 200020 - pt < n) → (hs : 0 ≤ bz ∧ bz ≤ 38400000) → (hr : upI (fun p => mis nK me ab bl s9 p w9) 0 pt bp bz) → ∀ (H : Heap) (locs : List Loc) (ls : Array Slot), va_P D vwCl (wM q cy nK st le be te ab bl ka bg ln ns me sc pi re bk th co bs gr lo) H → va_D A (wM q cy nK st le be te ab bl ka bg ln ns me sc pi re bk th co bs gr lo) → va_S A s.heap H locs → lv_has ls 7 [(5, .int (iI pt)), (4, .int (iI bz)), (3, .int (iI bp)), (0, .ref (q 0)), (1, .int (iI s9)), (2, .int (iI w9))] → W p l e ({ frames := 2, cells := 0, slots := 0, locals := 48 } : Room) s m [.ref (q 0), .int (iI s9), .int (iI w9)].toArray below meth c H locs 0 0 (MQ below (zQi D cy (wM q cy nK st le be te ab bl ka bg ln ns me sc pi re bk th co bs gr (misF nK me ab bl s9 w9)) A (pitF nK me ab bl s9 w9)) [.ref (q 0), .int (iI s9), .int (iI w9)].toArray s 0 0 A) (F0 m 20 ls []) := by
    intro n
    induction n with
    | zero =>
      intro bp bz pt h0 hf hs hr
      exfalso; omega
    | succ n ih_20 =>
      intro bp bz pt h0 hf hs hr H locs ls hP hD hS hl
      refine lv_iload hx hb dX6_pitchOf_20 (lv_at hl 0 rfl) ?_
      refine z_ldc (n := 200000) hx hb hown k_195 (by decide) dX6_pitchOf_22 ?_
      refine z_icmp_gt (tgt := 57) hx hb dX6_pitchOf_24 (by decide) (by omega) (fun c_1 => ?_) (fun c_1 => ?_)
      · refine lv_aload_n hx hb dX6_pitchOf_57 rfl (lv_at hl 3 rfl) ?_
        refine lv_iload hx hb dX6_pitchOf_58 (lv_at hl 1 rfl) ?_
        refine va_put (D := D) (ci := 6) (v := .int (iI bz)) (ty := .int) (C := RX6) (T := TX6) (N := 21) hx hb hts n_X6 tyX6 tyX6_ok nmX6 hown hK hP hD hS 0 rfl rfl 20 (by decide) f_179 (fun _ h9 => h9) rfl (by decide +kernel) rfl rfl (Nat.le_of_ble_eq_true rfl) dX6_pitchOf_60 (fun H locs hP hD hS => ?_)
        have hP : va_P D vwCl (wM q cy nK st le be te ab bl ka bg ln ns me sc pi re bk th co bs gr bz) H := hP
        have hD : va_D A (wM q cy nK st le be te ab bl ka bg ln ns me sc pi re bk th co bs gr bz) := hD
        refine lv_iload_n hx hb dX6_pitchOf_63 rfl (lv_at hl 2 rfl) ?_
        have hw9 : wM q cy nK st le be te ab bl ka bg ln ns me sc pi re bk th co bs gr bz = wM q cy nK st le be te ab bl ka bg ln ns me sc pi re bk th co bs gr (misF nK me ab bl s9 w9) := by rw [(jn_fin (up_end hr (by omega) (by omega))).2]
        rw [hw9] at hP hD
        exact z_iret X hK hP hD hS dX6_pitchOf_64 ((jn_fin (up_end hr (by omega) (by omega))).1)
      · refine lv_aload_n hx hb dX6_pitchOf_27 rfl (lv_at hl 3 rfl) ?_
        refine lv_iload_n hx hb dX6_pitchOf_28 rfl (lv_at hl 4 rfl) ?_
        refine lv_iload hx hb dX6_pitchOf_29 (lv_at hl 0 rfl) ?_
        refine lv_iload_n hx hb dX6_pitchOf_31 rfl (lv_at hl 5 rfl) ?_
        refine z_callVi (ci := 6) (q0 := 0) (As := [.int (iI s9), .int (iI pt), .int (iI w9)]) (rest := []) X hK hP hD hA hS hl.1 gX6_pitchOf_X6_misfitOf rfl ⟨rfl, rfl⟩ hd_X6_misfitOf ⟨Nat.le_of_ble_eq_true rfl, Nat.le_of_ble_eq_true rfl⟩ rfl rfl rfl (Nat.le_of_ble_eq_true rfl) ⟨Nat.zero_le _, Nat.zero_le _⟩ rfl dX6_pitchOf_32 (c_X6_misfitOf I s9 pt w9 (by omega) (by omega) (by omega)) (fun H locs hP hD hS => ?_)
        have m2 := mis_b (s := s9) (p := (pt)) (w := w9) (nK := nK) (by omega) I.me I.ab I.bl (by omega) (by omega)
        refine lv_istore (lv' := [(6, .int (iI (mis nK me ab bl s9 pt w9))), (5, .int (iI pt)), (4, .int (iI bz)), (3, .int (iI bp)), (0, .ref (q 0)), (1, .int (iI s9)), (2, .int (iI w9))]) hx hb dX6_pitchOf_35 hl (by decide) rfl (fun ls hl => ?_)
        refine lv_iload hx hb dX6_pitchOf_37 (lv_at hl 0 rfl) ?_
        refine lv_iload hx hb dX6_pitchOf_39 (lv_at hl 2 rfl) ?_
        refine z_icmp_ge (tgt := 51) hx hb dX6_pitchOf_41 (by decide) (by omega) (fun c_2 => ?_) (fun c_2 => ?_)
        · refine lv_iinc (v := iI (pt + 20)) (lv' := [(5, .int (iI (pt + 20))), (6, .int (iI (mis nK me ab bl s9 pt w9))), (4, .int (iI bz)), (3, .int (iI bp)), (0, .ref (q 0)), (1, .int (iI s9)), (2, .int (iI w9))]) hx hb dX6_pitchOf_51 hl (k := 1) rfl (iI_add _ _) (by decide) rfl (fun ls hl => ?_)
          refine lv_goto (tgt := 20) hx hb dX6_pitchOf_54 (by decide) ?_
          exact ih_20 bp bz (pt + 20) (by omega) (by omega) (by omega) (by first | exact up_lt hr (by show mis nK me ab bl s9 pt w9 < bz; omega) | exact up_ge hr (by show bz ≤ mis nK me ab bl s9 pt w9; omega)) _ _ _ hP hD hS (lv_sub hl [0, 2, 3, 4, 5, 6] rfl)
        · refine lv_iload hx hb dX6_pitchOf_44 (lv_at hl 0 rfl) ?_
          refine lv_istore (lv' := [(4, .int (iI (mis nK me ab bl s9 pt w9))), (6, .int (iI (mis nK me ab bl s9 pt w9))), (5, .int (iI pt)), (3, .int (iI bp)), (0, .ref (q 0)), (1, .int (iI s9)), (2, .int (iI w9))]) hx hb dX6_pitchOf_46 hl (by decide) rfl (fun ls hl => ?_)
          refine lv_iload hx hb dX6_pitchOf_48 (lv_at hl 2 rfl) ?_
          refine lv_istore_n (lv' := [(3, .int (iI pt)), (4, .int (iI (mis nK me ab bl s9 pt w9))), (6, .int (iI (mis nK me ab bl s9 pt w9))), (5, .int (iI pt)), (0, .ref (q 0)), (1, .int (iI s9)), (2, .int (iI w9))]) hx hb dX6_pitchOf_50 rfl hl (by decide) rfl (fun ls hl => ?_)
          refine lv_iinc (v := iI (pt + 20)) (lv' := [(5, .int (iI (pt + 20))), (3, .int (iI pt)), (4, .int (iI (mis nK me ab bl s9 pt w9))), (6, .int (iI (mis nK me ab bl s9 pt w9))), (0, .ref (q 0)), (1, .int (iI s9)), (2, .int (iI w9))]) hx hb dX6_pitchOf_51 hl (k := 3) rfl (iI_add _ _) (by decide) rfl (fun ls hl => ?_)
          refine lv_goto (tgt := 20) hx hb dX6_pitchOf_54 (by decide) ?_
          exact ih_20 pt (mis nK me ab bl s9 pt w9) (pt + 20) (by omega) (by omega) (by omega) (by first | exact up_lt hr (by show mis nK me ab bl s9 pt w9 < bz; omega) | exact up_ge hr (by show bz ≤ mis nK me ab bl s9 pt w9; omega)) _ _ _ hP hD hS (lv_sub hl [0, 2, 1, 4, 5, 6] rfl)
  exact L_20 200000 1000 (mis nK me ab bl s9 1000 w9) 1020 (by omega) (by omega) (by omega) (up_0 (M := (fun p => mis nK me ab bl s9 p w9)) (p := 1000) (by omega) (by omega)) _ _ _ hP hD hS (lv_sub hl [0, 1, 2, 3, 4, 5] rfl)

theorem hd_X6_meantOf : yX6_meantOf.cls = RX6 ∧ yX6_meantOf.cls ≠ "java/lang/invoke/MethodHandle" ∧ yX6_meantOf.cls ≠ "java/lang/invoke/VarHandle" ∧ (parseMethodDescriptor yX6_meantOf.desc).map (fun d => d.parameters.length) = some 0 := by decide +kernel
set_option maxHeartbeats 4000000 in
set_option maxRecDepth 100000 in
theorem c_X6_meantOf (I : okS nK st le be te ab bl ka bg ln ns me sc pi re bk)   : MI l D cy yX6_meantOf wsX6_meantOf ({ frames := 3, cells := 0, slots := 0, locals := 74 } : Room) [.ref (q 0)] (wM q cy nK st le be te ab bl ka bg ln ns me sc pi re bk th co bs gr lo) (am (fun s => misF nK me ab bl s (-1)) 0 5) (wM q cy nK st le be te ab bl ka bg ln ns me sc pi re bk th co bs gr (misF nK me ab bl 4 (-1))) := by
  refine MI.ofW (cc := cX6_meantOf) (maxL := 5) (ret := (some .int)) (by decide) rfl (Nat.le_of_ble_eq_true rfl) ?_
  intro p e s m below meth c A ls X hK hP hD hA hS hl
  obtain ⟨hx, hb, hml, hr, hts, hown, hlocks⟩ := id X
  have hl : lv_has ls 5 [(0, .ref (q 0))] := hl
  have k_62 := hts (Cond.constant RX6 62 (-100009)) (by decide +kernel)
  have f_179 := hts (Cond.fieldLink RX6 179 "TwoKeysModel" "leastOf" "I") (by decide +kernel)
  have n_X6 : ∀ w ∈ u_ws RX6 TX6 21, w ∈ wsX6_meantOf := by decide +kernel
  have iK := I.nK
  refine lv_iconst (v := iI (0)) hx hb dX6_meantOf_0 rfl ?_
  refine lv_istore_n (lv' := [(1, .int (iI 0)), (0, .ref (q 0))]) hx hb dX6_meantOf_1 rfl hl (by decide) rfl (fun ls hl => ?_)
  refine lv_iconst (v := iI (0)) hx hb dX6_meantOf_2 rfl ?_
  refine lv_istore_n (lv' := [(2, .int (iI 0)), (1, .int (iI 0)), (0, .ref (q 0))]) hx hb dX6_meantOf_3 rfl hl (by decide) rfl (fun ls hl => ?_)
  refine lv_iconst (v := iI (0)) hx hb dX6_meantOf_4 rfl ?_
  refine lv_istore_n (lv' := [(3, .int (iI 0)), (2, .int (iI 0)), (1, .int (iI 0)), (0, .ref (q 0))]) hx hb dX6_meantOf_5 rfl hl (by decide) rfl (fun ls hl => ?_)
  have L_6 : ∀ (n : Nat) (ms : Int) (bz : Int) (s9 : Int) (lo1 : Int), (h0 : 0 ≤ s9 ∧ s9 ≤ 5) → (hf : 5 - s9 < n) → (hr : s9 = 0 ∨ (isAM (fun s => misF nK me ab bl s (-1)) 0 s9 ms ∧ bz = misF nK me ab bl ms (-1) ∧ lo1 = misF nK me ab bl (s9 - 1) (-1))) → (hs : 0 ≤ bz ∧ bz ≤ 38400000) → ∀ (H : Heap) (locs : List Loc) (ls : Array Slot), va_P D vwCl (wM q cy nK st le be te ab bl ka bg ln ns me sc pi re bk th co bs gr lo1) H → va_D A (wM q cy nK st le be te ab bl ka bg ln ns me sc pi re bk th co bs gr lo1) → va_S A s.heap H locs → lv_has ls 5 [(3, .int (iI s9)), (2, .int (iI bz)), (1, .int (iI ms)), (0, .ref (q 0))] → W p l e ({ frames := 3, cells := 0, slots := 0, locals := 74 } : Room) s m [.ref (q 0)].toArray below meth c H locs 0 0 (MQ below (zQi D cy (wM q cy nK st le be te ab bl ka bg ln ns me sc pi re bk th co bs gr (misF nK me ab bl 4 (-1))) A (am (fun s => misF nK me ab bl s (-1)) 0 5)) [.ref (q 0)].toArray s 0 0 A) (F0 m 6 ls []) := by
    intro n
    induction n with
    | zero =>
      intro ms bz s9 lo1 h0 hf hr hs
      exfalso; omega
    | succ n ih_6 =>
      intro ms bz s9 lo1 h0 hf hr hs H locs ls hP hD hS hl
      refine lv_iload_n hx hb dX6_meantOf_6 rfl (lv_at hl 0 rfl) ?_
      refine lv_iconst (v := iI (5)) hx hb dX6_meantOf_7 rfl ?_
      refine z_icmp_ge (tgt := 50) hx hb dX6_meantOf_8 (by decide) (by omega) (fun c_1 => ?_) (fun c_1 => ?_)
      · refine lv_iload_n hx hb dX6_meantOf_50 rfl (lv_at hl 2 rfl) ?_
        have hw9 : wM q cy nK st le be te ab bl ka bg ln ns me sc pi re bk th co bs gr lo1 = wM q cy nK st le be te ab bl ka bg ln ns me sc pi re bk th co bs gr (misF nK me ab bl 4 (-1)) := by rcases hr with q | q; (exfalso; omega); rw [show s9 = 5 by omega] at q; rw [q.2.2]; rfl
        rw [hw9] at hP hD
        exact z_iret X hK hP hD hS dX6_meantOf_51 (by rcases hr with q | q; (exfalso; omega); rw [show s9 = 5 by omega] at q; exact (am_eq q.1).symm)
      · refine lv_aload_n hx hb dX6_meantOf_11 rfl (lv_at hl 3 rfl) ?_
        refine lv_iload_n hx hb dX6_meantOf_12 rfl (lv_at hl 0 rfl) ?_
        refine z_ldc (n := -100009) hx hb hown k_62 (by decide) dX6_meantOf_13 ?_
        refine z_callVi (ci := 6) (q0 := 0) (As := [.int (iI s9), .int (iI (-100009))]) (rest := []) X hK hP hD hA hS hl.1 gX6_meantOf_X6_pitchOf rfl ⟨rfl, rfl⟩ hd_X6_pitchOf ⟨Nat.le_of_ble_eq_true rfl, Nat.le_of_ble_eq_true rfl⟩ rfl rfl rfl (Nat.le_of_ble_eq_true rfl) ⟨Nat.zero_le _, Nat.zero_le _⟩ rfl dX6_meantOf_15 (c_X6_pitchOf I s9 (-100009) (by omega) (by omega)) (fun H locs hP hD hS => ?_)
        have m1 := misF_b (nK := nK) (s := (s9)) (w := (-100009)) (by omega) I.me I.ab I.bl
        have e7 : misF nK me ab bl (s9) (-100009) = misF nK me ab bl (s9) (-1) := misF_neg (by omega)
        have pb := pitF_b (nK := nK) (me := me) (ab := ab) (bl := bl) (s := s9) (w := (-100009))
        refine lv_istore (lv' := [(4, .int (iI (pitF nK me ab bl s9 (-100009)))), (3, .int (iI s9)), (2, .int (iI bz)), (1, .int (iI ms)), (0, .ref (q 0))]) hx hb dX6_meantOf_18 hl (by decide) rfl (fun ls hl => ?_)
        refine lv_iload_n hx hb dX6_meantOf_20 rfl (lv_at hl 1 rfl) ?_
        refine z_if_eq (tgt := 37) hx hb dX6_meantOf_21 (by decide) (by omega) (fun c_2 => ?_) (fun c_2 => ?_)
        · refine lv_iload_n hx hb dX6_meantOf_37 rfl (lv_at hl 1 rfl) ?_
          refine lv_istore_n (lv' := [(1, .int (iI s9)), (4, .int (iI (pitF nK me ab bl s9 (-100009)))), (3, .int (iI s9)), (2, .int (iI bz)), (0, .ref (q 0))]) hx hb dX6_meantOf_38 rfl hl (by decide) rfl (fun ls hl => ?_)
          refine lv_aload_n hx hb dX6_meantOf_39 rfl (lv_at hl 4 rfl) ?_
          refine va_get (D := D) (ci := 6) (v := .int (iI (misF nK me ab bl s9 (-100009)))) (C := RX6) (T := TX6) (N := 21) hx hb hts n_X6 hown hK hP 0 rfl rfl 20 (by decide) f_179 (fun _ h9 => h9) rfl dX6_meantOf_40 ?_
          refine lv_istore_n (lv' := [(2, .int (iI (misF nK me ab bl s9 (-100009)))), (1, .int (iI s9)), (4, .int (iI (pitF nK me ab bl s9 (-100009)))), (3, .int (iI s9)), (0, .ref (q 0))]) hx hb dX6_meantOf_43 rfl hl (by decide) rfl (fun ls hl => ?_)
          refine lv_iinc (v := iI (s9 + 1)) (lv' := [(3, .int (iI (s9 + 1))), (2, .int (iI (misF nK me ab bl s9 (-100009)))), (1, .int (iI s9)), (4, .int (iI (pitF nK me ab bl s9 (-100009)))), (0, .ref (q 0))]) hx hb dX6_meantOf_44 hl (k := 3) rfl (iI_add _ _) (by decide) rfl (fun ls hl => ?_)
          refine lv_goto (tgt := 6) hx hb dX6_meantOf_47 (by decide) ?_
          exact ih_6 s9 (misF nK me ab bl s9 (-100009)) (s9 + 1) (misF nK me ab bl s9 (-100009)) (by omega) (by omega) (by rw [show s9 + 1 - 1 = s9 by omega, e7]; refine Or.inr ?_; first | exact ⟨by rw [show s9 = 0 by omega]; exact isAM_1, rfl, rfl⟩ | (rcases hr with q | q; (exfalso; omega); first | exact ⟨isAM_lt q.1 (by show misF nK me ab bl s9 (-1) < misF nK me ab bl ms (-1); omega), rfl, rfl⟩ | exact ⟨isAM_ge q.1 (by show misF nK me ab bl ms (-1) ≤ misF nK me ab bl s9 (-1); omega), q.2.1, rfl⟩)) (by omega) _ _ _ hP hD hS (lv_sub hl [0, 1, 2, 4] rfl)
        · refine lv_iload hx hb dX6_meantOf_24 (lv_at hl 0 rfl) ?_
          refine z_if_lt (tgt := 44) hx hb dX6_meantOf_26 (by decide) (by omega) (fun c_3 => ?_) (fun c_3 => ?_)
          · refine lv_iinc (v := iI (s9 + 1)) (lv' := [(3, .int (iI (s9 + 1))), (4, .int (iI (pitF nK me ab bl s9 (-100009)))), (2, .int (iI bz)), (1, .int (iI ms)), (0, .ref (q 0))]) hx hb dX6_meantOf_44 hl (k := 1) rfl (iI_add _ _) (by decide) rfl (fun ls hl => ?_)
            refine lv_goto (tgt := 6) hx hb dX6_meantOf_47 (by decide) ?_
            exact ih_6 ms bz (s9 + 1) (misF nK me ab bl s9 (-100009)) (by omega) (by omega) (by rw [show s9 + 1 - 1 = s9 by omega, e7]; refine Or.inr ?_; first | exact ⟨by rw [show s9 = 0 by omega]; exact isAM_1, rfl, rfl⟩ | (rcases hr with q | q; (exfalso; omega); first | exact ⟨isAM_lt q.1 (by show misF nK me ab bl s9 (-1) < misF nK me ab bl ms (-1); omega), rfl, rfl⟩ | exact ⟨isAM_ge q.1 (by show misF nK me ab bl ms (-1) ≤ misF nK me ab bl s9 (-1); omega), q.2.1, rfl⟩)) (by omega) _ _ _ hP hD hS (lv_sub hl [0, 2, 3, 4] rfl)
          · refine lv_aload_n hx hb dX6_meantOf_29 rfl (lv_at hl 4 rfl) ?_
            refine va_get (D := D) (ci := 6) (v := .int (iI (misF nK me ab bl s9 (-100009)))) (C := RX6) (T := TX6) (N := 21) hx hb hts n_X6 hown hK hP 0 rfl rfl 20 (by decide) f_179 (fun _ h9 => h9) rfl dX6_meantOf_30 ?_
            refine lv_iload_n hx hb dX6_meantOf_33 rfl (lv_at hl 2 rfl) ?_
            refine z_icmp_ge (tgt := 44) hx hb dX6_meantOf_34 (by decide) (by omega) (fun c_4 => ?_) (fun c_4 => ?_)
            · refine lv_iinc (v := iI (s9 + 1)) (lv' := [(3, .int (iI (s9 + 1))), (4, .int (iI (pitF nK me ab bl s9 (-100009)))), (2, .int (iI bz)), (1, .int (iI ms)), (0, .ref (q 0))]) hx hb dX6_meantOf_44 hl (k := 1) rfl (iI_add _ _) (by decide) rfl (fun ls hl => ?_)
              refine lv_goto (tgt := 6) hx hb dX6_meantOf_47 (by decide) ?_
              exact ih_6 ms bz (s9 + 1) (misF nK me ab bl s9 (-100009)) (by omega) (by omega) (by rw [show s9 + 1 - 1 = s9 by omega, e7]; refine Or.inr ?_; first | exact ⟨by rw [show s9 = 0 by omega]; exact isAM_1, rfl, rfl⟩ | (rcases hr with q | q; (exfalso; omega); first | exact ⟨isAM_lt q.1 (by show misF nK me ab bl s9 (-1) < misF nK me ab bl ms (-1); omega), rfl, rfl⟩ | exact ⟨isAM_ge q.1 (by show misF nK me ab bl ms (-1) ≤ misF nK me ab bl s9 (-1); omega), q.2.1, rfl⟩)) (by omega) _ _ _ hP hD hS (lv_sub hl [0, 2, 3, 4] rfl)
            · refine lv_iload_n hx hb dX6_meantOf_37 rfl (lv_at hl 1 rfl) ?_
              refine lv_istore_n (lv' := [(1, .int (iI s9)), (4, .int (iI (pitF nK me ab bl s9 (-100009)))), (3, .int (iI s9)), (2, .int (iI bz)), (0, .ref (q 0))]) hx hb dX6_meantOf_38 rfl hl (by decide) rfl (fun ls hl => ?_)
              refine lv_aload_n hx hb dX6_meantOf_39 rfl (lv_at hl 4 rfl) ?_
              refine va_get (D := D) (ci := 6) (v := .int (iI (misF nK me ab bl s9 (-100009)))) (C := RX6) (T := TX6) (N := 21) hx hb hts n_X6 hown hK hP 0 rfl rfl 20 (by decide) f_179 (fun _ h9 => h9) rfl dX6_meantOf_40 ?_
              refine lv_istore_n (lv' := [(2, .int (iI (misF nK me ab bl s9 (-100009)))), (1, .int (iI s9)), (4, .int (iI (pitF nK me ab bl s9 (-100009)))), (3, .int (iI s9)), (0, .ref (q 0))]) hx hb dX6_meantOf_43 rfl hl (by decide) rfl (fun ls hl => ?_)
              refine lv_iinc (v := iI (s9 + 1)) (lv' := [(3, .int (iI (s9 + 1))), (2, .int (iI (misF nK me ab bl s9 (-100009)))), (1, .int (iI s9)), (4, .int (iI (pitF nK me ab bl s9 (-100009)))), (0, .ref (q 0))]) hx hb dX6_meantOf_44 hl (k := 3) rfl (iI_add _ _) (by decide) rfl (fun ls hl => ?_)
              refine lv_goto (tgt := 6) hx hb dX6_meantOf_47 (by decide) ?_
              exact ih_6 s9 (misF nK me ab bl s9 (-100009)) (s9 + 1) (misF nK me ab bl s9 (-100009)) (by omega) (by omega) (by rw [show s9 + 1 - 1 = s9 by omega, e7]; refine Or.inr ?_; first | exact ⟨by rw [show s9 = 0 by omega]; exact isAM_1, rfl, rfl⟩ | (rcases hr with q | q; (exfalso; omega); first | exact ⟨isAM_lt q.1 (by show misF nK me ab bl s9 (-1) < misF nK me ab bl ms (-1); omega), rfl, rfl⟩ | exact ⟨isAM_ge q.1 (by show misF nK me ab bl ms (-1) ≤ misF nK me ab bl s9 (-1); omega), q.2.1, rfl⟩)) (by omega) _ _ _ hP hD hS (lv_sub hl [0, 1, 2, 4] rfl)
  exact L_6 6 0 0 0 lo (by omega) (by omega) (Or.inl rfl) (by omega) _ _ _ hP hD hS (lv_sub hl [0, 1, 2, 3] rfl)

theorem hd_X6_misfit : yX6_misfit.cls = RX6 ∧ yX6_misfit.cls ≠ "java/lang/invoke/MethodHandle" ∧ yX6_misfit.cls ≠ "java/lang/invoke/VarHandle" ∧ (parseMethodDescriptor yX6_misfit.desc).map (fun d => d.parameters.length) = some 2 := by decide +kernel
set_option maxHeartbeats 4000000 in
set_option maxRecDepth 100000 in
theorem c_X6_misfit (I : okS nK st le be te ab bl ka bg ln ns me sc pi re bk) (s9 : Int) (p9 : Int) (h : -2147483648 ≤ s9 ∧ s9 ≤ 2147483647 ∧ -2147483648 ≤ p9 ∧ p9 ≤ 2147483647) : MI l D cy yX6_misfit wsX6_misfit ({ frames := 2, cells := 0, slots := 0, locals := 48 } : Room) [.ref (q 0), .int (iI s9), .int (iI p9)] (wM q cy nK st le be te ab bl ka bg ln ns me sc pi re bk th co bs gr lo) (if 0 ≤ s9 ∧ s9 ≤ 4 then (if 1000 ≤ p9 ∧ p9 ≤ 200000 then mis nK me ab bl s9 p9 (-1) else (-100002)) else (-100001)) (wM q cy nK st le be te ab bl ka bg ln ns me sc pi re bk 0 co bs gr lo) := by
  refine MI.ofW (cc := cX6_misfit) (maxL := 3) (ret := (some .int)) (by decide) rfl (Nat.le_of_ble_eq_true rfl) ?_
  intro p e s m below meth c A ls X hK hP hD hA hS hl
  obtain ⟨hx, hb, hml, hr, hts, hown, hlocks⟩ := id X
  have hl : lv_has ls 3 [(0, .ref (q 0)), (1, .int (iI s9)), (2, .int (iI p9))] := hl
  have f_63 := hts (Cond.fieldLink RX6 63 "TwoKeysModel" "thrown" "I") (by decide +kernel)
  have K_128 := hts (Cond.constantLong RX6 128 (1000)) (by decide +kernel)
  have K_130 := hts (Cond.constantLong RX6 130 (200000)) (by decide +kernel)
  have k_78 := hts (Cond.constant RX6 78 (-100002)) (by decide +kernel)
  have k_62 := hts (Cond.constant RX6 62 (-100009)) (by decide +kernel)
  have k_86 := hts (Cond.constant RX6 86 (-100001)) (by decide +kernel)
  have n_X6 : ∀ w ∈ u_ws RX6 TX6 21, w ∈ wsX6_misfit := by decide +kernel
  have iK := I.nK
  refine lv_aload_n hx hb dX6_misfit_0 rfl (lv_at hl 0 rfl) ?_
  refine lv_iconst (v := iI (0)) hx hb dX6_misfit_1 rfl ?_
  refine va_put (D := D) (ci := 6) (v := .int (iI 0)) (ty := .int) (C := RX6) (T := TX6) (N := 21) hx hb hts n_X6 tyX6 tyX6_ok nmX6 hown hK hP hD hS 0 rfl rfl 0 (by decide) f_63 (fun _ h9 => h9) rfl (by decide +kernel) rfl rfl (Nat.le_of_ble_eq_true rfl) dX6_misfit_2 (fun H locs hP hD hS => ?_)
  have hP : va_P D vwCl (wM q cy nK st le be te ab bl ka bg ln ns me sc pi re bk 0 co bs gr lo) H := hP
  have hD : va_D A (wM q cy nK st le be te ab bl ka bg ln ns me sc pi re bk 0 co bs gr lo) := hD
  refine lv_iload_n hx hb dX6_misfit_5 rfl (lv_at hl 1 rfl) ?_
  refine z_callSi (As := [.int (iI s9)]) (rest := []) X hK hP hD hA hS hl.1 gX6_misfit_X6_noScale rfl ⟨rfl, rfl⟩ hd_X6_noScale ⟨Nat.le_of_ble_eq_true rfl, Nat.le_of_ble_eq_true rfl⟩ rfl (Nat.le_of_ble_eq_true rfl) ⟨Nat.zero_le _, Nat.zero_le _⟩ rfl dX6_misfit_6 (c_X6_noScale s9 (by omega)) (fun H locs hP hD hS => ?_)
  refine z_ifp_eq (tgt := 15) hx hb dX6_misfit_9 (by decide) (fun c_1 => ?_) (fun c_1 => ?_)
  · refine lv_iload_n hx hb dX6_misfit_15 rfl (lv_at hl 2 rfl) ?_
    refine z_i2l hx hb dX6_misfit_16 (by omega) ?_
    refine z_ldc2 (n := 1000) hx hb hown K_128 (by decide) dX6_misfit_17 ?_
    refine z_ldc2 (n := 200000) hx hb hown K_130 (by decide) dX6_misfit_20 ?_
    refine z_callSi (As := [.long (lI p9), .long (lI 1000), .long (lI 200000)]) (rest := []) X hK hP hD hA hS hl.1 gX6_misfit_X6_in rfl ⟨rfl, rfl⟩ hd_X6_in ⟨Nat.le_of_ble_eq_true rfl, Nat.le_of_ble_eq_true rfl⟩ rfl (Nat.le_of_ble_eq_true rfl) ⟨Nat.zero_le _, Nat.zero_le _⟩ rfl dX6_misfit_23 (c_X6_in p9 1000 200000 (by omega)) (fun H locs hP hD hS => ?_)
    refine z_ifp_eq (tgt := 40) hx hb dX6_misfit_26 (by decide) (fun c_2 => ?_) (fun c_2 => ?_)
    · refine z_ldc (n := -100002) hx hb hown k_78 (by decide) dX6_misfit_40 ?_
      exact z_iret X hK hP hD hS dX6_misfit_42 (by rw [← mis_neg (w := (-100009)) (by omega)]; (repeat' split) <;> first | rfl | omega)
    · refine lv_aload_n hx hb dX6_misfit_29 rfl (lv_at hl 0 rfl) ?_
      refine lv_iload_n hx hb dX6_misfit_30 rfl (lv_at hl 1 rfl) ?_
      refine lv_iload_n hx hb dX6_misfit_31 rfl (lv_at hl 2 rfl) ?_
      refine z_ldc (n := -100009) hx hb hown k_62 (by decide) dX6_misfit_32 ?_
      refine z_callVi (ci := 6) (q0 := 0) (As := [.int (iI s9), .int (iI p9), .int (iI (-100009))]) (rest := []) X hK hP hD hA hS hl.1 gX6_misfit_X6_misfitOf rfl ⟨rfl, rfl⟩ hd_X6_misfitOf ⟨Nat.le_of_ble_eq_true rfl, Nat.le_of_ble_eq_true rfl⟩ rfl rfl rfl (Nat.le_of_ble_eq_true rfl) ⟨Nat.zero_le _, Nat.zero_le _⟩ rfl dX6_misfit_34 (c_X6_misfitOf I s9 p9 (-100009) (by omega) (by omega) (by omega)) (fun H locs hP hD hS => ?_)
      refine lv_goto (tgt := 42) hx hb dX6_misfit_37 (by decide) ?_
      exact z_iret X hK hP hD hS dX6_misfit_42 (by rw [← mis_neg (w := (-100009)) (by omega)]; (repeat' split) <;> first | rfl | omega)
  · refine z_ldc (n := -100001) hx hb hown k_86 (by decide) dX6_misfit_12 ?_
    exact z_iret X hK hP hD hS dX6_misfit_14 (by rw [← mis_neg (w := (-100009)) (by omega)]; (repeat' split) <;> first | rfl | omega)

theorem hd_X6_found : yX6_found.cls = RX6 ∧ yX6_found.cls ≠ "java/lang/invoke/MethodHandle" ∧ yX6_found.cls ≠ "java/lang/invoke/VarHandle" ∧ (parseMethodDescriptor yX6_found.desc).map (fun d => d.parameters.length) = some 2 := by decide +kernel
set_option maxHeartbeats 4000000 in
set_option maxRecDepth 100000 in
theorem c_X6_found (I : okS nK st le be te ab bl ka bg ln ns me sc pi re bk) (s9 : Int) (w7 : Int) (h : -2147483648 ≤ s9 ∧ s9 ≤ 2147483647 ∧ -2147483648 ≤ w7 ∧ w7 ≤ 2147483647) : MR l D cy yX6_found wsX6_found ({ frames := 3, cells := 0, slots := 0, locals := 74 } : Room) [.ref (q 0), .int (iI s9), .int (iI w7)] (wM q cy nK st le be te ab bl ka bg ln ns me sc pi re bk th co bs gr lo) (fun r8 w8 => ∃ lo2 : Int, w8 = wM q cy nK st le be te ab bl ka bg ln ns me sc pi re bk 0 co bs gr lo2 ∧ r8 = if 0 ≤ s9 ∧ s9 ≤ 4 then (if 0 ≤ w7 ∧ w7 ≤ 1 then (if cm nK me = 0 then (-100003) else (if w7 = 0 then (pitF nK me ab bl s9 (-1)) else misF nK me ab bl s9 (-1))) else (-100002)) else (-100001)) := by
  refine MR.ofW (cc := cX6_found) (maxL := 4) (ret := (some .int)) (by decide) rfl (Nat.le_of_ble_eq_true rfl) ?_
  intro p e s m below meth c A ls X hK hP hD hA hS hl
  obtain ⟨hx, hb, hml, hr, hts, hown, hlocks⟩ := id X
  have hl : lv_has ls 4 [(0, .ref (q 0)), (1, .int (iI s9)), (2, .int (iI w7))] := hl
  have f_63 := hts (Cond.fieldLink RX6 63 "TwoKeysModel" "thrown" "I") (by decide +kernel)
  have k_62 := hts (Cond.constant RX6 62 (-100009)) (by decide +kernel)
  have f_179 := hts (Cond.fieldLink RX6 179 "TwoKeysModel" "leastOf" "I") (by decide +kernel)
  have k_148 := hts (Cond.constant RX6 148 (-100003)) (by decide +kernel)
  have k_78 := hts (Cond.constant RX6 78 (-100002)) (by decide +kernel)
  have k_86 := hts (Cond.constant RX6 86 (-100001)) (by decide +kernel)
  have n_X6 : ∀ w ∈ u_ws RX6 TX6 21, w ∈ wsX6_found := by decide +kernel
  have iK := I.nK
  have cb := cm_b (nK := nK) (me := me) (by omega)
  refine lv_aload_n hx hb dX6_found_0 rfl (lv_at hl 0 rfl) ?_
  refine lv_iconst (v := iI (0)) hx hb dX6_found_1 rfl ?_
  refine va_put (D := D) (ci := 6) (v := .int (iI 0)) (ty := .int) (C := RX6) (T := TX6) (N := 21) hx hb hts n_X6 tyX6 tyX6_ok nmX6 hown hK hP hD hS 0 rfl rfl 0 (by decide) f_63 (fun _ h9 => h9) rfl (by decide +kernel) rfl rfl (Nat.le_of_ble_eq_true rfl) dX6_found_2 (fun H locs hP hD hS => ?_)
  have hP : va_P D vwCl (wM q cy nK st le be te ab bl ka bg ln ns me sc pi re bk 0 co bs gr lo) H := hP
  have hD : va_D A (wM q cy nK st le be te ab bl ka bg ln ns me sc pi re bk 0 co bs gr lo) := hD
  refine lv_iload_n hx hb dX6_found_5 rfl (lv_at hl 1 rfl) ?_
  refine z_callSi (As := [.int (iI s9)]) (rest := []) X hK hP hD hA hS hl.1 gX6_found_X6_noScale rfl ⟨rfl, rfl⟩ hd_X6_noScale ⟨Nat.le_of_ble_eq_true rfl, Nat.le_of_ble_eq_true rfl⟩ rfl (Nat.le_of_ble_eq_true rfl) ⟨Nat.zero_le _, Nat.zero_le _⟩ rfl dX6_found_6 (c_X6_noScale s9 (by omega)) (fun H locs hP hD hS => ?_)
  refine z_ifp_eq (tgt := 15) hx hb dX6_found_9 (by decide) (fun c_1 => ?_) (fun c_1 => ?_)
  · refine lv_iload_n hx hb dX6_found_15 rfl (lv_at hl 2 rfl) ?_
    refine z_i2l hx hb dX6_found_16 (by omega) ?_
    refine lv_lconst (v := lI (0)) hx hb dX6_found_17 (by decide) ?_
    refine lv_lconst (v := lI (1)) hx hb dX6_found_18 (by decide) ?_
    refine z_callSi (As := [.long (lI w7), .long (lI 0), .long (lI 1)]) (rest := []) X hK hP hD hA hS hl.1 gX6_found_X6_in rfl ⟨rfl, rfl⟩ hd_X6_in ⟨Nat.le_of_ble_eq_true rfl, Nat.le_of_ble_eq_true rfl⟩ rfl (Nat.le_of_ble_eq_true rfl) ⟨Nat.zero_le _, Nat.zero_le _⟩ rfl dX6_found_19 (c_X6_in w7 0 1 (by omega)) (fun H locs hP hD hS => ?_)
    refine z_ifp_ne (tgt := 28) hx hb dX6_found_22 (by decide) (fun c_2 => ?_) (fun c_2 => ?_)
    · refine lv_aload_n hx hb dX6_found_28 rfl (lv_at hl 0 rfl) ?_
      refine z_callVi (ci := 6) (q0 := 0) (As := []) (rest := []) X hK hP hD hA hS hl.1 gX6_found_X6_measuredKeys rfl ⟨rfl, rfl⟩ hd_X6_measuredKeys ⟨Nat.le_of_ble_eq_true rfl, Nat.le_of_ble_eq_true rfl⟩ rfl rfl rfl (Nat.le_of_ble_eq_true rfl) ⟨Nat.zero_le _, Nat.zero_le _⟩ rfl dX6_found_29 (c_X6_measuredKeys I) (fun H locs hP hD hS => ?_)
      refine z_if_ne (tgt := 38) hx hb dX6_found_32 (by decide) (by omega) (fun c_3 => ?_) (fun c_3 => ?_)
      · refine lv_aload_n hx hb dX6_found_38 rfl (lv_at hl 0 rfl) ?_
        refine lv_iload_n hx hb dX6_found_39 rfl (lv_at hl 1 rfl) ?_
        refine z_ldc (n := -100009) hx hb hown k_62 (by decide) dX6_found_40 ?_
        refine z_callVi (ci := 6) (q0 := 0) (As := [.int (iI s9), .int (iI (-100009))]) (rest := []) X hK hP hD hA hS hl.1 gX6_found_X6_pitchOf rfl ⟨rfl, rfl⟩ hd_X6_pitchOf ⟨Nat.le_of_ble_eq_true rfl, Nat.le_of_ble_eq_true rfl⟩ rfl rfl rfl (Nat.le_of_ble_eq_true rfl) ⟨Nat.zero_le _, Nat.zero_le _⟩ rfl dX6_found_42 (c_X6_pitchOf I s9 (-100009) (by omega) (by omega)) (fun H locs hP hD hS => ?_)
        refine lv_istore_n (lv' := [(3, .int (iI (pitF nK me ab bl s9 (-100009)))), (0, .ref (q 0)), (1, .int (iI s9)), (2, .int (iI w7))]) hx hb dX6_found_45 rfl hl (by decide) rfl (fun ls hl => ?_)
        refine lv_iload_n hx hb dX6_found_46 rfl (lv_at hl 3 rfl) ?_
        refine z_if_ne (tgt := 54) hx hb dX6_found_47 (by decide) (by omega) (fun c_4 => ?_) (fun c_4 => ?_)
        · refine lv_aload_n hx hb dX6_found_54 rfl (lv_at hl 1 rfl) ?_
          refine va_get (D := D) (ci := 6) (v := .int (iI (misF nK me ab bl s9 (-100009)))) (C := RX6) (T := TX6) (N := 21) hx hb hts n_X6 hown hK hP 0 rfl rfl 20 (by decide) f_179 (fun _ h9 => h9) rfl dX6_found_55 ?_
          exact z_iretR X hK hP hD hS dX6_found_58 (⟨_, rfl, by rw [← pitF_neg (w := (-100009)) (by omega), ← misF_neg (w := (-100009)) (by omega)]; (repeat' split) <;> first | rfl | omega⟩)
        · refine lv_iload_n hx hb dX6_found_50 rfl (lv_at hl 0 rfl) ?_
          refine lv_goto (tgt := 58) hx hb dX6_found_51 (by decide) ?_
          exact z_iretR X hK hP hD hS dX6_found_58 (⟨_, rfl, by rw [← pitF_neg (w := (-100009)) (by omega), ← misF_neg (w := (-100009)) (by omega)]; (repeat' split) <;> first | rfl | omega⟩)
      · refine z_ldc (n := -100003) hx hb hown k_148 (by decide) dX6_found_35 ?_
        exact z_iretR X hK hP hD hS dX6_found_37 (⟨_, rfl, by rw [← pitF_neg (w := (-100009)) (by omega), ← misF_neg (w := (-100009)) (by omega)]; (repeat' split) <;> first | rfl | omega⟩)
    · refine z_ldc (n := -100002) hx hb hown k_78 (by decide) dX6_found_25 ?_
      exact z_iretR X hK hP hD hS dX6_found_27 (⟨_, rfl, by rw [← pitF_neg (w := (-100009)) (by omega), ← misF_neg (w := (-100009)) (by omega)]; (repeat' split) <;> first | rfl | omega⟩)
  · refine z_ldc (n := -100001) hx hb hown k_86 (by decide) dX6_found_12 ?_
    exact z_iretR X hK hP hD hS dX6_found_14 (⟨_, rfl, by rw [← pitF_neg (w := (-100009)) (by omega), ← misF_neg (w := (-100009)) (by omega)]; (repeat' split) <;> first | rfl | omega⟩)

theorem hd_X6_meant : yX6_meant.cls = RX6 ∧ yX6_meant.cls ≠ "java/lang/invoke/MethodHandle" ∧ yX6_meant.cls ≠ "java/lang/invoke/VarHandle" ∧ (parseMethodDescriptor yX6_meant.desc).map (fun d => d.parameters.length) = some 0 := by decide +kernel
set_option maxHeartbeats 4000000 in
set_option maxRecDepth 100000 in
theorem c_X6_meant (I : okS nK st le be te ab bl ka bg ln ns me sc pi re bk)   : MR l D cy yX6_meant wsX6_meant ({ frames := 4, cells := 0, slots := 0, locals := 98 } : Room) [.ref (q 0)] (wM q cy nK st le be te ab bl ka bg ln ns me sc pi re bk th co bs gr lo) (fun r8 w8 => ∃ lo2 : Int, w8 = wM q cy nK st le be te ab bl ka bg ln ns me sc pi re bk 0 co bs gr lo2 ∧ r8 = if cm nK me = 0 then (-100003) else (am (fun s => misF nK me ab bl s (-1)) 0 5)) := by
  refine MR.ofW (cc := cX6_meant) (maxL := 1) (ret := (some .int)) (by decide) rfl (Nat.le_of_ble_eq_true rfl) ?_
  intro p e s m below meth c A ls X hK hP hD hA hS hl
  obtain ⟨hx, hb, hml, hr, hts, hown, hlocks⟩ := id X
  have hl : lv_has ls 1 [(0, .ref (q 0))] := hl
  have f_63 := hts (Cond.fieldLink RX6 63 "TwoKeysModel" "thrown" "I") (by decide +kernel)
  have k_148 := hts (Cond.constant RX6 148 (-100003)) (by decide +kernel)
  have n_X6 : ∀ w ∈ u_ws RX6 TX6 21, w ∈ wsX6_meant := by decide +kernel
  have iK := I.nK
  have cb := cm_b (nK := nK) (me := me) (by omega)
  refine lv_aload_n hx hb dX6_meant_0 rfl (lv_at hl 0 rfl) ?_
  refine lv_iconst (v := iI (0)) hx hb dX6_meant_1 rfl ?_
  refine va_put (D := D) (ci := 6) (v := .int (iI 0)) (ty := .int) (C := RX6) (T := TX6) (N := 21) hx hb hts n_X6 tyX6 tyX6_ok nmX6 hown hK hP hD hS 0 rfl rfl 0 (by decide) f_63 (fun _ h9 => h9) rfl (by decide +kernel) rfl rfl (Nat.le_of_ble_eq_true rfl) dX6_meant_2 (fun H locs hP hD hS => ?_)
  have hP : va_P D vwCl (wM q cy nK st le be te ab bl ka bg ln ns me sc pi re bk 0 co bs gr lo) H := hP
  have hD : va_D A (wM q cy nK st le be te ab bl ka bg ln ns me sc pi re bk 0 co bs gr lo) := hD
  refine lv_aload_n hx hb dX6_meant_5 rfl (lv_at hl 0 rfl) ?_
  refine z_callVi (ci := 6) (q0 := 0) (As := []) (rest := []) X hK hP hD hA hS hl.1 gX6_meant_X6_measuredKeys rfl ⟨rfl, rfl⟩ hd_X6_measuredKeys ⟨Nat.le_of_ble_eq_true rfl, Nat.le_of_ble_eq_true rfl⟩ rfl rfl rfl (Nat.le_of_ble_eq_true rfl) ⟨Nat.zero_le _, Nat.zero_le _⟩ rfl dX6_meant_6 (c_X6_measuredKeys I) (fun H locs hP hD hS => ?_)
  refine z_if_ne (tgt := 17) hx hb dX6_meant_9 (by decide) (by omega) (fun c_1 => ?_) (fun c_1 => ?_)
  · refine lv_aload_n hx hb dX6_meant_17 rfl (lv_at hl 0 rfl) ?_
    refine z_callVi (ci := 6) (q0 := 0) (As := []) (rest := []) X hK hP hD hA hS hl.1 gX6_meant_X6_meantOf rfl ⟨rfl, rfl⟩ hd_X6_meantOf ⟨Nat.le_of_ble_eq_true rfl, Nat.le_of_ble_eq_true rfl⟩ rfl rfl rfl (Nat.le_of_ble_eq_true rfl) ⟨Nat.zero_le _, Nat.zero_le _⟩ rfl dX6_meant_18 (c_X6_meantOf I) (fun H locs hP hD hS => ?_)
    exact z_iretR X hK hP hD hS dX6_meant_21 (⟨_, rfl, by (repeat' split) <;> first | rfl | omega⟩)
  · refine z_ldc (n := -100003) hx hb hown k_148 (by decide) dX6_meant_12 ?_
    refine lv_goto (tgt := 21) hx hb dX6_meant_14 (by decide) ?_
    exact z_iretR X hK hP hD hS dX6_meant_21 (⟨_, rfl, by (repeat' split) <;> first | rfl | omega⟩)

theorem hd_X6_added : yX6_added.cls = RX6 ∧ yX6_added.cls ≠ "java/lang/invoke/MethodHandle" ∧ yX6_added.cls ≠ "java/lang/invoke/VarHandle" ∧ (parseMethodDescriptor yX6_added.desc).map (fun d => d.parameters.length) = some 1 := by decide +kernel
set_option maxHeartbeats 4000000 in
set_option maxRecDepth 100000 in
theorem c_X6_added (I : okS nK st le be te ab bl ka bg ln ns me sc pi re bk) (w7 : Int) (h : -2147483648 ≤ w7 ∧ w7 ≤ 2147483647) : MR l D cy yX6_added wsX6_added ({ frames := 4, cells := 0, slots := 0, locals := 98 } : Room) [.ref (q 0), .int (iI w7)] (wM q cy nK st le be te ab bl ka bg ln ns me sc pi re bk th co bs gr lo) (fun r8 w8 => ∃ lo2 : Int, w8 = wM q cy nK st le be te ab bl ka bg ln ns me sc pi re bk 0 co bs gr lo2 ∧ r8 = if 0 ≤ w7 ∧ w7 ≤ 1 then (if cm nK me < 2 then (-100003) else (if w7 = 0 then am (gk nK me ab bl (am (fun s => misF nK me ab bl s (-1)) 0 5)) 0 nK else (gk nK me ab bl (am (fun s => misF nK me ab bl s (-1)) 0 5)) (am (gk nK me ab bl (am (fun s => misF nK me ab bl s (-1)) 0 5)) 0 nK))) else (-100002)) := by
  refine MR.ofW (cc := cX6_added) (maxL := 7) (ret := (some .int)) (by decide) rfl (Nat.le_of_ble_eq_true rfl) ?_
  intro p e s m below meth c A ls X hK hP hD hA hS hl
  obtain ⟨hx, hb, hml, hr, hts, hown, hlocks⟩ := id X
  have hl : lv_has ls 7 [(0, .ref (q 0)), (1, .int (iI w7))] := hl
  have f_63 := hts (Cond.fieldLink RX6 63 "TwoKeysModel" "thrown" "I") (by decide +kernel)
  have k_62 := hts (Cond.constant RX6 62 (-100009)) (by decide +kernel)
  have f_7 := hts (Cond.fieldLink RX6 7 "TwoKeysModel" "keys" "I") (by decide +kernel)
  have f_50 := hts (Cond.fieldLink RX6 50 "TwoKeysModel" "measured" "[I") (by decide +kernel)
  have f_179 := hts (Cond.fieldLink RX6 179 "TwoKeysModel" "leastOf" "I") (by decide +kernel)
  have k_148 := hts (Cond.constant RX6 148 (-100003)) (by decide +kernel)
  have k_78 := hts (Cond.constant RX6 78 (-100002)) (by decide +kernel)
  have n_X6 : ∀ w ∈ u_ws RX6 TX6 21, w ∈ wsX6_added := by decide +kernel
  have iK := I.nK
  have cb := cm_b (nK := nK) (me := me) (by omega)
  have ma := am_is (g := fun s => misF nK me ab bl s (-1)) (lo := 0) (hi := 5) (by omega)
  have ma1 := ma.1
  have ma2 := ma.2.1
  have g1 : ∀ j, me j = -100009 → (gk nK me ab bl (am (fun s => misF nK me ab bl s (-1)) 0 5)) j = 1000000000 := fun j h => if_pos h
  have g2 : ∀ j, me j ≠ -100009 → (gk nK me ab bl (am (fun s => misF nK me ab bl s (-1)) 0 5)) j = misF nK me ab bl (am (fun s => misF nK me ab bl s (-1)) 0 5) j := fun j h => if_neg h
  refine lv_aload_n hx hb dX6_added_0 rfl (lv_at hl 0 rfl) ?_
  refine lv_iconst (v := iI (0)) hx hb dX6_added_1 rfl ?_
  refine va_put (D := D) (ci := 6) (v := .int (iI 0)) (ty := .int) (C := RX6) (T := TX6) (N := 21) hx hb hts n_X6 tyX6 tyX6_ok nmX6 hown hK hP hD hS 0 rfl rfl 0 (by decide) f_63 (fun _ h9 => h9) rfl (by decide +kernel) rfl rfl (Nat.le_of_ble_eq_true rfl) dX6_added_2 (fun H locs hP hD hS => ?_)
  have hP : va_P D vwCl (wM q cy nK st le be te ab bl ka bg ln ns me sc pi re bk 0 co bs gr lo) H := hP
  have hD : va_D A (wM q cy nK st le be te ab bl ka bg ln ns me sc pi re bk 0 co bs gr lo) := hD
  refine lv_iload_n hx hb dX6_added_5 rfl (lv_at hl 1 rfl) ?_
  refine z_i2l hx hb dX6_added_6 (by omega) ?_
  refine lv_lconst (v := lI (0)) hx hb dX6_added_7 (by decide) ?_
  refine lv_lconst (v := lI (1)) hx hb dX6_added_8 (by decide) ?_
  refine z_callSi (As := [.long (lI w7), .long (lI 0), .long (lI 1)]) (rest := []) X hK hP hD hA hS hl.1 gX6_added_X6_in rfl ⟨rfl, rfl⟩ hd_X6_in ⟨Nat.le_of_ble_eq_true rfl, Nat.le_of_ble_eq_true rfl⟩ rfl (Nat.le_of_ble_eq_true rfl) ⟨Nat.zero_le _, Nat.zero_le _⟩ rfl dX6_added_9 (c_X6_in w7 0 1 (by omega)) (fun H locs hP hD hS => ?_)
  refine z_ifp_ne (tgt := 18) hx hb dX6_added_12 (by decide) (fun c_1 => ?_) (fun c_1 => ?_)
  · refine lv_aload_n hx hb dX6_added_18 rfl (lv_at hl 0 rfl) ?_
    refine z_callVi (ci := 6) (q0 := 0) (As := []) (rest := []) X hK hP hD hA hS hl.1 gX6_added_X6_measuredKeys rfl ⟨rfl, rfl⟩ hd_X6_measuredKeys ⟨Nat.le_of_ble_eq_true rfl, Nat.le_of_ble_eq_true rfl⟩ rfl rfl rfl (Nat.le_of_ble_eq_true rfl) ⟨Nat.zero_le _, Nat.zero_le _⟩ rfl dX6_added_19 (c_X6_measuredKeys I) (fun H locs hP hD hS => ?_)
    refine lv_iconst (v := iI (2)) hx hb dX6_added_22 rfl ?_
    refine z_icmp_ge (tgt := 29) hx hb dX6_added_23 (by decide) (by omega) (fun c_2 => ?_) (fun c_2 => ?_)
    · refine lv_aload_n hx hb dX6_added_29 rfl (lv_at hl 0 rfl) ?_
      refine z_callVi (ci := 6) (q0 := 0) (As := []) (rest := []) X hK hP hD hA hS hl.1 gX6_added_X6_meantOf rfl ⟨rfl, rfl⟩ hd_X6_meantOf ⟨Nat.le_of_ble_eq_true rfl, Nat.le_of_ble_eq_true rfl⟩ rfl rfl rfl (Nat.le_of_ble_eq_true rfl) ⟨Nat.zero_le _, Nat.zero_le _⟩ rfl dX6_added_30 (c_X6_meantOf I) (fun H locs hP hD hS => ?_)
      refine lv_istore_n (lv' := [(2, .int (iI (am (fun s => misF nK me ab bl s (-1)) 0 5))), (0, .ref (q 0)), (1, .int (iI w7))]) hx hb dX6_added_33 rfl hl (by decide) rfl (fun ls hl => ?_)
      refine z_ldc (n := -100009) hx hb hown k_62 (by decide) dX6_added_34 ?_
      refine lv_istore_n (lv' := [(3, .int (iI (-100009))), (2, .int (iI (am (fun s => misF nK me ab bl s (-1)) 0 5))), (0, .ref (q 0)), (1, .int (iI w7))]) hx hb dX6_added_36 rfl hl (by decide) rfl (fun ls hl => ?_)
      refine lv_iconst (v := iI (0)) hx hb dX6_added_37 rfl ?_
      refine lv_istore (lv' := [(4, .int (iI 0)), (3, .int (iI (-100009))), (2, .int (iI (am (fun s => misF nK me ab bl s (-1)) 0 5))), (0, .ref (q 0)), (1, .int (iI w7))]) hx hb dX6_added_38 hl (by decide) rfl (fun ls hl => ?_)
      refine lv_iconst (v := iI (0)) hx hb dX6_added_40 rfl ?_
      refine lv_istore (lv' := [(5, .int (iI 0)), (4, .int (iI 0)), (3, .int (iI (-100009))), (2, .int (iI (am (fun s => misF nK me ab bl s (-1)) 0 5))), (0, .ref (q 0)), (1, .int (iI w7))]) hx hb dX6_added_41 hl (by decide) rfl (fun ls hl => ?_)
      have L_43 : ∀ (n : Nat) (ak : Int) (bz : Int) (k : Int) (lo1 : Int), (h0 : 0 ≤ k ∧ k ≤ nK) → (hf : nK - k < n) → (hr : adI (gk nK me ab bl (am (fun s => misF nK me ab bl s (-1)) 0 5)) me k ak bz (-100009)) → (hs : 0 ≤ bz ∧ bz ≤ 38400000) → (hk : ak = -100009 ∨ (0 ≤ ak ∧ ak < 24)) → ∀ (H : Heap) (locs : List Loc) (ls : Array Slot), va_P D vwCl (wM q cy nK st le be te ab bl ka bg ln ns me sc pi re bk 0 co bs gr lo1) H → va_D A (wM q cy nK st le be te ab bl ka bg ln ns me sc pi re bk 0 co bs gr lo1) → va_S A s.heap H locs → lv_has ls 7 [(5, .int (iI k)), (4, .int (iI bz)), (3, .int (iI ak)), (2, .int (iI (am (fun s => misF nK me ab bl s (-1)) 0 5))), (0, .ref (q 0)), (1, .int (iI w7))] → W p l e ({ frames := 4, cells := 0, slots := 0, locals := 98 } : Room) s m [.ref (q 0), .int (iI w7)].toArray below meth c H locs 0 0 (MQ below (zQr D cy A (fun r8 w8 => ∃ lo2 : Int, w8 = wM q cy nK st le be te ab bl ka bg ln ns me sc pi re bk 0 co bs gr lo2 ∧ r8 = if 0 ≤ w7 ∧ w7 ≤ 1 then (if cm nK me < 2 then (-100003) else (if w7 = 0 then am (gk nK me ab bl (am (fun s => misF nK me ab bl s (-1)) 0 5)) 0 nK else (gk nK me ab bl (am (fun s => misF nK me ab bl s (-1)) 0 5)) (am (gk nK me ab bl (am (fun s => misF nK me ab bl s (-1)) 0 5)) 0 nK))) else (-100002))) [.ref (q 0), .int (iI w7)].toArray s 0 0 A) (F0 m 43 ls []) := by
        intro n
        induction n with
        | zero =>
          intro ak bz k lo1 h0 hf hr hs hk
          exfalso; omega
        | succ n ih_43 =>
          intro ak bz k lo1 h0 hf hr hs hk H locs ls hP hD hS hl
          refine lv_iload hx hb dX6_added_43 (lv_at hl 0 rfl) ?_
          refine lv_aload_n hx hb dX6_added_45 rfl (lv_at hl 4 rfl) ?_
          refine va_get (D := D) (ci := 6) (v := .int (iI nK)) (C := RX6) (T := TX6) (N := 21) hx hb hts n_X6 hown hK hP 0 rfl rfl 1 (by decide) f_7 (fun _ h9 => h9) rfl dX6_added_46 ?_
          refine z_icmp_ge (tgt := 108) hx hb dX6_added_49 (by decide) (by omega) (fun c_3 => ?_) (fun c_3 => ?_)
          · refine lv_iload_n hx hb dX6_added_108 rfl (lv_at hl 5 rfl) ?_
            refine z_if_ne (tgt := 116) hx hb dX6_added_109 (by decide) (by omega) (fun c_4 => ?_) (fun c_4 => ?_)
            · refine lv_iload hx hb dX6_added_116 (lv_at hl 1 rfl) ?_
              exact z_iretR X hK hP hD hS dX6_added_118 (by have z := ad_end hr (by rw [show k = nK by omega]; exact cm_ex (by omega)); rw [show k = nK by omega] at z; exact ⟨lo1, rfl, by rw [if_pos (by omega), if_neg (by omega)]; first | (rw [if_pos (by omega)]; exact z.1) | (rw [if_neg (by omega)]; exact z.2)⟩)
            · refine lv_iload_n hx hb dX6_added_112 rfl (lv_at hl 2 rfl) ?_
              refine lv_goto (tgt := 118) hx hb dX6_added_113 (by decide) ?_
              exact z_iretR X hK hP hD hS dX6_added_118 (by have z := ad_end hr (by rw [show k = nK by omega]; exact cm_ex (by omega)); rw [show k = nK by omega] at z; exact ⟨lo1, rfl, by rw [if_pos (by omega), if_neg (by omega)]; first | (rw [if_pos (by omega)]; exact z.1) | (rw [if_neg (by omega)]; exact z.2)⟩)
          · refine lv_aload_n hx hb dX6_added_52 rfl (lv_at hl 4 rfl) ?_
            refine va_get (D := D) (ci := 6) (v := .ref (q 11)) (C := RX6) (T := TX6) (N := 21) hx hb hts n_X6 hown hK hP 0 rfl rfl 16 (by decide) f_50 (fun _ h9 => h9) rfl dX6_added_53 ?_
            refine lv_iload hx hb dX6_added_56 (lv_at hl 0 rfl) ?_
            refine z_iald hx hb hK hP 11 0 rfl rfl (by omega) dX6_added_58 ?_
            have b_5 := I.me k
            refine z_ldc (n := -100009) hx hb hown k_62 (by decide) dX6_added_59 ?_
            refine z_icmp_eq (tgt := 102) hx hb dX6_added_61 (by decide) (by omega) (fun c_6 => ?_) (fun c_6 => ?_)
            · refine lv_iinc (v := iI (k + 1)) (lv' := [(5, .int (iI (k + 1))), (4, .int (iI bz)), (3, .int (iI ak)), (2, .int (iI (am (fun s => misF nK me ab bl s (-1)) 0 5))), (0, .ref (q 0)), (1, .int (iI w7))]) hx hb dX6_added_102 hl (k := 0) rfl (iI_add _ _) (by decide) rfl (fun ls hl => ?_)
              refine lv_goto (tgt := 43) hx hb dX6_added_105 (by decide) ?_
              exact ih_43 ak bz (k + 1) lo1 (by omega) (by omega) (by first | exact ad_skip hr (by assumption) (g1 _ (by assumption)) (by omega) | (rw [← g2 k (by assumption)]; exact ad_first hr (by omega) (by assumption) (by omega) (by assumption) (by rw [g2 k (by assumption)]; omega) g1) | (rw [← g2 k (by assumption)]; exact ad_lt hr (by assumption) (by assumption) (by rw [g2 k (by assumption)]; omega)) | exact ad_ge hr (by assumption) (by rw [g2 k (by assumption)]; omega)) (by omega) (by omega) _ _ _ hP hD hS (lv_sub hl [0, 1, 2, 3, 4, 5] rfl)
            · refine lv_aload_n hx hb dX6_added_64 rfl (lv_at hl 4 rfl) ?_
              refine lv_iload_n hx hb dX6_added_65 rfl (lv_at hl 3 rfl) ?_
              refine lv_iload hx hb dX6_added_66 (lv_at hl 0 rfl) ?_
              refine z_callVi (ci := 6) (q0 := 0) (As := [.int (iI (am (fun s => misF nK me ab bl s (-1)) 0 5)), .int (iI k)]) (rest := []) X hK hP hD hA hS hl.1 gX6_added_X6_pitchOf rfl ⟨rfl, rfl⟩ hd_X6_pitchOf ⟨Nat.le_of_ble_eq_true rfl, Nat.le_of_ble_eq_true rfl⟩ rfl rfl rfl (Nat.le_of_ble_eq_true rfl) ⟨Nat.zero_le _, Nat.zero_le _⟩ rfl dX6_added_68 (c_X6_pitchOf I (am (fun s => misF nK me ab bl s (-1)) 0 5) k (by omega) (by omega)) (fun H locs hP hD hS => ?_)
              have m1 := misF_b (nK := nK) (s := (am (fun s => misF nK me ab bl s (-1)) 0 5)) (w := (k)) (by omega) I.me I.ab I.bl
              have pb := pitF_b (nK := nK) (me := me) (ab := ab) (bl := bl) (s := (am (fun s => misF nK me ab bl s (-1)) 0 5)) (w := k)
              refine lv_istore (lv' := [(6, .int (iI (pitF nK me ab bl (am (fun s => misF nK me ab bl s (-1)) 0 5) k))), (5, .int (iI k)), (4, .int (iI bz)), (3, .int (iI ak)), (2, .int (iI (am (fun s => misF nK me ab bl s (-1)) 0 5))), (0, .ref (q 0)), (1, .int (iI w7))]) hx hb dX6_added_71 hl (by decide) rfl (fun ls hl => ?_)
              refine lv_iload_n hx hb dX6_added_73 rfl (lv_at hl 3 rfl) ?_
              refine z_ldc (n := -100009) hx hb hown k_62 (by decide) dX6_added_74 ?_
              refine z_icmp_eq (tgt := 93) hx hb dX6_added_76 (by decide) (by omega) (fun c_7 => ?_) (fun c_7 => ?_)
              · refine lv_iload hx hb dX6_added_93 (lv_at hl 1 rfl) ?_
                refine lv_istore_n (lv' := [(3, .int (iI k)), (6, .int (iI (pitF nK me ab bl (am (fun s => misF nK me ab bl s (-1)) 0 5) k))), (5, .int (iI k)), (4, .int (iI bz)), (2, .int (iI (am (fun s => misF nK me ab bl s (-1)) 0 5))), (0, .ref (q 0)), (1, .int (iI w7))]) hx hb dX6_added_95 rfl hl (by decide) rfl (fun ls hl => ?_)
                refine lv_aload_n hx hb dX6_added_96 rfl (lv_at hl 5 rfl) ?_
                refine va_get (D := D) (ci := 6) (v := .int (iI (misF nK me ab bl (am (fun s => misF nK me ab bl s (-1)) 0 5) k))) (C := RX6) (T := TX6) (N := 21) hx hb hts n_X6 hown hK hP 0 rfl rfl 20 (by decide) f_179 (fun _ h9 => h9) rfl dX6_added_97 ?_
                refine lv_istore (lv' := [(4, .int (iI (misF nK me ab bl (am (fun s => misF nK me ab bl s (-1)) 0 5) k))), (3, .int (iI k)), (6, .int (iI (pitF nK me ab bl (am (fun s => misF nK me ab bl s (-1)) 0 5) k))), (5, .int (iI k)), (2, .int (iI (am (fun s => misF nK me ab bl s (-1)) 0 5))), (0, .ref (q 0)), (1, .int (iI w7))]) hx hb dX6_added_100 hl (by decide) rfl (fun ls hl => ?_)
                refine lv_iinc (v := iI (k + 1)) (lv' := [(5, .int (iI (k + 1))), (4, .int (iI (misF nK me ab bl (am (fun s => misF nK me ab bl s (-1)) 0 5) k))), (3, .int (iI k)), (6, .int (iI (pitF nK me ab bl (am (fun s => misF nK me ab bl s (-1)) 0 5) k))), (2, .int (iI (am (fun s => misF nK me ab bl s (-1)) 0 5))), (0, .ref (q 0)), (1, .int (iI w7))]) hx hb dX6_added_102 hl (k := 3) rfl (iI_add _ _) (by decide) rfl (fun ls hl => ?_)
                refine lv_goto (tgt := 43) hx hb dX6_added_105 (by decide) ?_
                exact ih_43 k (misF nK me ab bl (am (fun s => misF nK me ab bl s (-1)) 0 5) k) (k + 1) (misF nK me ab bl (am (fun s => misF nK me ab bl s (-1)) 0 5) k) (by omega) (by omega) (by first | exact ad_skip hr (by assumption) (g1 _ (by assumption)) (by omega) | (rw [← g2 k (by assumption)]; exact ad_first hr (by omega) (by assumption) (by omega) (by assumption) (by rw [g2 k (by assumption)]; omega) g1) | (rw [← g2 k (by assumption)]; exact ad_lt hr (by assumption) (by assumption) (by rw [g2 k (by assumption)]; omega)) | exact ad_ge hr (by assumption) (by rw [g2 k (by assumption)]; omega)) (by omega) (by omega) _ _ _ hP hD hS (lv_sub hl [0, 1, 2, 4, 5, 6] rfl)
              · refine lv_iload hx hb dX6_added_79 (lv_at hl 0 rfl) ?_
                refine z_if_lt (tgt := 102) hx hb dX6_added_81 (by decide) (by omega) (fun c_8 => ?_) (fun c_8 => ?_)
                · refine lv_iinc (v := iI (k + 1)) (lv' := [(5, .int (iI (k + 1))), (6, .int (iI (pitF nK me ab bl (am (fun s => misF nK me ab bl s (-1)) 0 5) k))), (4, .int (iI bz)), (3, .int (iI ak)), (2, .int (iI (am (fun s => misF nK me ab bl s (-1)) 0 5))), (0, .ref (q 0)), (1, .int (iI w7))]) hx hb dX6_added_102 hl (k := 1) rfl (iI_add _ _) (by decide) rfl (fun ls hl => ?_)
                  refine lv_goto (tgt := 43) hx hb dX6_added_105 (by decide) ?_
                  exact ih_43 ak bz (k + 1) (misF nK me ab bl (am (fun s => misF nK me ab bl s (-1)) 0 5) k) (by omega) (by omega) (by first | exact ad_skip hr (by assumption) (g1 _ (by assumption)) (by omega) | (rw [← g2 k (by assumption)]; exact ad_first hr (by omega) (by assumption) (by omega) (by assumption) (by rw [g2 k (by assumption)]; omega) g1) | (rw [← g2 k (by assumption)]; exact ad_lt hr (by assumption) (by assumption) (by rw [g2 k (by assumption)]; omega)) | exact ad_ge hr (by assumption) (by rw [g2 k (by assumption)]; omega)) (by omega) (by omega) _ _ _ hP hD hS (lv_sub hl [0, 2, 3, 4, 5, 6] rfl)
                · refine lv_aload_n hx hb dX6_added_84 rfl (lv_at hl 5 rfl) ?_
                  refine va_get (D := D) (ci := 6) (v := .int (iI (misF nK me ab bl (am (fun s => misF nK me ab bl s (-1)) 0 5) k))) (C := RX6) (T := TX6) (N := 21) hx hb hts n_X6 hown hK hP 0 rfl rfl 20 (by decide) f_179 (fun _ h9 => h9) rfl dX6_added_85 ?_
                  refine lv_iload hx hb dX6_added_88 (lv_at hl 2 rfl) ?_
                  refine z_icmp_ge (tgt := 102) hx hb dX6_added_90 (by decide) (by omega) (fun c_9 => ?_) (fun c_9 => ?_)
                  · refine lv_iinc (v := iI (k + 1)) (lv' := [(5, .int (iI (k + 1))), (6, .int (iI (pitF nK me ab bl (am (fun s => misF nK me ab bl s (-1)) 0 5) k))), (4, .int (iI bz)), (3, .int (iI ak)), (2, .int (iI (am (fun s => misF nK me ab bl s (-1)) 0 5))), (0, .ref (q 0)), (1, .int (iI w7))]) hx hb dX6_added_102 hl (k := 1) rfl (iI_add _ _) (by decide) rfl (fun ls hl => ?_)
                    refine lv_goto (tgt := 43) hx hb dX6_added_105 (by decide) ?_
                    exact ih_43 ak bz (k + 1) (misF nK me ab bl (am (fun s => misF nK me ab bl s (-1)) 0 5) k) (by omega) (by omega) (by first | exact ad_skip hr (by assumption) (g1 _ (by assumption)) (by omega) | (rw [← g2 k (by assumption)]; exact ad_first hr (by omega) (by assumption) (by omega) (by assumption) (by rw [g2 k (by assumption)]; omega) g1) | (rw [← g2 k (by assumption)]; exact ad_lt hr (by assumption) (by assumption) (by rw [g2 k (by assumption)]; omega)) | exact ad_ge hr (by assumption) (by rw [g2 k (by assumption)]; omega)) (by omega) (by omega) _ _ _ hP hD hS (lv_sub hl [0, 2, 3, 4, 5, 6] rfl)
                  · refine lv_iload hx hb dX6_added_93 (lv_at hl 1 rfl) ?_
                    refine lv_istore_n (lv' := [(3, .int (iI k)), (6, .int (iI (pitF nK me ab bl (am (fun s => misF nK me ab bl s (-1)) 0 5) k))), (5, .int (iI k)), (4, .int (iI bz)), (2, .int (iI (am (fun s => misF nK me ab bl s (-1)) 0 5))), (0, .ref (q 0)), (1, .int (iI w7))]) hx hb dX6_added_95 rfl hl (by decide) rfl (fun ls hl => ?_)
                    refine lv_aload_n hx hb dX6_added_96 rfl (lv_at hl 5 rfl) ?_
                    refine va_get (D := D) (ci := 6) (v := .int (iI (misF nK me ab bl (am (fun s => misF nK me ab bl s (-1)) 0 5) k))) (C := RX6) (T := TX6) (N := 21) hx hb hts n_X6 hown hK hP 0 rfl rfl 20 (by decide) f_179 (fun _ h9 => h9) rfl dX6_added_97 ?_
                    refine lv_istore (lv' := [(4, .int (iI (misF nK me ab bl (am (fun s => misF nK me ab bl s (-1)) 0 5) k))), (3, .int (iI k)), (6, .int (iI (pitF nK me ab bl (am (fun s => misF nK me ab bl s (-1)) 0 5) k))), (5, .int (iI k)), (2, .int (iI (am (fun s => misF nK me ab bl s (-1)) 0 5))), (0, .ref (q 0)), (1, .int (iI w7))]) hx hb dX6_added_100 hl (by decide) rfl (fun ls hl => ?_)
                    refine lv_iinc (v := iI (k + 1)) (lv' := [(5, .int (iI (k + 1))), (4, .int (iI (misF nK me ab bl (am (fun s => misF nK me ab bl s (-1)) 0 5) k))), (3, .int (iI k)), (6, .int (iI (pitF nK me ab bl (am (fun s => misF nK me ab bl s (-1)) 0 5) k))), (2, .int (iI (am (fun s => misF nK me ab bl s (-1)) 0 5))), (0, .ref (q 0)), (1, .int (iI w7))]) hx hb dX6_added_102 hl (k := 3) rfl (iI_add _ _) (by decide) rfl (fun ls hl => ?_)
                    refine lv_goto (tgt := 43) hx hb dX6_added_105 (by decide) ?_
                    exact ih_43 k (misF nK me ab bl (am (fun s => misF nK me ab bl s (-1)) 0 5) k) (k + 1) (misF nK me ab bl (am (fun s => misF nK me ab bl s (-1)) 0 5) k) (by omega) (by omega) (by first | exact ad_skip hr (by assumption) (g1 _ (by assumption)) (by omega) | (rw [← g2 k (by assumption)]; exact ad_first hr (by omega) (by assumption) (by omega) (by assumption) (by rw [g2 k (by assumption)]; omega) g1) | (rw [← g2 k (by assumption)]; exact ad_lt hr (by assumption) (by assumption) (by rw [g2 k (by assumption)]; omega)) | exact ad_ge hr (by assumption) (by rw [g2 k (by assumption)]; omega)) (by omega) (by omega) _ _ _ hP hD hS (lv_sub hl [0, 1, 2, 4, 5, 6] rfl)
      exact L_43 25 (-100009) 0 0 (misF nK me ab bl 4 (-1)) (by omega) (by omega) ad_0 (by omega) (by omega) _ _ _ hP hD hS (lv_sub hl [0, 1, 2, 3, 4, 5] rfl)
    · refine z_ldc (n := -100003) hx hb hown k_148 (by decide) dX6_added_26 ?_
      exact z_iretR X hK hP hD hS dX6_added_28 (⟨_, rfl, by (repeat' split) <;> first | rfl | omega⟩)
  · refine z_ldc (n := -100002) hx hb hown k_78 (by decide) dX6_added_15 ?_
    exact z_iretR X hK hP hD hS dX6_added_17 (⟨_, rfl, by (repeat' split) <;> first | rfl | omega⟩)

theorem hd_X6_bentLater : yX6_bentLater.cls = RX6 ∧ yX6_bentLater.cls ≠ "java/lang/invoke/MethodHandle" ∧ yX6_bentLater.cls ≠ "java/lang/invoke/VarHandle" ∧ (parseMethodDescriptor yX6_bentLater.desc).map (fun d => d.parameters.length) = some 2 := by decide +kernel
set_option maxHeartbeats 4000000 in
set_option maxRecDepth 100000 in
theorem c_X6_bentLater (I : okS nK st le be te ab bl ka bg ln ns me sc pi re bk) (b9 : Int) (i9 : Int) (h : -2147483648 ≤ b9 ∧ b9 ≤ 2147483647 ∧ -2147483648 ≤ i9 ∧ i9 ≤ 2147483647) : MR l D cy yX6_bentLater wsX6_bentLater ({ frames := 4, cells := 0, slots := 0, locals := 98 } : Room) [.ref (q 0), .int (iI b9), .int (iI i9)] (wM q cy nK st le be te ab bl ka bg ln ns me sc pi re bk th co bs gr lo) (fun r8 w8 => ∃ lo2 : Int, w8 = wM q cy nK st le be te ab bl ka bg ln ns me sc pi re bk 0 co bs gr lo2 ∧ r8 = if 0 ≤ b9 ∧ b9 ≤ 400000 then (if cm nK me = 0 then (-100003) else nth (fun k => me k ≠ -100009 ∧ b9 < aZ (gl ab bl (am (fun s => misF nK me ab bl s (-1)) 0 5) (pitF nK me ab bl (am (fun s => misF nK me ab bl s (-1)) 0 5) (-1)) k - me k)) nK i9 (fun k => k)) else (-100002)) := by
  refine MR.ofW (cc := cX6_bentLater) (maxL := 7) (ret := (some .int)) (by decide) rfl (Nat.le_of_ble_eq_true rfl) ?_
  intro p e s m below meth c A ls X hK hP hD hA hS hl
  obtain ⟨hx, hb, hml, hr, hts, hown, hlocks⟩ := id X
  have hl : lv_has ls 7 [(0, .ref (q 0)), (1, .int (iI b9)), (2, .int (iI i9))] := hl
  have f_63 := hts (Cond.fieldLink RX6 63 "TwoKeysModel" "thrown" "I") (by decide +kernel)
  have K_190 := hts (Cond.constantLong RX6 190 (400000)) (by decide +kernel)
  have k_62 := hts (Cond.constant RX6 62 (-100009)) (by decide +kernel)
  have f_7 := hts (Cond.fieldLink RX6 7 "TwoKeysModel" "keys" "I") (by decide +kernel)
  have f_50 := hts (Cond.fieldLink RX6 50 "TwoKeysModel" "measured" "[I") (by decide +kernel)
  have k_148 := hts (Cond.constant RX6 148 (-100003)) (by decide +kernel)
  have k_78 := hts (Cond.constant RX6 78 (-100002)) (by decide +kernel)
  have n_X6 : ∀ w ∈ u_ws RX6 TX6 21, w ∈ wsX6_bentLater := by decide +kernel
  have iK := I.nK
  have cb := cm_b (nK := nK) (me := me) (by omega)
  have ma := am_is (g := fun s => misF nK me ab bl s (-1)) (lo := 0) (hi := 5) (by omega)
  have ma1 := ma.1
  have ma2 := ma.2.1
  have pb := pitF_b (nK := nK) (me := me) (ab := ab) (bl := bl) (s := (am (fun s => misF nK me ab bl s (-1)) 0 5)) (w := -1)
  have e7 : pitF nK me ab bl (am (fun s => misF nK me ab bl s (-1)) 0 5) (-100009) = pitF nK me ab bl (am (fun s => misF nK me ab bl s (-1)) 0 5) (-1) := pitF_neg (by omega)
  refine lv_aload_n hx hb dX6_bentLater_0 rfl (lv_at hl 0 rfl) ?_
  refine lv_iconst (v := iI (0)) hx hb dX6_bentLater_1 rfl ?_
  refine va_put (D := D) (ci := 6) (v := .int (iI 0)) (ty := .int) (C := RX6) (T := TX6) (N := 21) hx hb hts n_X6 tyX6 tyX6_ok nmX6 hown hK hP hD hS 0 rfl rfl 0 (by decide) f_63 (fun _ h9 => h9) rfl (by decide +kernel) rfl rfl (Nat.le_of_ble_eq_true rfl) dX6_bentLater_2 (fun H locs hP hD hS => ?_)
  have hP : va_P D vwCl (wM q cy nK st le be te ab bl ka bg ln ns me sc pi re bk 0 co bs gr lo) H := hP
  have hD : va_D A (wM q cy nK st le be te ab bl ka bg ln ns me sc pi re bk 0 co bs gr lo) := hD
  refine lv_iload_n hx hb dX6_bentLater_5 rfl (lv_at hl 1 rfl) ?_
  refine z_i2l hx hb dX6_bentLater_6 (by omega) ?_
  refine lv_lconst (v := lI (0)) hx hb dX6_bentLater_7 (by decide) ?_
  refine z_ldc2 (n := 400000) hx hb hown K_190 (by decide) dX6_bentLater_8 ?_
  refine z_callSi (As := [.long (lI b9), .long (lI 0), .long (lI 400000)]) (rest := []) X hK hP hD hA hS hl.1 gX6_bentLater_X6_in rfl ⟨rfl, rfl⟩ hd_X6_in ⟨Nat.le_of_ble_eq_true rfl, Nat.le_of_ble_eq_true rfl⟩ rfl (Nat.le_of_ble_eq_true rfl) ⟨Nat.zero_le _, Nat.zero_le _⟩ rfl dX6_bentLater_11 (c_X6_in b9 0 400000 (by omega)) (fun H locs hP hD hS => ?_)
  refine z_ifp_ne (tgt := 20) hx hb dX6_bentLater_14 (by decide) (fun c_1 => ?_) (fun c_1 => ?_)
  · refine lv_aload_n hx hb dX6_bentLater_20 rfl (lv_at hl 0 rfl) ?_
    refine z_callVi (ci := 6) (q0 := 0) (As := []) (rest := []) X hK hP hD hA hS hl.1 gX6_bentLater_X6_measuredKeys rfl ⟨rfl, rfl⟩ hd_X6_measuredKeys ⟨Nat.le_of_ble_eq_true rfl, Nat.le_of_ble_eq_true rfl⟩ rfl rfl rfl (Nat.le_of_ble_eq_true rfl) ⟨Nat.zero_le _, Nat.zero_le _⟩ rfl dX6_bentLater_21 (c_X6_measuredKeys I) (fun H locs hP hD hS => ?_)
    refine z_if_ne (tgt := 30) hx hb dX6_bentLater_24 (by decide) (by omega) (fun c_2 => ?_) (fun c_2 => ?_)
    · refine lv_aload_n hx hb dX6_bentLater_30 rfl (lv_at hl 0 rfl) ?_
      refine z_callVi (ci := 6) (q0 := 0) (As := []) (rest := []) X hK hP hD hA hS hl.1 gX6_bentLater_X6_meantOf rfl ⟨rfl, rfl⟩ hd_X6_meantOf ⟨Nat.le_of_ble_eq_true rfl, Nat.le_of_ble_eq_true rfl⟩ rfl rfl rfl (Nat.le_of_ble_eq_true rfl) ⟨Nat.zero_le _, Nat.zero_le _⟩ rfl dX6_bentLater_31 (c_X6_meantOf I) (fun H locs hP hD hS => ?_)
      refine lv_istore_n (lv' := [(3, .int (iI (am (fun s => misF nK me ab bl s (-1)) 0 5))), (0, .ref (q 0)), (1, .int (iI b9)), (2, .int (iI i9))]) hx hb dX6_bentLater_34 rfl hl (by decide) rfl (fun ls hl => ?_)
      refine lv_aload_n hx hb dX6_bentLater_35 rfl (lv_at hl 1 rfl) ?_
      refine lv_iload_n hx hb dX6_bentLater_36 rfl (lv_at hl 0 rfl) ?_
      refine z_ldc (n := -100009) hx hb hown k_62 (by decide) dX6_bentLater_37 ?_
      refine z_callVi (ci := 6) (q0 := 0) (As := [.int (iI (am (fun s => misF nK me ab bl s (-1)) 0 5)), .int (iI (-100009))]) (rest := []) X hK hP hD hA hS hl.1 gX6_bentLater_X6_pitchOf rfl ⟨rfl, rfl⟩ hd_X6_pitchOf ⟨Nat.le_of_ble_eq_true rfl, Nat.le_of_ble_eq_true rfl⟩ rfl rfl rfl (Nat.le_of_ble_eq_true rfl) ⟨Nat.zero_le _, Nat.zero_le _⟩ rfl dX6_bentLater_39 (c_X6_pitchOf I (am (fun s => misF nK me ab bl s (-1)) 0 5) (-100009) (by omega) (by omega)) (fun H locs hP hD hS => ?_)
      rw [e7]
      refine lv_istore (lv' := [(4, .int (iI (pitF nK me ab bl (am (fun s => misF nK me ab bl s (-1)) 0 5) (-1)))), (3, .int (iI (am (fun s => misF nK me ab bl s (-1)) 0 5))), (0, .ref (q 0)), (1, .int (iI b9)), (2, .int (iI i9))]) hx hb dX6_bentLater_42 hl (by decide) rfl (fun ls hl => ?_)
      refine lv_iconst (v := iI (0)) hx hb dX6_bentLater_44 rfl ?_
      refine lv_istore (lv' := [(5, .int (iI 0)), (4, .int (iI (pitF nK me ab bl (am (fun s => misF nK me ab bl s (-1)) 0 5) (-1)))), (3, .int (iI (am (fun s => misF nK me ab bl s (-1)) 0 5))), (0, .ref (q 0)), (1, .int (iI b9)), (2, .int (iI i9))]) hx hb dX6_bentLater_45 hl (by decide) rfl (fun ls hl => ?_)
      refine lv_iconst (v := iI (0)) hx hb dX6_bentLater_47 rfl ?_
      refine lv_istore (lv' := [(6, .int (iI 0)), (5, .int (iI 0)), (4, .int (iI (pitF nK me ab bl (am (fun s => misF nK me ab bl s (-1)) 0 5) (-1)))), (3, .int (iI (am (fun s => misF nK me ab bl s (-1)) 0 5))), (0, .ref (q 0)), (1, .int (iI b9)), (2, .int (iI i9))]) hx hb dX6_bentLater_48 hl (by decide) rfl (fun ls hl => ?_)
      have L_50 : ∀ (n : Nat) (c9 : Int) (k : Int), (h0 : 0 ≤ k ∧ k ≤ nK) → (hf : nK - k < n) → (hr : cqI (fun k => me k ≠ -100009 ∧ b9 < aZ (gl ab bl (am (fun s => misF nK me ab bl s (-1)) 0 5) (pitF nK me ab bl (am (fun s => misF nK me ab bl s (-1)) 0 5) (-1)) k - me k)) i9 k c9) → (hc : 0 ≤ c9 ∧ c9 ≤ k) → ∀ (H : Heap) (locs : List Loc) (ls : Array Slot), va_P D vwCl (wM q cy nK st le be te ab bl ka bg ln ns me sc pi re bk 0 co bs gr (misF nK me ab bl (am (fun s => misF nK me ab bl s (-1)) 0 5) (-100009))) H → va_D A (wM q cy nK st le be te ab bl ka bg ln ns me sc pi re bk 0 co bs gr (misF nK me ab bl (am (fun s => misF nK me ab bl s (-1)) 0 5) (-100009))) → va_S A s.heap H locs → lv_has ls 7 [(6, .int (iI k)), (5, .int (iI c9)), (4, .int (iI (pitF nK me ab bl (am (fun s => misF nK me ab bl s (-1)) 0 5) (-1)))), (3, .int (iI (am (fun s => misF nK me ab bl s (-1)) 0 5))), (0, .ref (q 0)), (1, .int (iI b9)), (2, .int (iI i9))] → W p l e ({ frames := 4, cells := 0, slots := 0, locals := 98 } : Room) s m [.ref (q 0), .int (iI b9), .int (iI i9)].toArray below meth c H locs 0 0 (MQ below (zQr D cy A (fun r8 w8 => ∃ lo2 : Int, w8 = wM q cy nK st le be te ab bl ka bg ln ns me sc pi re bk 0 co bs gr lo2 ∧ r8 = if 0 ≤ b9 ∧ b9 ≤ 400000 then (if cm nK me = 0 then (-100003) else nth (fun k => me k ≠ -100009 ∧ b9 < aZ (gl ab bl (am (fun s => misF nK me ab bl s (-1)) 0 5) (pitF nK me ab bl (am (fun s => misF nK me ab bl s (-1)) 0 5) (-1)) k - me k)) nK i9 (fun k => k)) else (-100002))) [.ref (q 0), .int (iI b9), .int (iI i9)].toArray s 0 0 A) (F0 m 50 ls []) := by
        intro n
        induction n with
        | zero =>
          intro c9 k h0 hf hr hc
          exfalso; omega
        | succ n ih_50 =>
          intro c9 k h0 hf hr hc H locs ls hP hD hS hl
          refine lv_iload hx hb dX6_bentLater_50 (lv_at hl 0 rfl) ?_
          refine lv_aload_n hx hb dX6_bentLater_52 rfl (lv_at hl 4 rfl) ?_
          refine va_get (D := D) (ci := 6) (v := .int (iI nK)) (C := RX6) (T := TX6) (N := 21) hx hb hts n_X6 hown hK hP 0 rfl rfl 1 (by decide) f_7 (fun _ h9 => h9) rfl dX6_bentLater_53 ?_
          refine z_icmp_ge (tgt := 113) hx hb dX6_bentLater_56 (by decide) (by omega) (fun c_3 => ?_) (fun c_3 => ?_)
          · refine z_ldc (n := -100009) hx hb hown k_62 (by decide) dX6_bentLater_113 ?_
            exact z_iretR X hK hP hD hS dX6_bentLater_115 (⟨_, rfl, by rw [if_pos (by omega), if_neg (by omega)]; have z := cqI_end (res := fun k => k) hr; rw [show k = nK by omega] at z; exact z⟩)
          · refine lv_aload_n hx hb dX6_bentLater_59 rfl (lv_at hl 4 rfl) ?_
            refine va_get (D := D) (ci := 6) (v := .ref (q 11)) (C := RX6) (T := TX6) (N := 21) hx hb hts n_X6 hown hK hP 0 rfl rfl 16 (by decide) f_50 (fun _ h9 => h9) rfl dX6_bentLater_60 ?_
            refine lv_iload hx hb dX6_bentLater_63 (lv_at hl 0 rfl) ?_
            refine z_iald hx hb hK hP 11 0 rfl rfl (by omega) dX6_bentLater_65 ?_
            have b_4 := I.me k
            refine z_ldc (n := -100009) hx hb hown k_62 (by decide) dX6_bentLater_66 ?_
            refine z_icmp_eq (tgt := 107) hx hb dX6_bentLater_68 (by decide) (by omega) (fun c_5 => ?_) (fun c_5 => ?_)
            · refine lv_iinc (v := iI (k + 1)) (lv' := [(6, .int (iI (k + 1))), (5, .int (iI c9)), (4, .int (iI (pitF nK me ab bl (am (fun s => misF nK me ab bl s (-1)) 0 5) (-1)))), (3, .int (iI (am (fun s => misF nK me ab bl s (-1)) 0 5))), (0, .ref (q 0)), (1, .int (iI b9)), (2, .int (iI i9))]) hx hb dX6_bentLater_107 hl (k := 0) rfl (iI_add _ _) (by decide) rfl (fun ls hl => ?_)
              refine lv_goto (tgt := 50) hx hb dX6_bentLater_110 (by decide) ?_
              exact ih_50 c9 (k + 1) (by omega) (by omega) (by first | exact cqI_no hr (by omega) (fun z => absurd (by assumption) z.1) | exact cqI_no hr (by omega) (fun z => absurd z.2 (by omega)) | exact cqI_yes hr (by omega) ⟨by assumption, by assumption⟩ (by assumption)) (by omega) _ _ _ hP hD hS (lv_sub hl [0, 1, 2, 3, 4, 5, 6] rfl)
            · refine lv_aload_n hx hb dX6_bentLater_71 rfl (lv_at hl 4 rfl) ?_
              refine lv_iload hx hb dX6_bentLater_72 (lv_at hl 0 rfl) ?_
              refine lv_iload_n hx hb dX6_bentLater_74 rfl (lv_at hl 3 rfl) ?_
              refine lv_iload hx hb dX6_bentLater_75 (lv_at hl 2 rfl) ?_
              refine z_callVi (ci := 6) (q0 := 0) (As := [.int (iI k), .int (iI (am (fun s => misF nK me ab bl s (-1)) 0 5)), .int (iI (pitF nK me ab bl (am (fun s => misF nK me ab bl s (-1)) 0 5) (-1)))]) (rest := []) X hK hP hD hA hS hl.1 gX6_bentLater_X6_goalOf rfl ⟨rfl, rfl⟩ hd_X6_goalOf ⟨Nat.le_of_ble_eq_true rfl, Nat.le_of_ble_eq_true rfl⟩ rfl rfl rfl (Nat.le_of_ble_eq_true rfl) ⟨Nat.zero_le _, Nat.zero_le _⟩ rfl dX6_bentLater_77 (c_X6_goalOf I k (am (fun s => misF nK me ab bl s (-1)) 0 5) (pitF nK me ab bl (am (fun s => misF nK me ab bl s (-1)) 0 5) (-1)) (by omega) (by omega) (by omega)) (fun H locs hP hD hS => ?_)
              have b7 := gl_b (s := (am (fun s => misF nK me ab bl s (-1)) 0 5)) (p := (pitF nK me ab bl (am (fun s => misF nK me ab bl s (-1)) 0 5) (-1))) (k := k) I.ab I.bl (by omega) (by omega)
              refine lv_aload_n hx hb dX6_bentLater_80 rfl (lv_at hl 4 rfl) ?_
              refine va_get (D := D) (ci := 6) (v := .ref (q 11)) (C := RX6) (T := TX6) (N := 21) hx hb hts n_X6 hown hK hP 0 rfl rfl 16 (by decide) f_50 (fun _ h9 => h9) rfl dX6_bentLater_81 ?_
              refine lv_iload hx hb dX6_bentLater_84 (lv_at hl 0 rfl) ?_
              refine z_iald hx hb hK hP 11 0 rfl rfl (by omega) dX6_bentLater_86 ?_
              have b_6 := I.me k
              refine z_isub hx hb dX6_bentLater_87 ?_
              refine z_callSi (As := [.int (iI ((gl ab bl (am (fun s => misF nK me ab bl s (-1)) 0 5) (pitF nK me ab bl (am (fun s => misF nK me ab bl s (-1)) 0 5) (-1)) k) - (me k)))]) (rest := []) X hK hP hD hA hS hl.1 gX6_bentLater_X6_size rfl ⟨rfl, rfl⟩ hd_X6_size ⟨Nat.le_of_ble_eq_true rfl, Nat.le_of_ble_eq_true rfl⟩ rfl (Nat.le_of_ble_eq_true rfl) ⟨Nat.zero_le _, Nat.zero_le _⟩ rfl dX6_bentLater_88 (c_X6_size ((gl ab bl (am (fun s => misF nK me ab bl s (-1)) 0 5) (pitF nK me ab bl (am (fun s => misF nK me ab bl s (-1)) 0 5) (-1)) k) - (me k)) (by omega)) (fun H locs hP hD hS => ?_)
              have b6 := aZ_b (gl ab bl (am (fun s => misF nK me ab bl s (-1)) 0 5) (pitF nK me ab bl (am (fun s => misF nK me ab bl s (-1)) 0 5) (-1)) k - me k)
              refine lv_iload_n hx hb dX6_bentLater_91 rfl (lv_at hl 5 rfl) ?_
              refine z_icmp_le (tgt := 107) hx hb dX6_bentLater_92 (by decide) (by omega) (fun c_7 => ?_) (fun c_7 => ?_)
              · refine lv_iinc (v := iI (k + 1)) (lv' := [(6, .int (iI (k + 1))), (5, .int (iI c9)), (4, .int (iI (pitF nK me ab bl (am (fun s => misF nK me ab bl s (-1)) 0 5) (-1)))), (3, .int (iI (am (fun s => misF nK me ab bl s (-1)) 0 5))), (0, .ref (q 0)), (1, .int (iI b9)), (2, .int (iI i9))]) hx hb dX6_bentLater_107 hl (k := 0) rfl (iI_add _ _) (by decide) rfl (fun ls hl => ?_)
                refine lv_goto (tgt := 50) hx hb dX6_bentLater_110 (by decide) ?_
                exact ih_50 c9 (k + 1) (by omega) (by omega) (by first | exact cqI_no hr (by omega) (fun z => absurd (by assumption) z.1) | exact cqI_no hr (by omega) (fun z => absurd z.2 (by omega)) | exact cqI_yes hr (by omega) ⟨by assumption, by assumption⟩ (by assumption)) (by omega) _ _ _ hP hD hS (lv_sub hl [0, 1, 2, 3, 4, 5, 6] rfl)
              · refine lv_iload hx hb dX6_bentLater_95 (lv_at hl 1 rfl) ?_
                refine lv_iload_n hx hb dX6_bentLater_97 rfl (lv_at hl 6 rfl) ?_
                refine z_icmp_ne (tgt := 104) hx hb dX6_bentLater_98 (by decide) (by omega) (fun c_8 => ?_) (fun c_8 => ?_)
                · refine lv_iinc (v := iI (c9 + 1)) (lv' := [(5, .int (iI (c9 + 1))), (6, .int (iI k)), (4, .int (iI (pitF nK me ab bl (am (fun s => misF nK me ab bl s (-1)) 0 5) (-1)))), (3, .int (iI (am (fun s => misF nK me ab bl s (-1)) 0 5))), (0, .ref (q 0)), (1, .int (iI b9)), (2, .int (iI i9))]) hx hb dX6_bentLater_104 hl (k := 1) rfl (iI_add _ _) (by decide) rfl (fun ls hl => ?_)
                  refine lv_iinc (v := iI (k + 1)) (lv' := [(6, .int (iI (k + 1))), (5, .int (iI (c9 + 1))), (4, .int (iI (pitF nK me ab bl (am (fun s => misF nK me ab bl s (-1)) 0 5) (-1)))), (3, .int (iI (am (fun s => misF nK me ab bl s (-1)) 0 5))), (0, .ref (q 0)), (1, .int (iI b9)), (2, .int (iI i9))]) hx hb dX6_bentLater_107 hl (k := 1) rfl (iI_add _ _) (by decide) rfl (fun ls hl => ?_)
                  refine lv_goto (tgt := 50) hx hb dX6_bentLater_110 (by decide) ?_
                  exact ih_50 (c9 + 1) (k + 1) (by omega) (by omega) (by first | exact cqI_no hr (by omega) (fun z => absurd (by assumption) z.1) | exact cqI_no hr (by omega) (fun z => absurd z.2 (by omega)) | exact cqI_yes hr (by omega) ⟨by assumption, by assumption⟩ (by assumption)) (by omega) _ _ _ hP hD hS (lv_sub hl [0, 1, 2, 3, 4, 5, 6] rfl)
                · refine lv_iload hx hb dX6_bentLater_101 (lv_at hl 0 rfl) ?_
                  exact z_iretR X hK hP hD hS dX6_bentLater_103 (⟨_, rfl, by rw [if_pos (by omega), if_neg (by omega)]; exact cqI_at (res := fun k => k) hr (by omega) (by omega) ⟨by assumption, by assumption⟩ (by assumption)⟩)
      exact L_50 25 0 0 (by omega) (by omega) cqI_0 (by omega) _ _ _ hP hD hS (lv_sub hl [0, 1, 2, 3, 4, 5, 6] rfl)
    · refine z_ldc (n := -100003) hx hb hown k_148 (by decide) dX6_bentLater_27 ?_
      exact z_iretR X hK hP hD hS dX6_bentLater_29 (⟨_, rfl, by (repeat' split) <;> first | rfl | omega⟩)
  · refine z_ldc (n := -100002) hx hb hown k_78 (by decide) dX6_bentLater_17 ?_
    exact z_iretR X hK hP hD hS dX6_bentLater_19 (⟨_, rfl, by (repeat' split) <;> first | rfl | omega⟩)
