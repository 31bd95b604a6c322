variable {l : Launch} {D : va_G} {cy : ClassId} {q : Nat → Nat} {nK sc pi re bk ss sm pf mf th lo : Int} {st le be te ab bl ka bg ln ns me pa lz go co bs gr : Int → Int}
theorem srZ_b {a b : Int} (h : 0 ≤ a) : 0 ≤ srZ a b ∧ srZ a b ≤ a := by
  unfold srZ
  exact ⟨Int.ediv_nonneg h (Int.pow_nonneg (by omega)), Int.ediv_le_self _ h⟩
theorem hd_X6_count : yX6_count.cls = RX6 ∧ yX6_count.cls ≠ "java/lang/invoke/MethodHandle" ∧ yX6_count.cls ≠ "java/lang/invoke/VarHandle" ∧ (parseMethodDescriptor yX6_count.desc).map (fun d => d.parameters.length) = some 1 := by decide +kernel
set_option maxHeartbeats 4000000 in
set_option maxRecDepth 100000 in
theorem c_X6_count (I : okS nK st le be te ab bl ka bg ln ns me sc pi re bk) (w9 : Int) (h : -2147483648 ≤ w9 ∧ w9 ≤ 2147483647) : MI l D cy yX6_count wsX6_count ({ frames := 1, cells := 0, slots := 0, locals := 23 } : Room) [.ref (q 0), .int (iI w9)] (wM q cy nK st le be te ab bl ka bg ln ns me sc pi re bk th co bs gr lo) (if w9 = 0 then nK else if w9 = 1 then sZ (fun s9 => if 0 < sZ (fun k => if st k = s9 then 1 else 0) 0 nK then 1 else 0) 0 24 else if w9 = 2 then sZ ns 0 4 else if w9 = 3 then bcZ bk else if w9 = 4 then cm nK me else if w9 = 5 then sZ (fun k => if be k = 0 then 0 else 1) 0 nK else (-100002)) (wM q cy nK st le be te ab bl ka bg ln ns me sc pi re bk 0 co bs gr lo) := by
  refine MI.ofW (cc := cX6_count) (maxL := 7) (ret := (some .int)) (by decide) rfl (Nat.le_of_ble_eq_true rfl) ?_
  intro p e s m below meth c A ls X hK hP hD hA hS hl
  obtain ⟨hx, hb, hml, hr, hts, hown, hlocks⟩ := id X
  have hl : lv_has ls 7 [(0, .ref (q 0)), (1, .int (iI w9))] := hl
  have f_63 := hts (Cond.fieldLink RX6 63 "TwoKeysModel" "thrown" "I") (by decide +kernel)
  have f_7 := hts (Cond.fieldLink RX6 7 "TwoKeysModel" "keys" "I") (by decide +kernel)
  have k_78 := hts (Cond.constant RX6 78 (-100002)) (by decide +kernel)
  have f_20 := hts (Cond.fieldLink RX6 20 "TwoKeysModel" "bent" "[I") (by decide +kernel)
  have f_35 := hts (Cond.fieldLink RX6 35 "TwoKeysModel" "notes" "[I") (by decide +kernel)
  have f_167 := hts (Cond.fieldLink RX6 167 "TwoKeysModel" "book" "I") (by decide +kernel)
  have n_X6 : ∀ w ∈ u_ws RX6 TX6 21, w ∈ wsX6_count := by decide +kernel
  have iK := I.nK
  have ibk := I.bk
  refine lv_aload_n hx hb dX6_count_0 rfl (lv_at hl 0 rfl) ?_
  refine lv_iconst (v := iI (0)) hx hb dX6_count_1 rfl ?_
  refine va_put (D := D) (ci := 6) (v := .int (iI 0)) (ty := .int) (C := RX6) (T := TX6) (N := 21) hx hb hts n_X6 tyX6 tyX6_ok nmX6 hown hK hP hD hS 0 rfl rfl 0 (by decide) f_63 (fun _ h9 => h9) rfl (by decide +kernel) rfl rfl (Nat.le_of_ble_eq_true rfl) dX6_count_2 (fun H locs hP hD hS => ?_)
  have hP : va_P D vwCl (wM q cy nK st le be te ab bl ka bg ln ns me sc pi re bk 0 co bs gr lo) H := hP
  have hD : va_D A (wM q cy nK st le be te ab bl ka bg ln ns me sc pi re bk 0 co bs gr lo) := hD
  refine lv_iconst (v := iI (0)) hx hb dX6_count_5 rfl ?_
  refine lv_istore_n (lv' := [(2, .int (iI 0)), (0, .ref (q 0)), (1, .int (iI w9))]) hx hb dX6_count_6 rfl hl (by decide) rfl (fun ls hl => ?_)
  refine lv_iconst (v := iI (0)) hx hb dX6_count_7 rfl ?_
  refine lv_istore_n (lv' := [(3, .int (iI 0)), (2, .int (iI 0)), (0, .ref (q 0)), (1, .int (iI w9))]) hx hb dX6_count_8 rfl hl (by decide) rfl (fun ls hl => ?_)
  refine lv_iconst (v := iI (0)) hx hb dX6_count_9 rfl ?_
  refine lv_istore (lv' := [(4, .int (iI 0)), (3, .int (iI 0)), (2, .int (iI 0)), (0, .ref (q 0)), (1, .int (iI w9))]) hx hb dX6_count_10 hl (by decide) rfl (fun ls hl => ?_)
  refine lv_iconst (v := iI (0)) hx hb dX6_count_12 rfl ?_
  refine lv_istore (lv' := [(5, .int (iI 0)), (4, .int (iI 0)), (3, .int (iI 0)), (2, .int (iI 0)), (0, .ref (q 0)), (1, .int (iI w9))]) hx hb dX6_count_13 hl (by decide) rfl (fun ls hl => ?_)
  refine lv_iconst (v := iI (0)) hx hb dX6_count_15 rfl ?_
  refine lv_istore (lv' := [(6, .int (iI 0)), (5, .int (iI 0)), (4, .int (iI 0)), (3, .int (iI 0)), (2, .int (iI 0)), (0, .ref (q 0)), (1, .int (iI w9))]) hx hb dX6_count_16 hl (by decide) rfl (fun ls hl => ?_)
  have L_18 : ∀ (n : Nat) (c1 : Int) (s9 : Int), (h0 : 0 ≤ s9 ∧ s9 ≤ 24) → (hf : 24 - s9 < n) → (hr1 : c1 = sZ (fun s9 => if 0 < sZ (fun k => if st k = s9 then 1 else 0) 0 nK then 1 else 0) 0 s9) → ∀ (H : Heap) (locs : List Loc) (ls : Array Slot), va_P D vwCl (wM q cy nK st le be te ab bl ka bg ln ns me sc pi re bk 0 co bs gr lo) H → va_D A (wM q cy nK st le be te ab bl ka bg ln ns me sc pi re bk 0 co bs gr lo) → va_S A s.heap H locs → lv_has ls 7 [(6, .int (iI s9)), (5, .int (iI 0)), (4, .int (iI 0)), (3, .int (iI 0)), (2, .int (iI c1)), (0, .ref (q 0)), (1, .int (iI w9))] → W p l e ({ frames := 1, cells := 0, slots := 0, locals := 23 } : Room) s m [.ref (q 0), .int (iI w9)].toArray below meth c H locs 0 0 (MQ below (zQi D cy (wM q cy nK st le be te ab bl ka bg ln ns me sc pi re bk 0 co bs gr lo) A (if w9 = 0 then nK else if w9 = 1 then sZ (fun s9 => if 0 < sZ (fun k => if st k = s9 then 1 else 0) 0 nK then 1 else 0) 0 24 else if w9 = 2 then sZ ns 0 4 else if w9 = 3 then bcZ bk else if w9 = 4 then cm nK me else if w9 = 5 then sZ (fun k => if be k = 0 then 0 else 1) 0 nK else (-100002))) [.ref (q 0), .int (iI w9)].toArray s 0 0 A) (F0 m 18 ls []) := by
    intro n
    induction n with
    | zero =>
      intro c1 s9 h0 hf hr1
      exfalso; omega
    | succ n ih_18 =>
      intro c1 s9 h0 hf hr1 H locs ls hP hD hS hl
      refine lv_iload hx hb dX6_count_18 (lv_at hl 0 rfl) ?_
      refine lv_bipush (v := iI (24)) hx hb dX6_count_20 (by decide) ?_
      refine z_icmp_ge (tgt := 48) hx hb dX6_count_22 (by decide) (by omega) (fun c_1 => ?_) (fun c_1 => ?_)
      · refine lv_iconst (v := iI (0)) hx hb dX6_count_48 rfl ?_
        refine lv_istore (lv' := [(6, .int (iI 0)), (5, .int (iI 0)), (4, .int (iI 0)), (3, .int (iI 0)), (2, .int (iI c1)), (0, .ref (q 0)), (1, .int (iI w9))]) hx hb dX6_count_49 hl (by decide) rfl (fun ls hl => ?_)
        have L_51 : ∀ (n : Nat) (c2 : Int) (c3 : Int) (p9 : Int), (h2 : 0 ≤ p9 ∧ p9 ≤ 4) → (hf2 : 4 - p9 < n) → (hr2 : c2 = sZ ns 0 p9) → (hr3 : c3 = sZ (fun p => srZ bk p % 2) 0 p9) → ∀ (H : Heap) (locs : List Loc) (ls : Array Slot), va_P D vwCl (wM q cy nK st le be te ab bl ka bg ln ns me sc pi re bk 0 co bs gr lo) H → va_D A (wM q cy nK st le be te ab bl ka bg ln ns me sc pi re bk 0 co bs gr lo) → va_S A s.heap H locs → lv_has ls 7 [(6, .int (iI p9)), (5, .int (iI 0)), (4, .int (iI c3)), (3, .int (iI c2)), (2, .int (iI c1)), (0, .ref (q 0)), (1, .int (iI w9))] → W p l e ({ frames := 1, cells := 0, slots := 0, locals := 23 } : Room) s m [.ref (q 0), .int (iI w9)].toArray below meth c H locs 0 0 (MQ below (zQi D cy (wM q cy nK st le be te ab bl ka bg ln ns me sc pi re bk 0 co bs gr lo) A (if w9 = 0 then nK else if w9 = 1 then sZ (fun s9 => if 0 < sZ (fun k => if st k = s9 then 1 else 0) 0 nK then 1 else 0) 0 24 else if w9 = 2 then sZ ns 0 4 else if w9 = 3 then bcZ bk else if w9 = 4 then cm nK me else if w9 = 5 then sZ (fun k => if be k = 0 then 0 else 1) 0 nK else (-100002))) [.ref (q 0), .int (iI w9)].toArray s 0 0 A) (F0 m 51 ls []) := by
          intro n
          induction n with
          | zero =>
            intro c2 c3 p9 h2 hf2 hr2 hr3
            exfalso; omega
          | succ n ih_51 =>
            intro c2 c3 p9 h2 hf2 hr2 hr3 H locs ls hP hD hS hl
            refine lv_iload hx hb dX6_count_51 (lv_at hl 0 rfl) ?_
            refine lv_iconst (v := iI (4)) hx hb dX6_count_53 rfl ?_
            refine z_icmp_ge (tgt := 87) hx hb dX6_count_54 (by decide) (by omega) (fun c_2 => ?_) (fun c_2 => ?_)
            · refine lv_iconst (v := iI (0)) hx hb dX6_count_87 rfl ?_
              refine lv_istore (lv' := [(6, .int (iI 0)), (5, .int (iI 0)), (4, .int (iI c3)), (3, .int (iI c2)), (2, .int (iI c1)), (0, .ref (q 0)), (1, .int (iI w9))]) hx hb dX6_count_88 hl (by decide) rfl (fun ls hl => ?_)
              have L_90 : ∀ (n : Nat) (c4 : Int) (k : Int), (h4 : 0 ≤ k ∧ k ≤ nK) → (hf3 : nK - k < n) → (hr4 : c4 = sZ (fun k => if be k = 0 then 0 else 1) 0 k) → ∀ (H : Heap) (locs : List Loc) (ls : Array Slot), va_P D vwCl (wM q cy nK st le be te ab bl ka bg ln ns me sc pi re bk 0 co bs gr lo) H → va_D A (wM q cy nK st le be te ab bl ka bg ln ns me sc pi re bk 0 co bs gr lo) → va_S A s.heap H locs → lv_has ls 7 [(6, .int (iI k)), (5, .int (iI c4)), (4, .int (iI c3)), (3, .int (iI c2)), (2, .int (iI c1)), (0, .ref (q 0)), (1, .int (iI w9))] → W p l e ({ frames := 1, cells := 0, slots := 0, locals := 23 } : Room) s m [.ref (q 0), .int (iI w9)].toArray below meth c H locs 0 0 (MQ below (zQi D cy (wM q cy nK st le be te ab bl ka bg ln ns me sc pi re bk 0 co bs gr lo) A (if w9 = 0 then nK else if w9 = 1 then sZ (fun s9 => if 0 < sZ (fun k => if st k = s9 then 1 else 0) 0 nK then 1 else 0) 0 24 else if w9 = 2 then sZ ns 0 4 else if w9 = 3 then bcZ bk else if w9 = 4 then cm nK me else if w9 = 5 then sZ (fun k => if be k = 0 then 0 else 1) 0 nK else (-100002))) [.ref (q 0), .int (iI w9)].toArray s 0 0 A) (F0 m 90 ls []) := by
                intro n
                induction n with
                | zero =>
                  intro c4 k h4 hf3 hr4
                  exfalso; omega
                | succ n ih_90 =>
                  intro c4 k h4 hf3 hr4 H locs ls hP hD hS hl
                  refine lv_iload hx hb dX6_count_90 (lv_at hl 0 rfl) ?_
                  refine lv_aload_n hx hb dX6_count_92 rfl (lv_at hl 5 rfl) ?_
                  refine va_get (D := D) (ci := 6) (v := .int (iI nK)) (C := RX6) (T := TX6) (N := 21) hx hb hts n_X6 hown hK hP 0 rfl rfl 1 (by decide) f_7 (fun _ h9 => h9) rfl dX6_count_93 ?_
                  refine z_icmp_ge (tgt := 125) hx hb dX6_count_96 (by decide) (by omega) (fun c_3 => ?_) (fun c_3 => ?_)
                  · rw [show s9 = 24 by omega] at hr1
                    rw [show p9 = 4 by omega] at hr2 hr3
                    rw [bc_s (by omega)] at hr3
                    rw [show k = nK by omega] at hr4
                    refine lv_iload_n hx hb dX6_count_125 rfl (lv_at hl 6 rfl) ?_
                    by_cases c_4_0 : w9 = 0
                    · refine z_tabIn (off := 38) (tgt := 164) (z := 0) hx hb dX6_count_126 c_4_0 (by decide) (by decide) (by decide) rfl (by decide) ?_
                      refine lv_aload_n hx hb dX6_count_164 rfl (lv_at hl 5 rfl) ?_
                      refine va_get (D := D) (ci := 6) (v := .int (iI nK)) (C := RX6) (T := TX6) (N := 21) hx hb hts n_X6 hown hK hP 0 rfl rfl 1 (by decide) f_7 (fun _ h9 => h9) rfl dX6_count_165 ?_
                      exact z_iret X hK hP hD hS dX6_count_168 (by rw [← hr1, ← hr2, ← hr3, ← hr4]; (repeat' split) <;> first | rfl | omega)
                    by_cases c_4_1 : w9 = 1
                    · refine z_tabIn (off := 43) (tgt := 169) (z := 1) hx hb dX6_count_126 c_4_1 (by decide) (by decide) (by decide) rfl (by decide) ?_
                      refine lv_iload_n hx hb dX6_count_169 rfl (lv_at hl 4 rfl) ?_
                      exact z_iret X hK hP hD hS dX6_count_170 (by rw [← hr1, ← hr2, ← hr3, ← hr4]; (repeat' split) <;> first | rfl | omega)
                    by_cases c_4_2 : w9 = 2
                    · refine z_tabIn (off := 45) (tgt := 171) (z := 2) hx hb dX6_count_126 c_4_2 (by decide) (by decide) (by decide) rfl (by decide) ?_
                      refine lv_iload_n hx hb dX6_count_171 rfl (lv_at hl 3 rfl) ?_
                      exact z_iret X hK hP hD hS dX6_count_172 (by rw [← hr1, ← hr2, ← hr3, ← hr4]; (repeat' split) <;> first | rfl | omega)
                    by_cases c_4_3 : w9 = 3
                    · refine z_tabIn (off := 47) (tgt := 173) (z := 3) hx hb dX6_count_126 c_4_3 (by decide) (by decide) (by decide) rfl (by decide) ?_
                      refine lv_iload hx hb dX6_count_173 (lv_at hl 2 rfl) ?_
                      exact z_iret X hK hP hD hS dX6_count_175 (by rw [← hr1, ← hr2, ← hr3, ← hr4]; (repeat' split) <;> first | rfl | omega)
                    by_cases c_4_4 : w9 = 4
                    · refine z_tabIn (off := 50) (tgt := 176) (z := 4) hx hb dX6_count_126 c_4_4 (by decide) (by decide) (by decide) rfl (by decide) ?_
                      refine lv_aload_n hx hb dX6_count_176 rfl (lv_at hl 5 rfl) ?_
                      refine z_callVi (ci := 6) (q0 := 0) (As := []) (rest := []) X hK hP hD hA hS hl.1 gX6_count_X6_measuredKeys rfl ⟨rfl, rfl⟩ hd_X6_measuredKeys ⟨Nat.le_of_ble_eq_true rfl, Nat.le_of_ble_eq_true rfl⟩ rfl rfl rfl (Nat.le_of_ble_eq_true rfl) ⟨Nat.zero_le _, Nat.zero_le _⟩ rfl dX6_count_177 (c_X6_measuredKeys I) (fun H locs hP hD hS => ?_)
                      exact z_iret X hK hP hD hS dX6_count_180 (by rw [← hr1, ← hr2, ← hr3, ← hr4]; (repeat' split) <;> first | rfl | omega)
                    by_cases c_4_5 : w9 = 5
                    · refine z_tabIn (off := 55) (tgt := 181) (z := 5) hx hb dX6_count_126 c_4_5 (by decide) (by decide) (by decide) rfl (by decide) ?_
                      refine lv_iload hx hb dX6_count_181 (lv_at hl 1 rfl) ?_
                      exact z_iret X hK hP hD hS dX6_count_183 (by rw [← hr1, ← hr2, ← hr3, ← hr4]; (repeat' split) <;> first | rfl | omega)
                    refine z_tabOut (tgt := 184) hx hb dX6_count_126 (by omega) (by omega) (by decide) ?_
                    refine z_ldc (n := -100002) hx hb hown k_78 (by decide) dX6_count_184 ?_
                    exact z_iret X hK hP hD hS dX6_count_186 (by rw [← hr1, ← hr2, ← hr3, ← hr4]; (repeat' split) <;> first | rfl | omega)
                  · refine lv_iload hx hb dX6_count_99 (lv_at hl 1 rfl) ?_
                    refine lv_aload_n hx hb dX6_count_101 rfl (lv_at hl 5 rfl) ?_
                    refine va_get (D := D) (ci := 6) (v := .ref (q 3)) (C := RX6) (T := TX6) (N := 21) hx hb hts n_X6 hown hK hP 0 rfl rfl 4 (by decide) f_20 (fun _ h9 => h9) rfl dX6_count_102 ?_
                    refine lv_iload hx hb dX6_count_105 (lv_at hl 0 rfl) ?_
                    refine z_iald hx hb hK hP 3 0 rfl rfl (by omega) dX6_count_107 ?_
                    have b_5 := I.be k
                    refine z_if_ne (tgt := 115) hx hb dX6_count_108 (by decide) (by omega) (fun c_6 => ?_) (fun c_6 => ?_)
                    · refine lv_iconst (v := iI (1)) hx hb dX6_count_115 rfl ?_
                      refine z_iadd hx hb dX6_count_116 ?_
                      refine lv_istore (lv' := [(5, .int (iI (c4 + 1))), (6, .int (iI k)), (4, .int (iI c3)), (3, .int (iI c2)), (2, .int (iI c1)), (0, .ref (q 0)), (1, .int (iI w9))]) hx hb dX6_count_117 hl (by decide) rfl (fun ls hl => ?_)
                      refine lv_iinc (v := iI (k + 1)) (lv' := [(6, .int (iI (k + 1))), (5, .int (iI (c4 + 1))), (4, .int (iI c3)), (3, .int (iI c2)), (2, .int (iI c1)), (0, .ref (q 0)), (1, .int (iI w9))]) hx hb dX6_count_119 hl (k := 1) rfl (iI_add _ _) (by decide) rfl (fun ls hl => ?_)
                      refine lv_goto (tgt := 90) hx hb dX6_count_122 (by decide) ?_
                      exact ih_90 (c4 + 1) (k + 1) (by omega) (by omega) (by rw [sZ_step (by omega), ← hr4]; (try dsimp only); split <;> omega) _ _ _ hP hD hS (lv_sub hl [0, 1, 2, 3, 4, 5, 6] rfl)
                    · refine lv_iconst (v := iI (0)) hx hb dX6_count_111 rfl ?_
                      refine lv_goto (tgt := 116) hx hb dX6_count_112 (by decide) ?_
                      refine z_iadd hx hb dX6_count_116 ?_
                      refine lv_istore (lv' := [(5, .int (iI (c4 + 0))), (6, .int (iI k)), (4, .int (iI c3)), (3, .int (iI c2)), (2, .int (iI c1)), (0, .ref (q 0)), (1, .int (iI w9))]) hx hb dX6_count_117 hl (by decide) rfl (fun ls hl => ?_)
                      refine lv_iinc (v := iI (k + 1)) (lv' := [(6, .int (iI (k + 1))), (5, .int (iI (c4 + 0))), (4, .int (iI c3)), (3, .int (iI c2)), (2, .int (iI c1)), (0, .ref (q 0)), (1, .int (iI w9))]) hx hb dX6_count_119 hl (k := 1) rfl (iI_add _ _) (by decide) rfl (fun ls hl => ?_)
                      refine lv_goto (tgt := 90) hx hb dX6_count_122 (by decide) ?_
                      exact ih_90 (c4 + 0) (k + 1) (by omega) (by omega) (by rw [sZ_step (by omega), ← hr4]; (try dsimp only); split <;> omega) _ _ _ hP hD hS (lv_sub hl [0, 1, 2, 3, 4, 5, 6] rfl)
              exact L_90 25 0 0 (by omega) (by omega) ((sZ_nil (by omega)).symm) _ _ _ hP hD hS (lv_sub hl [0, 1, 2, 3, 4, 5, 6] rfl)
            · refine lv_iload_n hx hb dX6_count_57 rfl (lv_at hl 3 rfl) ?_
              refine lv_aload_n hx hb dX6_count_58 rfl (lv_at hl 5 rfl) ?_
              refine va_get (D := D) (ci := 6) (v := .ref (q 7)) (C := RX6) (T := TX6) (N := 21) hx hb hts n_X6 hown hK hP 0 rfl rfl 10 (by decide) f_35 (fun _ h9 => h9) rfl dX6_count_59 ?_
              refine lv_iload hx hb dX6_count_62 (lv_at hl 0 rfl) ?_
              refine z_iald hx hb hK hP 7 0 rfl rfl (by omega) dX6_count_64 ?_
              have b_7 := I.ns p9
              refine z_iadd hx hb dX6_count_65 ?_
              refine lv_istore_n (lv' := [(3, .int (iI (c2 + (ns p9)))), (6, .int (iI p9)), (5, .int (iI 0)), (4, .int (iI c3)), (2, .int (iI c1)), (0, .ref (q 0)), (1, .int (iI w9))]) hx hb dX6_count_66 rfl hl (by decide) rfl (fun ls hl => ?_)
              refine lv_iload hx hb dX6_count_67 (lv_at hl 3 rfl) ?_
              refine lv_aload_n hx hb dX6_count_69 rfl (lv_at hl 5 rfl) ?_
              refine va_get (D := D) (ci := 6) (v := .int (iI bk)) (C := RX6) (T := TX6) (N := 21) hx hb hts n_X6 hown hK hP 0 rfl rfl 15 (by decide) f_167 (fun _ h9 => h9) rfl dX6_count_70 ?_
              refine lv_iload hx hb dX6_count_73 (lv_at hl 1 rfl) ?_
              refine z_ishr hx hb dX6_count_75 (by omega) ?_
              have b8 := srZ_b (a := bk) (b := p9) (by omega)
              refine lv_iconst (v := iI (1)) hx hb dX6_count_76 rfl ?_
              refine z_iand1 hx hb dX6_count_77 (by omega) ?_
              refine z_iadd hx hb dX6_count_78 ?_
              refine lv_istore (lv' := [(4, .int (iI (c3 + ((srZ bk p9) % 2)))), (3, .int (iI (c2 + (ns p9)))), (6, .int (iI p9)), (5, .int (iI 0)), (2, .int (iI c1)), (0, .ref (q 0)), (1, .int (iI w9))]) hx hb dX6_count_79 hl (by decide) rfl (fun ls hl => ?_)
              refine lv_iinc (v := iI (p9 + 1)) (lv' := [(6, .int (iI (p9 + 1))), (4, .int (iI (c3 + ((srZ bk p9) % 2)))), (3, .int (iI (c2 + (ns p9)))), (5, .int (iI 0)), (2, .int (iI c1)), (0, .ref (q 0)), (1, .int (iI w9))]) hx hb dX6_count_81 hl (k := 2) rfl (iI_add _ _) (by decide) rfl (fun ls hl => ?_)
              refine lv_goto (tgt := 51) hx hb dX6_count_84 (by decide) ?_
              exact ih_51 (c2 + (ns p9)) (c3 + ((srZ bk p9) % 2)) (p9 + 1) (by omega) (by omega) (by rw [sZ_step (by omega), ← hr2]) (by rw [sZ_step (by omega), ← hr3]) _ _ _ hP hD hS (lv_sub hl [0, 3, 1, 2, 4, 5, 6] rfl)
        exact L_51 5 0 0 0 (by omega) (by omega) ((sZ_nil (by omega)).symm) ((sZ_nil (by omega)).symm) _ _ _ hP hD hS (lv_sub hl [0, 1, 2, 3, 4, 5, 6] rfl)
      · refine lv_iload_n hx hb dX6_count_25 rfl (lv_at hl 4 rfl) ?_
        refine lv_aload_n hx hb dX6_count_26 rfl (lv_at hl 5 rfl) ?_
        refine lv_iload hx hb dX6_count_27 (lv_at hl 0 rfl) ?_
        refine z_callVi (ci := 6) (q0 := 0) (As := [.int (iI s9)]) (rest := [.int (iI c1)]) X hK hP hD hA hS hl.1 gX6_count_X6_onString rfl ⟨rfl, rfl⟩ hd_X6_onString ⟨Nat.le_of_ble_eq_true rfl, Nat.le_of_ble_eq_true rfl⟩ rfl rfl rfl (Nat.le_of_ble_eq_true rfl) ⟨Nat.zero_le _, Nat.zero_le _⟩ rfl dX6_count_29 (c_X6_onString I s9 (by omega)) (fun H locs hP hD hS => ?_)
        have b9 := sZ_c (f := fun k => if st k = s9 then 1 else 0) (lo := 0) (hi := nK) (by omega) (fun j => by (try dsimp only); split <;> omega)
        refine z_if_le (tgt := 39) hx hb dX6_count_32 (by decide) (by omega) (fun c_8 => ?_) (fun c_8 => ?_)
        · refine lv_iconst (v := iI (0)) hx hb dX6_count_39 rfl ?_
          refine z_iadd hx hb dX6_count_40 ?_
          refine lv_istore_n (lv' := [(2, .int (iI (c1 + 0))), (6, .int (iI s9)), (5, .int (iI 0)), (4, .int (iI 0)), (3, .int (iI 0)), (0, .ref (q 0)), (1, .int (iI w9))]) hx hb dX6_count_41 rfl hl (by decide) rfl (fun ls hl => ?_)
          refine lv_iinc (v := iI (s9 + 1)) (lv' := [(6, .int (iI (s9 + 1))), (2, .int (iI (c1 + 0))), (5, .int (iI 0)), (4, .int (iI 0)), (3, .int (iI 0)), (0, .ref (q 0)), (1, .int (iI w9))]) hx hb dX6_count_42 hl (k := 1) rfl (iI_add _ _) (by decide) rfl (fun ls hl => ?_)
          refine lv_goto (tgt := 18) hx hb dX6_count_45 (by decide) ?_
          exact ih_18 (c1 + 0) (s9 + 1) (by omega) (by omega) (by rw [sZ_step (by omega), ← hr1]; (try dsimp only); split <;> omega) _ _ _ hP hD hS (lv_sub hl [0, 2, 3, 4, 1, 5, 6] rfl)
        · refine lv_iconst (v := iI (1)) hx hb dX6_count_35 rfl ?_
          refine lv_goto (tgt := 40) hx hb dX6_count_36 (by decide) ?_
          refine z_iadd hx hb dX6_count_40 ?_
          refine lv_istore_n (lv' := [(2, .int (iI (c1 + 1))), (6, .int (iI s9)), (5, .int (iI 0)), (4, .int (iI 0)), (3, .int (iI 0)), (0, .ref (q 0)), (1, .int (iI w9))]) hx hb dX6_count_41 rfl hl (by decide) rfl (fun ls hl => ?_)
          refine lv_iinc (v := iI (s9 + 1)) (lv' := [(6, .int (iI (s9 + 1))), (2, .int (iI (c1 + 1))), (5, .int (iI 0)), (4, .int (iI 0)), (3, .int (iI 0)), (0, .ref (q 0)), (1, .int (iI w9))]) hx hb dX6_count_42 hl (k := 1) rfl (iI_add _ _) (by decide) rfl (fun ls hl => ?_)
          refine lv_goto (tgt := 18) hx hb dX6_count_45 (by decide) ?_
          exact ih_18 (c1 + 1) (s9 + 1) (by omega) (by omega) (by rw [sZ_step (by omega), ← hr1]; (try dsimp only); split <;> omega) _ _ _ hP hD hS (lv_sub hl [0, 2, 3, 4, 1, 5, 6] rfl)
  exact L_18 25 0 0 (by omega) (by omega) ((sZ_nil (by omega)).symm) _ _ _ hP hD hS (lv_sub hl [0, 1, 2, 3, 4, 5, 6] rfl)
