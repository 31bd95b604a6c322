variable {l : Launch} {D : va_G} {cy : ClassId} {q : Nat → Nat} {nK sc pi re bk ss sm pf mf th lo : Int} {st le be te ab bl ka bg ln ns me pa lz go co bs gr : Int → Int}
theorem hd_X4_solve : yX4_solve.cls = RX4 ∧ yX4_solve.cls ≠ "java/lang/invoke/MethodHandle" ∧ yX4_solve.cls ≠ "java/lang/invoke/VarHandle" ∧ (parseMethodDescriptor yX4_solve.desc).map (fun d => d.parameters.length) = some 2 := by decide +kernel
set_option maxHeartbeats 4000000 in
set_option maxRecDepth 100000 in
theorem c_X4_solve (n9 : Int) (m9 : Int) (C : Int → Int → Int) (h : (1 ≤ n9 ∧ n9 ≤ 24) ∧ (1 ≤ m9 ∧ m9 ≤ 6)) (hC : ∀ x y, 0 ≤ x → x ≤ y + 1 → y ≤ 23 → clS pa x y = C x y) (hC0 : ∀ x y, 0 ≤ C x y ∧ C x y ≤ 6400) : MW l D cy yX4_solve wsX4_solve ({ frames := 2, cells := 0, slots := 0, locals := 49 } : Room) [.ref (q 14), .int (iI n9), .int (iI m9)] (wT q cy nK st le be te ab bl ka bg ln ns me sc pi re bk pa lz go ss sm pf mf) (fun w8 => ∃ lz4 : Int → Int, w8 = wT q cy nK st le be te ab bl ka bg ln ns me sc pi re bk pa lz4 go n9 m9 pf mf ∧ (∀ t a, 0 ≤ t → t ≤ n9 → 0 ≤ a → a ≤ n9 → lz4 (t * 25 + a) = dp C n9 m9 t a)) := by
  refine MW.ofW (cc := cX4_solve) (maxL := 5) (ret := none) (by decide) rfl (Nat.le_of_ble_eq_true rfl) ?_
  intro p e s m below meth c A ls X hK hP hD hA hS hl
  obtain ⟨hx, hb, hml, hr, hts, hown, hlocks⟩ := id X
  have hl : lv_has ls 5 [(0, .ref (q 14)), (1, .int (iI n9)), (2, .int (iI m9))] := hl
  have f_21 := hts (Cond.fieldLink RX4 21 "TwoKeys$Sharing" "size" "I") (by decide +kernel)
  have f_25 := hts (Cond.fieldLink RX4 25 "TwoKeys$Sharing" "most" "I") (by decide +kernel)
  have f_15 := hts (Cond.fieldLink RX4 15 "TwoKeys$Sharing" "leasts" "[I") (by decide +kernel)
  have k_64 := hts (Cond.constant RX4 64 (1000000)) (by decide +kernel)
  have n_X4 : ∀ w ∈ u_ws RX4 TX4 5, w ∈ wsX4_solve := by decide +kernel
  have db : ∀ t a, 0 ≤ dp C n9 m9 t a ∧ dp C n9 m9 t a ≤ 1000000 := fun t a => dp_b (fun x y => (hC0 x y).1)
  refine lv_aload_n hx hb dX4_solve_0 rfl (lv_at hl 0 rfl) ?_
  refine lv_iload_n hx hb dX4_solve_1 rfl (lv_at hl 1 rfl) ?_
  refine va_put (D := D) (ci := 4) (v := .int (iI n9)) (ty := .int) (C := RX4) (T := TX4) (N := 5) hx hb hts n_X4 tyX4 tyX4_ok nmX4 hown hK hP hD hS 14 rfl rfl 3 (by decide) f_21 (fun _ h9 => h9) rfl (by decide +kernel) rfl rfl (Nat.le_of_ble_eq_true rfl) dX4_solve_2 (fun H locs hP hD hS => ?_)
  have hP : va_P D vwCl (wT q cy nK st le be te ab bl ka bg ln ns me sc pi re bk pa lz go n9 sm pf mf) H := hP
  have hD : va_D A (wT q cy nK st le be te ab bl ka bg ln ns me sc pi re bk pa lz go n9 sm pf mf) := hD
  refine lv_aload_n hx hb dX4_solve_5 rfl (lv_at hl 0 rfl) ?_
  refine lv_iload_n hx hb dX4_solve_6 rfl (lv_at hl 2 rfl) ?_
  refine va_put (D := D) (ci := 4) (v := .int (iI m9)) (ty := .int) (C := RX4) (T := TX4) (N := 5) hx hb hts n_X4 tyX4 tyX4_ok nmX4 hown hK hP hD hS 14 rfl rfl 4 (by decide) f_25 (fun _ h9 => h9) rfl (by decide +kernel) rfl rfl (Nat.le_of_ble_eq_true rfl) dX4_solve_7 (fun H locs hP hD hS => ?_)
  have hP : va_P D vwCl (wT q cy nK st le be te ab bl ka bg ln ns me sc pi re bk pa lz go n9 m9 pf mf) H := hP
  have hD : va_D A (wT q cy nK st le be te ab bl ka bg ln ns me sc pi re bk pa lz go n9 m9 pf mf) := hD
  refine lv_iconst (v := iI (0)) hx hb dX4_solve_10 rfl ?_
  refine lv_istore_n (lv' := [(3, .int (iI 0)), (0, .ref (q 14)), (1, .int (iI n9)), (2, .int (iI m9))]) hx hb dX4_solve_11 rfl hl (by decide) rfl (fun ls hl => ?_)
  have L_12 : ∀ (n : Nat) (i : Int) (lz1 : Int → Int), (h0 : 0 ≤ i ∧ i ≤ n9) → (hf : n9 - i < n) → (hz : ∀ a, 0 ≤ a → a < i → lz1 a = 1000000) → ∀ (H : Heap) (locs : List Loc) (ls : Array Slot), va_P D vwCl (wT q cy nK st le be te ab bl ka bg ln ns me sc pi re bk pa lz1 go n9 m9 pf mf) H → va_D A (wT q cy nK st le be te ab bl ka bg ln ns me sc pi re bk pa lz1 go n9 m9 pf mf) → va_S A s.heap H locs → lv_has ls 5 [(3, .int (iI i)), (0, .ref (q 14)), (1, .int (iI n9)), (2, .int (iI m9))] → W p l e ({ frames := 2, cells := 0, slots := 0, locals := 49 } : Room) s m [.ref (q 14), .int (iI n9), .int (iI m9)].toArray below meth c H locs 0 0 (MQ below (zQw D cy A (fun w8 => ∃ lz4 : Int → Int, w8 = wT q cy nK st le be te ab bl ka bg ln ns me sc pi re bk pa lz4 go n9 m9 pf mf ∧ (∀ t a, 0 ≤ t → t ≤ n9 → 0 ≤ a → a ≤ n9 → lz4 (t * 25 + a) = dp C n9 m9 t a))) [.ref (q 14), .int (iI n9), .int (iI m9)].toArray s 0 0 A) (F0 m 12 ls []) := by
    intro n
    induction n with
    | zero =>
      intro i lz1 h0 hf hz
      exfalso; omega
    | succ n ih_12 =>
      intro i lz1 h0 hf hz H locs ls hP hD hS hl
      refine lv_iload_n hx hb dX4_solve_12 rfl (lv_at hl 0 rfl) ?_
      refine lv_aload_n hx hb dX4_solve_13 rfl (lv_at hl 1 rfl) ?_
      refine va_get (D := D) (ci := 4) (v := .int (iI n9)) (C := RX4) (T := TX4) (N := 5) hx hb hts n_X4 hown hK hP 14 rfl rfl 3 (by decide) f_21 (fun _ h9 => h9) rfl dX4_solve_14 ?_
      refine z_icmp_ge (tgt := 34) hx hb dX4_solve_17 (by decide) (by omega) (fun c_1 => ?_) (fun c_1 => ?_)
      · refine lv_aload_n hx hb dX4_solve_34 rfl (lv_at hl 1 rfl) ?_
        refine va_get (D := D) (ci := 4) (v := .ref (q 16)) (C := RX4) (T := TX4) (N := 5) hx hb hts n_X4 hown hK hP 14 rfl rfl 1 (by decide) f_15 (fun _ h9 => h9) rfl dX4_solve_35 ?_
        refine lv_aload_n hx hb dX4_solve_38 rfl (lv_at hl 1 rfl) ?_
        refine va_get (D := D) (ci := 4) (v := .int (iI n9)) (C := RX4) (T := TX4) (N := 5) hx hb hts n_X4 hown hK hP 14 rfl rfl 3 (by decide) f_21 (fun _ h9 => h9) rfl dX4_solve_39 ?_
        refine lv_iconst (v := iI (0)) hx hb dX4_solve_42 rfl ?_
        refine z_iast (v := 0) hx hb hK hP hD hS 16 0 rfl rfl (by omega) dX4_solve_43 (fun H locs hP hD hS => ?_)
        have hP : va_P D vwCl (wT q cy nK st le be te ab bl ka bg ln ns me sc pi re bk pa (uZ lz1 n9 0) go n9 m9 pf mf) H := hP
        have hD : va_D A (wT q cy nK st le be te ab bl ka bg ln ns me sc pi re bk pa (uZ lz1 n9 0) go n9 m9 pf mf) := hD
        refine lv_iconst (v := iI (1)) hx hb dX4_solve_44 rfl ?_
        refine lv_istore_n (lv' := [(3, .int (iI 1)), (0, .ref (q 14)), (1, .int (iI n9)), (2, .int (iI m9))]) hx hb dX4_solve_45 rfl hl (by decide) rfl (fun ls hl => ?_)
        have L_46 : ∀ (n : Nat) (s9 : Int) (lz2 : Int → Int), (h2 : 1 ≤ s9 ∧ s9 ≤ n9 + 1) → (hf2 : n9 + 1 - s9 < n) → (hr : ∀ t a, 0 ≤ t → t < s9 → 0 ≤ a → a ≤ n9 → lz2 (t * 25 + a) = dp C n9 m9 t a) → ∀ (H : Heap) (locs : List Loc) (ls : Array Slot), va_P D vwCl (wT q cy nK st le be te ab bl ka bg ln ns me sc pi re bk pa lz2 go n9 m9 pf mf) H → va_D A (wT q cy nK st le be te ab bl ka bg ln ns me sc pi re bk pa lz2 go n9 m9 pf mf) → va_S A s.heap H locs → lv_has ls 5 [(3, .int (iI s9)), (0, .ref (q 14)), (1, .int (iI n9)), (2, .int (iI m9))] → W p l e ({ frames := 2, cells := 0, slots := 0, locals := 49 } : Room) s m [.ref (q 14), .int (iI n9), .int (iI m9)].toArray below meth c H locs 0 0 (MQ below (zQw D cy A (fun w8 => ∃ lz4 : Int → Int, w8 = wT q cy nK st le be te ab bl ka bg ln ns me sc pi re bk pa lz4 go n9 m9 pf mf ∧ (∀ t a, 0 ≤ t → t ≤ n9 → 0 ≤ a → a ≤ n9 → lz4 (t * 25 + a) = dp C n9 m9 t a))) [.ref (q 14), .int (iI n9), .int (iI m9)].toArray s 0 0 A) (F0 m 46 ls []) := by
          intro n
          induction n with
          | zero =>
            intro s9 lz2 h2 hf2 hr
            exfalso; omega
          | succ n ih_46 =>
            intro s9 lz2 h2 hf2 hr H locs ls hP hD hS hl
            refine lv_iload_n hx hb dX4_solve_46 rfl (lv_at hl 0 rfl) ?_
            refine lv_aload_n hx hb dX4_solve_47 rfl (lv_at hl 1 rfl) ?_
            refine va_get (D := D) (ci := 4) (v := .int (iI n9)) (C := RX4) (T := TX4) (N := 5) hx hb hts n_X4 hown hK hP 14 rfl rfl 3 (by decide) f_21 (fun _ h9 => h9) rfl dX4_solve_48 ?_
            refine z_icmp_gt (tgt := 113) hx hb dX4_solve_51 (by decide) (by omega) (fun c_2 => ?_) (fun c_2 => ?_)
            · exact z_vretR X hK hP hD hS dX4_solve_113 (⟨_, rfl, fun t a g1 g2 g3 g4 => hr t a g1 (by omega) g3 g4⟩)
            · refine lv_aload_n hx hb dX4_solve_54 rfl (lv_at hl 1 rfl) ?_
              refine va_get (D := D) (ci := 4) (v := .ref (q 16)) (C := RX4) (T := TX4) (N := 5) hx hb hts n_X4 hown hK hP 14 rfl rfl 1 (by decide) f_15 (fun _ h9 => h9) rfl dX4_solve_55 ?_
              refine lv_iload_n hx hb dX4_solve_58 rfl (lv_at hl 0 rfl) ?_
              refine lv_bipush (v := iI (25)) hx hb dX4_solve_59 (by decide) ?_
              refine z_imul hx hb dX4_solve_61 ?_
              refine lv_aload_n hx hb dX4_solve_62 rfl (lv_at hl 1 rfl) ?_
              refine va_get (D := D) (ci := 4) (v := .int (iI n9)) (C := RX4) (T := TX4) (N := 5) hx hb hts n_X4 hown hK hP 14 rfl rfl 3 (by decide) f_21 (fun _ h9 => h9) rfl dX4_solve_63 ?_
              refine z_iadd hx hb dX4_solve_66 ?_
              refine z_ldc (n := 1000000) hx hb hown k_64 (by decide) dX4_solve_67 ?_
              refine z_iast (v := 1000000) hx hb hK hP hD hS 16 0 rfl rfl (by omega) dX4_solve_69 (fun H locs hP hD hS => ?_)
              have hP : va_P D vwCl (wT q cy nK st le be te ab bl ka bg ln ns me sc pi re bk pa (uZ lz2 ((s9 * 25) + n9) 1000000) go n9 m9 pf mf) H := hP
              have hD : va_D A (wT q cy nK st le be te ab bl ka bg ln ns me sc pi re bk pa (uZ lz2 ((s9 * 25) + n9) 1000000) go n9 m9 pf mf) := hD
              refine lv_iconst (v := iI (0)) hx hb dX4_solve_70 rfl ?_
              refine lv_istore (lv' := [(4, .int (iI 0)), (3, .int (iI s9)), (0, .ref (q 14)), (1, .int (iI n9)), (2, .int (iI m9))]) hx hb dX4_solve_71 hl (by decide) rfl (fun ls hl => ?_)
              have L_73 : ∀ (n : Nat) (k : Int) (lz3 : Int → Int), (h3 : 0 ≤ k ∧ k ≤ n9) → (hf3 : n9 - k < n) → (hr2 : ∀ t a, 0 ≤ t → t < s9 → 0 ≤ a → a ≤ n9 → lz3 (t * 25 + a) = dp C n9 m9 t a) → (hk : ∀ a, 0 ≤ a → a < k → lz3 (s9 * 25 + a) = dp C n9 m9 s9 a) → (he : lz3 (s9 * 25 + n9) = 1000000) → ∀ (H : Heap) (locs : List Loc) (ls : Array Slot), va_P D vwCl (wT q cy nK st le be te ab bl ka bg ln ns me sc pi re bk pa lz3 go n9 m9 pf mf) H → va_D A (wT q cy nK st le be te ab bl ka bg ln ns me sc pi re bk pa lz3 go n9 m9 pf mf) → va_S A s.heap H locs → lv_has ls 5 [(4, .int (iI k)), (3, .int (iI s9)), (0, .ref (q 14)), (1, .int (iI n9)), (2, .int (iI m9))] → W p l e ({ frames := 2, cells := 0, slots := 0, locals := 49 } : Room) s m [.ref (q 14), .int (iI n9), .int (iI m9)].toArray below meth c H locs 0 0 (MQ below (zQw D cy A (fun w8 => ∃ lz4 : Int → Int, w8 = wT q cy nK st le be te ab bl ka bg ln ns me sc pi re bk pa lz4 go n9 m9 pf mf ∧ (∀ t a, 0 ≤ t → t ≤ n9 → 0 ≤ a → a ≤ n9 → lz4 (t * 25 + a) = dp C n9 m9 t a))) [.ref (q 14), .int (iI n9), .int (iI m9)].toArray s 0 0 A) (F0 m 73 ls []) := by
                intro n
                induction n with
                | zero =>
                  intro k lz3 h3 hf3 hr2 hk he
                  exfalso; omega
                | succ n ih_73 =>
                  intro k lz3 h3 hf3 hr2 hk he H locs ls hP hD hS hl
                  refine lv_iload hx hb dX4_solve_73 (lv_at hl 0 rfl) ?_
                  refine lv_aload_n hx hb dX4_solve_75 rfl (lv_at hl 2 rfl) ?_
                  refine va_get (D := D) (ci := 4) (v := .int (iI n9)) (C := RX4) (T := TX4) (N := 5) hx hb hts n_X4 hown hK hP 14 rfl rfl 3 (by decide) f_21 (fun _ h9 => h9) rfl dX4_solve_76 ?_
                  refine z_icmp_ge (tgt := 107) hx hb dX4_solve_79 (by decide) (by omega) (fun c_3 => ?_) (fun c_3 => ?_)
                  · refine lv_iinc (v := iI (s9 + 1)) (lv' := [(3, .int (iI (s9 + 1))), (4, .int (iI k)), (0, .ref (q 14)), (1, .int (iI n9)), (2, .int (iI m9))]) hx hb dX4_solve_107 hl (k := 1) rfl (iI_add _ _) (by decide) rfl (fun ls hl => ?_)
                    refine lv_goto (tgt := 46) hx hb dX4_solve_110 (by decide) ?_
                    exact ih_46 (s9 + 1) lz3 (by omega) (by omega) (fun t a g1 g2 g3 g4 => by rcases (show t < s9 ∨ t = s9 by omega) with g | g; (exact hr2 t a g1 g g3 g4); (rw [g]; rcases (show a < k ∨ a = n9 by omega) with z | z; (exact hk a g3 z); (rw [z, he, dp_many (fun x y => (hC0 x y).1) (by omega) (by omega)]))) _ _ _ hP hD hS (lv_sub hl [0, 2, 3, 4] rfl)
                  · refine lv_aload_n hx hb dX4_solve_82 rfl (lv_at hl 2 rfl) ?_
                    refine va_get (D := D) (ci := 4) (v := .ref (q 16)) (C := RX4) (T := TX4) (N := 5) hx hb hts n_X4 hown hK hP 14 rfl rfl 1 (by decide) f_15 (fun _ h9 => h9) rfl dX4_solve_83 ?_
                    refine lv_iload_n hx hb dX4_solve_86 rfl (lv_at hl 1 rfl) ?_
                    refine lv_bipush (v := iI (25)) hx hb dX4_solve_87 (by decide) ?_
                    refine z_imul hx hb dX4_solve_89 ?_
                    refine lv_iload hx hb dX4_solve_90 (lv_at hl 0 rfl) ?_
                    refine z_iadd hx hb dX4_solve_92 ?_
                    refine lv_aload_n hx hb dX4_solve_93 rfl (lv_at hl 2 rfl) ?_
                    refine lv_iload_n hx hb dX4_solve_94 rfl (lv_at hl 1 rfl) ?_
                    refine lv_iload hx hb dX4_solve_95 (lv_at hl 0 rfl) ?_
                    refine z_callVi (ci := 4) (q0 := 14) (As := [.int (iI s9), .int (iI k)]) (rest := [.int (iI ((s9 * 25) + k)), .ref (q 16)]) X hK hP hD hA hS hl.1 gX4_solve_X4_leastFrom rfl ⟨rfl, rfl⟩ hd_X4_leastFrom ⟨Nat.le_of_ble_eq_true rfl, Nat.le_of_ble_eq_true rfl⟩ rfl rfl rfl (Nat.le_of_ble_eq_true rfl) ⟨Nat.zero_le _, Nat.zero_le _⟩ rfl dX4_solve_97 (c_X4_leastFrom s9 k (by omega) (by omega) (fun x y g1 g2 g3 => by rw [hC x y g1 g2 g3]; exact hC0 x y) (fun x g1 g2 => by rw [hr2 (s9 - 1) x (by omega) (by omega) g1 (by omega)]; exact db _ _)) (fun H locs hP hD hS => ?_)
                    have e5 : mnZ (fun x => clS pa k (x - 1) + lz3 ((s9 - 1) * 25 + x)) (k + 1) (min n9 (k + m9) + 1) = dp C n9 m9 s9 k := by rw [dp_s (by omega)]; exact mnZ_cong (fun x g1 g2 => by rw [hC k (x - 1) (by omega) (by omega) (by omega), hr2 (s9 - 1) x (by omega) (by omega) (by omega) (by omega)])
                    refine z_iast (v := mnZ (fun x => clS pa k (x - 1) + lz3 ((s9 - 1) * 25 + x)) (k + 1) (min n9 (k + m9) + 1)) hx hb hK hP hD hS 16 0 rfl rfl (by omega) dX4_solve_100 (fun H locs hP hD hS => ?_)
                    have hP : va_P D vwCl (wT q cy nK st le be te ab bl ka bg ln ns me sc pi re bk pa (uZ lz3 ((s9 * 25) + k) (mnZ (fun x => clS pa k (x - 1) + lz3 ((s9 - 1) * 25 + x)) (k + 1) (min n9 (k + m9) + 1))) go n9 m9 pf mf) H := hP
                    have hD : va_D A (wT q cy nK st le be te ab bl ka bg ln ns me sc pi re bk pa (uZ lz3 ((s9 * 25) + k) (mnZ (fun x => clS pa k (x - 1) + lz3 ((s9 - 1) * 25 + x)) (k + 1) (min n9 (k + m9) + 1))) go n9 m9 pf mf) := hD
                    refine lv_iinc (v := iI (k + 1)) (lv' := [(4, .int (iI (k + 1))), (3, .int (iI s9)), (0, .ref (q 14)), (1, .int (iI n9)), (2, .int (iI m9))]) hx hb dX4_solve_101 hl (k := 0) rfl (iI_add _ _) (by decide) rfl (fun ls hl => ?_)
                    refine lv_goto (tgt := 73) hx hb dX4_solve_104 (by decide) ?_
                    exact ih_73 (k + 1) (uZ lz3 ((s9 * 25) + k) (mnZ (fun x => clS pa k (x - 1) + lz3 ((s9 - 1) * 25 + x)) (k + 1) (min n9 (k + m9) + 1))) (by omega) (by omega) (fun t a g1 g2 g3 g4 => by rw [uZ_other (by omega)]; exact hr2 t a g1 g2 g3 g4) (fun a g1 g2 => by rcases (show a < k ∨ a = k by omega) with g | g; (rw [uZ_other (by omega)]; exact hk a g1 g); (rw [g, uZ_same]; exact e5)) (by rw [uZ_other (by omega)]; exact he) _ _ _ hP hD hS (lv_sub hl [0, 1, 2, 3, 4] rfl)
              exact L_73 25 0 (uZ lz2 ((s9 * 25) + n9) 1000000) (by omega) (by omega) (fun t a g1 g2 g3 g4 => by rw [uZ_other (by omega)]; exact hr t a g1 g2 g3 g4) (fun a _ _ => by omega) uZ_same _ _ _ hP hD hS (lv_sub hl [0, 1, 2, 3, 4] rfl)
        exact L_46 26 1 (uZ lz1 n9 0) (by omega) (by omega) (fun t a g1 g2 g3 g4 => by rw [show t = 0 by omega, dp_0]; rcases (show a = n9 ∨ a ≠ n9 by omega) with g | g; (rw [if_pos g, g, show 0 * 25 + n9 = n9 by omega, uZ_same]); (rw [if_neg g, show 0 * 25 + a = a by omega, uZ_other g]; exact hz a g3 (by omega))) _ _ _ hP hD hS (lv_sub hl [0, 1, 2, 3] rfl)
      · refine lv_aload_n hx hb dX4_solve_20 rfl (lv_at hl 1 rfl) ?_
        refine va_get (D := D) (ci := 4) (v := .ref (q 16)) (C := RX4) (T := TX4) (N := 5) hx hb hts n_X4 hown hK hP 14 rfl rfl 1 (by decide) f_15 (fun _ h9 => h9) rfl dX4_solve_21 ?_
        refine lv_iload_n hx hb dX4_solve_24 rfl (lv_at hl 0 rfl) ?_
        refine z_ldc (n := 1000000) hx hb hown k_64 (by decide) dX4_solve_25 ?_
        refine z_iast (v := 1000000) hx hb hK hP hD hS 16 0 rfl rfl (by omega) dX4_solve_27 (fun H locs hP hD hS => ?_)
        have hP : va_P D vwCl (wT q cy nK st le be te ab bl ka bg ln ns me sc pi re bk pa (uZ lz1 i 1000000) go n9 m9 pf mf) H := hP
        have hD : va_D A (wT q cy nK st le be te ab bl ka bg ln ns me sc pi re bk pa (uZ lz1 i 1000000) go n9 m9 pf mf) := hD
        refine lv_iinc (v := iI (i + 1)) (lv' := [(3, .int (iI (i + 1))), (0, .ref (q 14)), (1, .int (iI n9)), (2, .int (iI m9))]) hx hb dX4_solve_28 hl (k := 0) rfl (iI_add _ _) (by decide) rfl (fun ls hl => ?_)
        refine lv_goto (tgt := 12) hx hb dX4_solve_31 (by decide) ?_
        exact ih_12 (i + 1) (uZ lz1 i 1000000) (by omega) (by omega) (fun a g1 g2 => by rcases (show a < i ∨ a = i by omega) with g | g; (rw [uZ_other (by omega)]; exact hz a g1 g); (rw [g, uZ_same])) _ _ _ hP hD hS (lv_sub hl [0, 1, 2, 3] rfl)
  exact L_12 25 0 lz (by omega) (by omega) (fun a _ _ => by omega) _ _ _ hP hD hS (lv_sub hl [0, 1, 2, 3] rfl)

theorem hd_X4_fewestStrings : yX4_fewestStrings.cls = RX4 ∧ yX4_fewestStrings.cls ≠ "java/lang/invoke/MethodHandle" ∧ yX4_fewestStrings.cls ≠ "java/lang/invoke/VarHandle" ∧ (parseMethodDescriptor yX4_fewestStrings.desc).map (fun d => d.parameters.length) = some 0 := by decide +kernel
set_option maxHeartbeats 4000000 in
set_option maxRecDepth 100000 in
theorem c_X4_fewestStrings  (C : Int → Int → Int) (hs : (1 ≤ ss ∧ ss ≤ 24) ∧ (1 ≤ sm ∧ sm ≤ 6)) (hC0 : ∀ x y, 0 ≤ C x y ∧ C x y ≤ 6400) (hlz : ∀ t a, 0 ≤ t → t ≤ ss → 0 ≤ a → a ≤ ss → lz (t * 25 + a) = dp C ss sm t a) : MI l D cy yX4_fewestStrings wsX4_fewestStrings ({ frames := 1, cells := 0, slots := 0, locals := 21 } : Room) [.ref (q 14)] (wT q cy nK st le be te ab bl ka bg ln ns me sc pi re bk pa lz go ss sm pf mf) (fw (fun s => dp C ss sm s 0) ss) (wT q cy nK st le be te ab bl ka bg ln ns me sc pi re bk pa lz go ss sm pf mf) := by
  refine MI.ofW (cc := cX4_fewestStrings) (maxL := 2) (ret := (some .int)) (by decide) rfl (Nat.le_of_ble_eq_true rfl) ?_
  intro p e s m below meth c A ls X hK hP hD hA hS hl
  obtain ⟨hx, hb, hml, hr, hts, hown, hlocks⟩ := id X
  have hl : lv_has ls 2 [(0, .ref (q 14))] := hl
  have f_21 := hts (Cond.fieldLink RX4 21 "TwoKeys$Sharing" "size" "I") (by decide +kernel)
  have n_X4 : ∀ w ∈ u_ws RX4 TX4 5, w ∈ wsX4_fewestStrings := by decide +kernel
  have db : ∀ t a, 0 ≤ dp C ss sm t a ∧ dp C ss sm t a ≤ 1000000 := fun t a => dp_b (fun x y => (hC0 x y).1)
  have l0 : ∀ t, 0 ≤ t → t ≤ ss → lz (t * 25) = dp C ss sm t 0 := fun t g1 g2 => by have z := hlz t 0 g1 g2 (by omega) (by omega); rw [Int.add_zero] at z; exact z
  refine lv_iconst (v := iI (1)) hx hb dX4_fewestStrings_0 rfl ?_
  refine lv_istore_n (lv' := [(1, .int (iI 1)), (0, .ref (q 14))]) hx hb dX4_fewestStrings_1 rfl hl (by decide) rfl (fun ls hl => ?_)
  have L_2 : ∀ (n : Nat) (s9 : Int), (h0 : 1 ≤ s9 ∧ s9 ≤ ss) → (hf : ss - s9 < n) → (hr : ∀ t, 1 ≤ t → t < s9 → dp C ss sm t 0 ≠ 0) → ∀ (H : Heap) (locs : List Loc) (ls : Array Slot), va_P D vwCl (wT q cy nK st le be te ab bl ka bg ln ns me sc pi re bk pa lz go ss sm pf mf) H → va_D A (wT q cy nK st le be te ab bl ka bg ln ns me sc pi re bk pa lz go ss sm pf mf) → va_S A s.heap H locs → lv_has ls 2 [(1, .int (iI s9)), (0, .ref (q 14))] → W p l e ({ frames := 1, cells := 0, slots := 0, locals := 21 } : Room) s m [.ref (q 14)].toArray below meth c H locs 0 0 (MQ below (zQi D cy (wT q cy nK st le be te ab bl ka bg ln ns me sc pi re bk pa lz go ss sm pf mf) A (fw (fun s => dp C ss sm s 0) ss)) [.ref (q 14)].toArray s 0 0 A) (F0 m 2 ls []) := by
    intro n
    induction n with
    | zero =>
      intro s9 h0 hf hr
      exfalso; omega
    | succ n ih_2 =>
      intro s9 h0 hf hr H locs ls hP hD hS hl
      refine lv_iload_n hx hb dX4_fewestStrings_2 rfl (lv_at hl 0 rfl) ?_
      refine lv_aload_n hx hb dX4_fewestStrings_3 rfl (lv_at hl 1 rfl) ?_
      refine va_get (D := D) (ci := 4) (v := .int (iI ss)) (C := RX4) (T := TX4) (N := 5) hx hb hts n_X4 hown hK hP 14 rfl rfl 3 (by decide) f_21 (fun _ h9 => h9) rfl dX4_fewestStrings_4 ?_
      refine z_icmp_ge (tgt := 26) hx hb dX4_fewestStrings_7 (by decide) (by omega) (fun c_1 => ?_) (fun c_1 => ?_)
      · refine lv_aload_n hx hb dX4_fewestStrings_26 rfl (lv_at hl 1 rfl) ?_
        refine va_get (D := D) (ci := 4) (v := .int (iI ss)) (C := RX4) (T := TX4) (N := 5) hx hb hts n_X4 hown hK hP 14 rfl rfl 3 (by decide) f_21 (fun _ h9 => h9) rfl dX4_fewestStrings_27 ?_
        exact z_iret X hK hP hD hS dX4_fewestStrings_30 ((fw_eq (f := fun s => dp C ss sm s 0) ⟨by omega, fun t g1 g2 => hr t g1 (by omega), fun z => by omega⟩).symm)
      · refine lv_aload_n hx hb dX4_fewestStrings_10 rfl (lv_at hl 1 rfl) ?_
        refine lv_iload_n hx hb dX4_fewestStrings_11 rfl (lv_at hl 0 rfl) ?_
        refine z_callVi (ci := 4) (q0 := 14) (As := [.int (iI s9)]) (rest := []) X hK hP hD hA hS hl.1 gX4_fewestStrings_X4_leastWith rfl ⟨rfl, rfl⟩ hd_X4_leastWith ⟨Nat.le_of_ble_eq_true rfl, Nat.le_of_ble_eq_true rfl⟩ rfl rfl rfl (Nat.le_of_ble_eq_true rfl) ⟨Nat.zero_le _, Nat.zero_le _⟩ rfl dX4_fewestStrings_12 (c_X4_leastWith s9 (by omega)) (fun H locs hP hD hS => ?_)
        have d9 := db s9 0
        have e9 := l0 s9 (by omega) (by omega)
        refine z_if_ne (tgt := 20) hx hb dX4_fewestStrings_15 (by decide) (by omega) (fun c_2 => ?_) (fun c_2 => ?_)
        · refine lv_iinc (v := iI (s9 + 1)) (lv' := [(1, .int (iI (s9 + 1))), (0, .ref (q 14))]) hx hb dX4_fewestStrings_20 hl (k := 0) rfl (iI_add _ _) (by decide) rfl (fun ls hl => ?_)
          refine lv_goto (tgt := 2) hx hb dX4_fewestStrings_23 (by decide) ?_
          exact ih_2 (s9 + 1) (by omega) (by omega) (fun t g1 g2 => by rcases (show t < s9 ∨ t = s9 by omega) with g | g; (exact hr t g1 g); (rw [g, ← l0 s9 (by omega) (by omega)]; assumption)) _ _ _ hP hD hS (lv_sub hl [0, 1] rfl)
        · refine lv_iload_n hx hb dX4_fewestStrings_18 rfl (lv_at hl 0 rfl) ?_
          exact z_iret X hK hP hD hS dX4_fewestStrings_19 ((fw_eq (f := fun s => dp C ss sm s 0) ⟨by omega, hr, fun _ => by show dp C ss sm s9 0 = 0; omega⟩).symm)
  exact L_2 25 1 (by omega) (by omega) (fun t _ _ => by omega) _ _ _ hP hD hS (lv_sub hl [0, 1] rfl)

theorem hd_X4_bestStrings : yX4_bestStrings.cls = RX4 ∧ yX4_bestStrings.cls ≠ "java/lang/invoke/MethodHandle" ∧ yX4_bestStrings.cls ≠ "java/lang/invoke/VarHandle" ∧ (parseMethodDescriptor yX4_bestStrings.desc).map (fun d => d.parameters.length) = some 1 := by decide +kernel
set_option maxHeartbeats 4000000 in
set_option maxRecDepth 100000 in
theorem c_X4_bestStrings (L9 : Int) (C : Int → Int → Int) (hs : (1 ≤ ss ∧ ss ≤ 24) ∧ (1 ≤ sm ∧ sm ≤ 6)) (h : 1 ≤ L9 ∧ L9 ≤ 24) (hC0 : ∀ x y, 0 ≤ C x y ∧ C x y ≤ 6400) (hlz : ∀ t a, 0 ≤ t → t ≤ ss → 0 ≤ a → a ≤ ss → lz (t * 25 + a) = dp C ss sm t a) : MI l D cy yX4_bestStrings wsX4_bestStrings ({ frames := 1, cells := 0, slots := 0, locals := 21 } : Room) [.ref (q 14), .int (iI L9)] (wT q cy nK st le be te ab bl ka bg ln ns me sc pi re bk pa lz go ss sm pf mf) (bsF (fun s => dp C ss sm s 0) (min L9 ss)) (wT q cy nK st le be te ab bl ka bg ln ns me sc pi re bk pa lz go ss sm pf mf) := by
  refine MI.ofW (cc := cX4_bestStrings) (maxL := 5) (ret := (some .int)) (by decide) rfl (Nat.le_of_ble_eq_true rfl) ?_
  intro p e s m below meth c A ls X hK hP hD hA hS hl
  obtain ⟨hx, hb, hml, hr, hts, hown, hlocks⟩ := id X
  have hl : lv_has ls 5 [(0, .ref (q 14)), (1, .int (iI L9))] := hl
  have k_71 := hts (Cond.constant RX4 71 (-100009)) (by decide +kernel)
  have k_64 := hts (Cond.constant RX4 64 (1000000)) (by decide +kernel)
  have f_21 := hts (Cond.fieldLink RX4 21 "TwoKeys$Sharing" "size" "I") (by decide +kernel)
  have n_X4 : ∀ w ∈ u_ws RX4 TX4 5, w ∈ wsX4_bestStrings := by decide +kernel
  have db : ∀ t a, 0 ≤ dp C ss sm t a ∧ dp C ss sm t a ≤ 1000000 := fun t a => dp_b (fun x y => (hC0 x y).1)
  have l0 : ∀ t, 0 ≤ t → t ≤ ss → lz (t * 25) = dp C ss sm t 0 := fun t g1 g2 => by have z := hlz t 0 g1 g2 (by omega) (by omega); rw [Int.add_zero] at z; exact z
  refine z_ldc (n := -100009) hx hb hown k_71 (by decide) dX4_bestStrings_0 ?_
  refine lv_istore_n (lv' := [(2, .int (iI (-100009))), (0, .ref (q 14)), (1, .int (iI L9))]) hx hb dX4_bestStrings_2 rfl hl (by decide) rfl (fun ls hl => ?_)
  refine z_ldc (n := 1000000) hx hb hown k_64 (by decide) dX4_bestStrings_3 ?_
  refine lv_istore_n (lv' := [(3, .int (iI 1000000)), (2, .int (iI (-100009))), (0, .ref (q 14)), (1, .int (iI L9))]) hx hb dX4_bestStrings_5 rfl hl (by decide) rfl (fun ls hl => ?_)
  refine lv_iconst (v := iI (1)) hx hb dX4_bestStrings_6 rfl ?_
  refine lv_istore (lv' := [(4, .int (iI 1)), (3, .int (iI 1000000)), (2, .int (iI (-100009))), (0, .ref (q 14)), (1, .int (iI L9))]) hx hb dX4_bestStrings_7 hl (by decide) rfl (fun ls hl => ?_)
  have L_9 : ∀ (n : Nat) (b : Int) (v : Int) (s9 : Int), (h0 : 1 ≤ s9 ∧ s9 ≤ min L9 ss + 1) → (hf : min L9 ss + 1 - s9 < n) → (hr : bsI (fun s => dp C ss sm s 0) s9 b v) → (hv : 0 ≤ v ∧ v ≤ 1000000) → ∀ (H : Heap) (locs : List Loc) (ls : Array Slot), va_P D vwCl (wT q cy nK st le be te ab bl ka bg ln ns me sc pi re bk pa lz go ss sm pf mf) H → va_D A (wT q cy nK st le be te ab bl ka bg ln ns me sc pi re bk pa lz go ss sm pf mf) → va_S A s.heap H locs → lv_has ls 5 [(4, .int (iI s9)), (3, .int (iI v)), (2, .int (iI b)), (0, .ref (q 14)), (1, .int (iI L9))] → W p l e ({ frames := 1, cells := 0, slots := 0, locals := 21 } : Room) s m [.ref (q 14), .int (iI L9)].toArray below meth c H locs 0 0 (MQ below (zQi D cy (wT q cy nK st le be te ab bl ka bg ln ns me sc pi re bk pa lz go ss sm pf mf) A (bsF (fun s => dp C ss sm s 0) (min L9 ss))) [.ref (q 14), .int (iI L9)].toArray s 0 0 A) (F0 m 9 ls []) := by
    intro n
    induction n with
    | zero =>
      intro b v s9 h0 hf hr hv
      exfalso; omega
    | succ n ih_9 =>
      intro b v s9 h0 hf hr hv H locs ls hP hD hS hl
      refine lv_iload hx hb dX4_bestStrings_9 (lv_at hl 0 rfl) ?_
      refine lv_iload_n hx hb dX4_bestStrings_11 rfl (lv_at hl 4 rfl) ?_
      refine z_icmp_gt (tgt := 50) hx hb dX4_bestStrings_12 (by decide) (by omega) (fun c_1 => ?_) (fun c_1 => ?_)
      · refine lv_iload_n hx hb dX4_bestStrings_50 rfl (lv_at hl 2 rfl) ?_
        exact z_iret X hK hP hD hS dX4_bestStrings_51 (by rw [show s9 = min L9 ss + 1 by omega] at hr; exact bs_end hr)
      · refine lv_iload hx hb dX4_bestStrings_15 (lv_at hl 0 rfl) ?_
        refine lv_aload_n hx hb dX4_bestStrings_17 rfl (lv_at hl 3 rfl) ?_
        refine va_get (D := D) (ci := 4) (v := .int (iI ss)) (C := RX4) (T := TX4) (N := 5) hx hb hts n_X4 hown hK hP 14 rfl rfl 3 (by decide) f_21 (fun _ h9 => h9) rfl dX4_bestStrings_18 ?_
        refine z_icmp_gt (tgt := 50) hx hb dX4_bestStrings_21 (by decide) (by omega) (fun c_2 => ?_) (fun c_2 => ?_)
        · refine lv_iload_n hx hb dX4_bestStrings_50 rfl (lv_at hl 2 rfl) ?_
          exact z_iret X hK hP hD hS dX4_bestStrings_51 (by rw [show s9 = min L9 ss + 1 by omega] at hr; exact bs_end hr)
        · refine lv_aload_n hx hb dX4_bestStrings_24 rfl (lv_at hl 3 rfl) ?_
          refine lv_iload hx hb dX4_bestStrings_25 (lv_at hl 0 rfl) ?_
          refine z_callVi (ci := 4) (q0 := 14) (As := [.int (iI s9)]) (rest := []) X hK hP hD hA hS hl.1 gX4_bestStrings_X4_leastWith rfl ⟨rfl, rfl⟩ hd_X4_leastWith ⟨Nat.le_of_ble_eq_true rfl, Nat.le_of_ble_eq_true rfl⟩ rfl rfl rfl (Nat.le_of_ble_eq_true rfl) ⟨Nat.zero_le _, Nat.zero_le _⟩ rfl dX4_bestStrings_27 (c_X4_leastWith s9 (by omega)) (fun H locs hP hD hS => ?_)
          have d9 := db s9 0
          have e9 := l0 s9 (by omega) (by omega)
          refine lv_iload_n hx hb dX4_bestStrings_30 rfl (lv_at hl 1 rfl) ?_
          refine z_icmp_ge (tgt := 44) hx hb dX4_bestStrings_31 (by decide) (by omega) (fun c_3 => ?_) (fun c_3 => ?_)
          · refine lv_iinc (v := iI (s9 + 1)) (lv' := [(4, .int (iI (s9 + 1))), (3, .int (iI v)), (2, .int (iI b)), (0, .ref (q 14)), (1, .int (iI L9))]) hx hb dX4_bestStrings_44 hl (k := 0) rfl (iI_add _ _) (by decide) rfl (fun ls hl => ?_)
            refine lv_goto (tgt := 9) hx hb dX4_bestStrings_47 (by decide) ?_
            exact ih_9 b v (s9 + 1) (by omega) (by omega) (by first | (rw [e9]; exact bs_lt hr (by omega) (by show dp C ss sm s9 0 < v; omega)) | exact bs_ge hr (by show v ≤ dp C ss sm s9 0; omega)) (by omega) _ _ _ hP hD hS (lv_sub hl [0, 1, 2, 3, 4] rfl)
          · refine lv_aload_n hx hb dX4_bestStrings_34 rfl (lv_at hl 3 rfl) ?_
            refine lv_iload hx hb dX4_bestStrings_35 (lv_at hl 0 rfl) ?_
            refine z_callVi (ci := 4) (q0 := 14) (As := [.int (iI s9)]) (rest := []) X hK hP hD hA hS hl.1 gX4_bestStrings_X4_leastWith rfl ⟨rfl, rfl⟩ hd_X4_leastWith ⟨Nat.le_of_ble_eq_true rfl, Nat.le_of_ble_eq_true rfl⟩ rfl rfl rfl (Nat.le_of_ble_eq_true rfl) ⟨Nat.zero_le _, Nat.zero_le _⟩ rfl dX4_bestStrings_37 (c_X4_leastWith s9 (by omega)) (fun H locs hP hD hS => ?_)
            refine lv_istore_n (lv' := [(3, .int (iI (lz (s9 * 25)))), (4, .int (iI s9)), (2, .int (iI b)), (0, .ref (q 14)), (1, .int (iI L9))]) hx hb dX4_bestStrings_40 rfl hl (by decide) rfl (fun ls hl => ?_)
            refine lv_iload hx hb dX4_bestStrings_41 (lv_at hl 1 rfl) ?_
            refine lv_istore_n (lv' := [(2, .int (iI s9)), (3, .int (iI (lz (s9 * 25)))), (4, .int (iI s9)), (0, .ref (q 14)), (1, .int (iI L9))]) hx hb dX4_bestStrings_43 rfl hl (by decide) rfl (fun ls hl => ?_)
            refine lv_iinc (v := iI (s9 + 1)) (lv' := [(4, .int (iI (s9 + 1))), (2, .int (iI s9)), (3, .int (iI (lz (s9 * 25)))), (0, .ref (q 14)), (1, .int (iI L9))]) hx hb dX4_bestStrings_44 hl (k := 2) rfl (iI_add _ _) (by decide) rfl (fun ls hl => ?_)
            refine lv_goto (tgt := 9) hx hb dX4_bestStrings_47 (by decide) ?_
            exact ih_9 s9 (lz (s9 * 25)) (s9 + 1) (by omega) (by omega) (by first | (rw [e9]; exact bs_lt hr (by omega) (by show dp C ss sm s9 0 < v; omega)) | exact bs_ge hr (by show v ≤ dp C ss sm s9 0; omega)) (by omega) _ _ _ hP hD hS (lv_sub hl [0, 2, 1, 3, 4] rfl)
  exact L_9 26 (-100009) 1000000 1 (by omega) (by omega) bs_0 (by omega) _ _ _ hP hD hS (lv_sub hl [0, 1, 2, 3, 4] rfl)

theorem hd_X4_greatestGroupEnd : yX4_greatestGroupEnd.cls = RX4 ∧ yX4_greatestGroupEnd.cls ≠ "java/lang/invoke/MethodHandle" ∧ yX4_greatestGroupEnd.cls ≠ "java/lang/invoke/VarHandle" ∧ (parseMethodDescriptor yX4_greatestGroupEnd.desc).map (fun d => d.parameters.length) = some 2 := by decide +kernel
set_option maxHeartbeats 4000000 in
set_option maxRecDepth 100000 in
theorem c_X4_greatestGroupEnd (s9 : Int) (k : Int) (C : Int → Int → Int) (hs : (1 ≤ ss ∧ ss ≤ 24) ∧ (1 ≤ sm ∧ sm ≤ 6)) (h : (1 ≤ s9 ∧ s9 ≤ ss) ∧ (0 ≤ k ∧ k ≤ ss)) (hC : ∀ x y, 0 ≤ x → x ≤ y + 1 → y ≤ 23 → clS pa x y = C x y) (hC0 : ∀ x y, 0 ≤ C x y ∧ C x y ≤ 6400) (hlz : ∀ t a, 0 ≤ t → t ≤ ss → 0 ≤ a → a ≤ ss → lz (t * 25 + a) = dp C ss sm t a) : MI l D cy yX4_greatestGroupEnd wsX4_greatestGroupEnd ({ frames := 1, cells := 0, slots := 0, locals := 24 } : Room) [.ref (q 14), .int (iI s9), .int (iI k)] (wT q cy nK st le be te ab bl ka bg ln ns me sc pi re bk pa lz go ss sm pf mf) (nx C ss sm s9 k) (wT q cy nK st le be te ab bl ka bg ln ns me sc pi re bk pa lz go ss sm pf mf) := by
  refine MI.ofW (cc := cX4_greatestGroupEnd) (maxL := 7) (ret := (some .int)) (by decide) rfl (Nat.le_of_ble_eq_true rfl) ?_
  intro p e s m below meth c A ls X hK hP hD hA hS hl
  obtain ⟨hx, hb, hml, hr, hts, hown, hlocks⟩ := id X
  have hl : lv_has ls 7 [(0, .ref (q 14)), (1, .int (iI s9)), (2, .int (iI k))] := hl
  have f_21 := hts (Cond.fieldLink RX4 21 "TwoKeys$Sharing" "size" "I") (by decide +kernel)
  have f_25 := hts (Cond.fieldLink RX4 25 "TwoKeys$Sharing" "most" "I") (by decide +kernel)
  have f_15 := hts (Cond.fieldLink RX4 15 "TwoKeys$Sharing" "leasts" "[I") (by decide +kernel)
  have n_X4 : ∀ w ∈ u_ws RX4 TX4 5, w ∈ wsX4_greatestGroupEnd := by decide +kernel
  have db : ∀ t a, 0 ≤ dp C ss sm t a ∧ dp C ss sm t a ≤ 1000000 := fun t a => dp_b (fun x y => (hC0 x y).1)
  refine lv_iload_n hx hb dX4_greatestGroupEnd_0 rfl (lv_at hl 2 rfl) ?_
  refine lv_istore_n (lv' := [(3, .int (iI k)), (0, .ref (q 14)), (1, .int (iI s9)), (2, .int (iI k))]) hx hb dX4_greatestGroupEnd_1 rfl hl (by decide) rfl (fun ls hl => ?_)
  refine lv_iconst (v := iI (0)) hx hb dX4_greatestGroupEnd_2 rfl ?_
  refine lv_istore (lv' := [(4, .int (iI 0)), (3, .int (iI k)), (0, .ref (q 14)), (1, .int (iI s9)), (2, .int (iI k))]) hx hb dX4_greatestGroupEnd_3 hl (by decide) rfl (fun ls hl => ?_)
  refine lv_iload_n hx hb dX4_greatestGroupEnd_5 rfl (lv_at hl 4 rfl) ?_
  refine lv_iconst (v := iI (1)) hx hb dX4_greatestGroupEnd_6 rfl ?_
  refine z_iadd hx hb dX4_greatestGroupEnd_7 ?_
  refine lv_istore (lv' := [(5, .int (iI (k + 1))), (4, .int (iI 0)), (3, .int (iI k)), (0, .ref (q 14)), (1, .int (iI s9)), (2, .int (iI k))]) hx hb dX4_greatestGroupEnd_8 hl (by decide) rfl (fun ls hl => ?_)
  have L_10 : ∀ (n : Nat) (en : Int) (cs : Int) (x : Int), (h0 : k + 1 ≤ x ∧ (x ≤ min ss (k + sm) + 1)) → (hf : 26 - x < n) → (hr : en = ggZ (fun x => C k (x - 1) + dp C ss sm (s9 - 1) x) (dp C ss sm s9 k) k (k + 1) x) → (hcs : cs = clS pa k (x - 2)) → ∀ (H : Heap) (locs : List Loc) (ls : Array Slot), va_P D vwCl (wT q cy nK st le be te ab bl ka bg ln ns me sc pi re bk pa lz go ss sm pf mf) H → va_D A (wT q cy nK st le be te ab bl ka bg ln ns me sc pi re bk pa lz go ss sm pf mf) → va_S A s.heap H locs → lv_has ls 7 [(5, .int (iI x)), (4, .int (iI cs)), (3, .int (iI en)), (0, .ref (q 14)), (1, .int (iI s9)), (2, .int (iI k))] → W p l e ({ frames := 1, cells := 0, slots := 0, locals := 24 } : Room) s m [.ref (q 14), .int (iI s9), .int (iI k)].toArray below meth c H locs 0 0 (MQ below (zQi D cy (wT q cy nK st le be te ab bl ka bg ln ns me sc pi re bk pa lz go ss sm pf mf) A (nx C ss sm s9 k)) [.ref (q 14), .int (iI s9), .int (iI k)].toArray s 0 0 A) (F0 m 10 ls []) := by
    intro n
    induction n with
    | zero =>
      intro en cs x h0 hf hr hcs
      exfalso; omega
    | succ n ih_10 =>
      intro en cs x h0 hf hr hcs H locs ls hP hD hS hl
      refine lv_iload hx hb dX4_greatestGroupEnd_10 (lv_at hl 0 rfl) ?_
      refine lv_aload_n hx hb dX4_greatestGroupEnd_12 rfl (lv_at hl 3 rfl) ?_
      refine va_get (D := D) (ci := 4) (v := .int (iI ss)) (C := RX4) (T := TX4) (N := 5) hx hb hts n_X4 hown hK hP 14 rfl rfl 3 (by decide) f_21 (fun _ h9 => h9) rfl dX4_greatestGroupEnd_13 ?_
      refine z_icmp_gt (tgt := 88) hx hb dX4_greatestGroupEnd_16 (by decide) (by omega) (fun c_1 => ?_) (fun c_1 => ?_)
      · refine lv_iload_n hx hb dX4_greatestGroupEnd_88 rfl (lv_at hl 2 rfl) ?_
        exact z_iret X hK hP hD hS dX4_greatestGroupEnd_89 (by rw [hr, show x = min ss (k + sm) + 1 by omega]; rfl)
      · refine lv_iload hx hb dX4_greatestGroupEnd_19 (lv_at hl 0 rfl) ?_
        refine lv_iload_n hx hb dX4_greatestGroupEnd_21 rfl (lv_at hl 5 rfl) ?_
        refine lv_aload_n hx hb dX4_greatestGroupEnd_22 rfl (lv_at hl 3 rfl) ?_
        refine va_get (D := D) (ci := 4) (v := .int (iI sm)) (C := RX4) (T := TX4) (N := 5) hx hb hts n_X4 hown hK hP 14 rfl rfl 4 (by decide) f_25 (fun _ h9 => h9) rfl dX4_greatestGroupEnd_23 ?_
        refine z_iadd hx hb dX4_greatestGroupEnd_26 ?_
        refine z_icmp_gt (tgt := 88) hx hb dX4_greatestGroupEnd_27 (by decide) (by omega) (fun c_2 => ?_) (fun c_2 => ?_)
        · refine lv_iload_n hx hb dX4_greatestGroupEnd_88 rfl (lv_at hl 2 rfl) ?_
          exact z_iret X hK hP hD hS dX4_greatestGroupEnd_89 (by rw [hr, show x = min ss (k + sm) + 1 by omega]; rfl)
        · refine lv_iload hx hb dX4_greatestGroupEnd_30 (lv_at hl 1 rfl) ?_
          refine lv_aload_n hx hb dX4_greatestGroupEnd_32 rfl (lv_at hl 3 rfl) ?_
          refine lv_iload_n hx hb dX4_greatestGroupEnd_33 rfl (lv_at hl 5 rfl) ?_
          refine lv_iload hx hb dX4_greatestGroupEnd_34 (lv_at hl 0 rfl) ?_
          refine lv_iconst (v := iI (1)) hx hb dX4_greatestGroupEnd_36 rfl ?_
          refine z_isub hx hb dX4_greatestGroupEnd_37 ?_
          refine z_callVi (ci := 4) (q0 := 14) (As := [.int (iI k), .int (iI (x - 1))]) (rest := [.int (iI cs)]) X hK hP hD hA hS hl.1 gX4_greatestGroupEnd_X4_clashesBelow rfl ⟨rfl, rfl⟩ hd_X4_clashesBelow ⟨Nat.le_of_ble_eq_true rfl, Nat.le_of_ble_eq_true rfl⟩ rfl rfl rfl (Nat.le_of_ble_eq_true rfl) ⟨Nat.zero_le _, Nat.zero_le _⟩ rfl dX4_greatestGroupEnd_38 (c_X4_clashesBelow k (x - 1) (by omega)) (fun H locs hP hD hS => ?_)
          have ec : clS pa k (x - 1) = cs + blw pa k (x - 1) := by rw [clS_s (b := x - 1) (by omega), show x - 1 - 1 = x - 2 by omega, ← hcs]
          have ec2 := hC k (x - 1) (by omega) (by omega) (by omega)
          have c9 := hC0 k (x - 1)
          have l9 := hlz (s9 - 1) x (by omega) (by omega) (by omega) (by omega)
          have l8 := hlz s9 k (by omega) (by omega) (by omega) (by omega)
          have d9 := db (s9 - 1) x
          have d8 := db s9 k
          refine z_iadd hx hb dX4_greatestGroupEnd_41 ?_
          refine lv_istore (lv' := [(4, .int (iI (cs + (blw pa k (x - 1))))), (5, .int (iI x)), (3, .int (iI en)), (0, .ref (q 14)), (1, .int (iI s9)), (2, .int (iI k))]) hx hb dX4_greatestGroupEnd_42 hl (by decide) rfl (fun ls hl => ?_)
          refine lv_iload hx hb dX4_greatestGroupEnd_44 (lv_at hl 0 rfl) ?_
          refine lv_aload_n hx hb dX4_greatestGroupEnd_46 rfl (lv_at hl 3 rfl) ?_
          refine va_get (D := D) (ci := 4) (v := .ref (q 16)) (C := RX4) (T := TX4) (N := 5) hx hb hts n_X4 hown hK hP 14 rfl rfl 1 (by decide) f_15 (fun _ h9 => h9) rfl dX4_greatestGroupEnd_47 ?_
          refine lv_iload_n hx hb dX4_greatestGroupEnd_50 rfl (lv_at hl 4 rfl) ?_
          refine lv_iconst (v := iI (1)) hx hb dX4_greatestGroupEnd_51 rfl ?_
          refine z_isub hx hb dX4_greatestGroupEnd_52 ?_
          refine lv_bipush (v := iI (25)) hx hb dX4_greatestGroupEnd_53 (by decide) ?_
          refine z_imul hx hb dX4_greatestGroupEnd_55 ?_
          refine lv_iload hx hb dX4_greatestGroupEnd_56 (lv_at hl 1 rfl) ?_
          refine z_iadd hx hb dX4_greatestGroupEnd_58 ?_
          refine z_iald hx hb hK hP 16 0 rfl rfl (by omega) dX4_greatestGroupEnd_59 ?_
          refine z_iadd hx hb dX4_greatestGroupEnd_60 ?_
          refine lv_istore (lv' := [(6, .int (iI ((cs + (blw pa k (x - 1))) + (lz (((s9 - 1) * 25) + x))))), (4, .int (iI (cs + (blw pa k (x - 1))))), (5, .int (iI x)), (3, .int (iI en)), (0, .ref (q 14)), (1, .int (iI s9)), (2, .int (iI k))]) hx hb dX4_greatestGroupEnd_61 hl (by decide) rfl (fun ls hl => ?_)
          refine lv_iload hx hb dX4_greatestGroupEnd_63 (lv_at hl 0 rfl) ?_
          refine lv_aload_n hx hb dX4_greatestGroupEnd_65 rfl (lv_at hl 4 rfl) ?_
          refine va_get (D := D) (ci := 4) (v := .ref (q 16)) (C := RX4) (T := TX4) (N := 5) hx hb hts n_X4 hown hK hP 14 rfl rfl 1 (by decide) f_15 (fun _ h9 => h9) rfl dX4_greatestGroupEnd_66 ?_
          refine lv_iload_n hx hb dX4_greatestGroupEnd_69 rfl (lv_at hl 5 rfl) ?_
          refine lv_bipush (v := iI (25)) hx hb dX4_greatestGroupEnd_70 (by decide) ?_
          refine z_imul hx hb dX4_greatestGroupEnd_72 ?_
          refine lv_iload_n hx hb dX4_greatestGroupEnd_73 rfl (lv_at hl 6 rfl) ?_
          refine z_iadd hx hb dX4_greatestGroupEnd_74 ?_
          refine z_iald hx hb hK hP 16 0 rfl rfl (by omega) dX4_greatestGroupEnd_75 ?_
          refine z_icmp_ne (tgt := 82) hx hb dX4_greatestGroupEnd_76 (by decide) (by omega) (fun c_3 => ?_) (fun c_3 => ?_)
          · refine lv_iinc (v := iI (x + 1)) (lv' := [(5, .int (iI (x + 1))), (6, .int (iI ((cs + (blw pa k (x - 1))) + (lz (((s9 - 1) * 25) + x))))), (4, .int (iI (cs + (blw pa k (x - 1))))), (3, .int (iI en)), (0, .ref (q 14)), (1, .int (iI s9)), (2, .int (iI k))]) hx hb dX4_greatestGroupEnd_82 hl (k := 2) rfl (iI_add _ _) (by decide) rfl (fun ls hl => ?_)
            refine lv_goto (tgt := 10) hx hb dX4_greatestGroupEnd_85 (by decide) ?_
            exact ih_10 en (cs + (blw pa k (x - 1))) (x + 1) (by omega) (by omega) (by rw [ggZ_s (by omega)]; (try dsimp only); first | (rw [if_pos (by omega)]; done) | (rw [if_neg (by omega)]; exact hr)) (by rw [show x + 1 - 2 = x - 1 by omega]; exact ec.symm) _ _ _ hP hD hS (lv_sub hl [0, 2, 3, 4, 5, 6] rfl)
          · refine lv_iload hx hb dX4_greatestGroupEnd_79 (lv_at hl 2 rfl) ?_
            refine lv_istore_n (lv' := [(3, .int (iI x)), (6, .int (iI ((cs + (blw pa k (x - 1))) + (lz (((s9 - 1) * 25) + x))))), (4, .int (iI (cs + (blw pa k (x - 1))))), (5, .int (iI x)), (0, .ref (q 14)), (1, .int (iI s9)), (2, .int (iI k))]) hx hb dX4_greatestGroupEnd_81 rfl hl (by decide) rfl (fun ls hl => ?_)
            refine lv_iinc (v := iI (x + 1)) (lv' := [(5, .int (iI (x + 1))), (3, .int (iI x)), (6, .int (iI ((cs + (blw pa k (x - 1))) + (lz (((s9 - 1) * 25) + x))))), (4, .int (iI (cs + (blw pa k (x - 1))))), (0, .ref (q 14)), (1, .int (iI s9)), (2, .int (iI k))]) hx hb dX4_greatestGroupEnd_82 hl (k := 3) rfl (iI_add _ _) (by decide) rfl (fun ls hl => ?_)
            refine lv_goto (tgt := 10) hx hb dX4_greatestGroupEnd_85 (by decide) ?_
            exact ih_10 x (cs + (blw pa k (x - 1))) (x + 1) (by omega) (by omega) (by rw [ggZ_s (by omega)]; (try dsimp only); first | (rw [if_pos (by omega)]; done) | (rw [if_neg (by omega)]; exact hr)) (by rw [show x + 1 - 2 = x - 1 by omega]; exact ec.symm) _ _ _ hP hD hS (lv_sub hl [0, 3, 1, 4, 5, 6] rfl)
  exact L_10 27 k 0 (k + 1) (by omega) (by omega) ((ggZ_0 (by omega)).symm) ((clS_0 (by omega)).symm) _ _ _ hP hD hS (lv_sub hl [0, 1, 2, 3, 4, 5] rfl)

theorem hd_X4_layOut : yX4_layOut.cls = RX4 ∧ yX4_layOut.cls ≠ "java/lang/invoke/MethodHandle" ∧ yX4_layOut.cls ≠ "java/lang/invoke/VarHandle" ∧ (parseMethodDescriptor yX4_layOut.desc).map (fun d => d.parameters.length) = some 1 := by decide +kernel
set_option maxHeartbeats 4000000 in
set_option maxRecDepth 100000 in
theorem c_X4_layOut (S9 : Int) (C : Int → Int → Int) (hs : (1 ≤ ss ∧ ss ≤ 24) ∧ (1 ≤ sm ∧ sm ≤ 6)) (h : 1 ≤ S9 ∧ S9 ≤ ss) (hd : dp C ss sm S9 0 < 1000000) (hC : ∀ x y, 0 ≤ x → x ≤ y + 1 → y ≤ 23 → clS pa x y = C x y) (hC0 : ∀ x y, 0 ≤ C x y ∧ C x y ≤ 6400) (hlz : ∀ t a, 0 ≤ t → t ≤ ss → 0 ≤ a → a ≤ ss → lz (t * 25 + a) = dp C ss sm t a) : MW l D cy yX4_layOut wsX4_layOut ({ frames := 2, cells := 0, slots := 0, locals := 50 } : Room) [.ref (q 14), .int (iI S9)] (wT q cy nK st le be te ab bl ka bg ln ns me sc pi re bk pa lz go ss sm pf mf) (fun w8 => ∃ go3 : Int → Int, w8 = wT q cy nK st le be te ab bl ka bg ln ns me sc pi re bk pa lz go3 ss sm pf mf ∧ (∀ g k, 0 ≤ g → g < S9 → kb C ss sm S9 g ≤ k → k < kb C ss sm S9 (g + 1) → go3 k = g)) := by
  refine MW.ofW (cc := cX4_layOut) (maxL := 6) (ret := none) (by decide) rfl (Nat.le_of_ble_eq_true rfl) ?_
  intro p e s m below meth c A ls X hK hP hD hA hS hl
  obtain ⟨hx, hb, hml, hr, hts, hown, hlocks⟩ := id X
  have hl : lv_has ls 6 [(0, .ref (q 14)), (1, .int (iI S9))] := hl
  have f_18 := hts (Cond.fieldLink RX4 18 "TwoKeys$Sharing" "groupOf" "[I") (by decide +kernel)
  have n_X4 : ∀ w ∈ u_ws RX4 TX4 5, w ∈ wsX4_layOut := by decide +kernel
  have hP0 : ∀ x y, 0 ≤ C x y := fun x y => (hC0 x y).1
  refine lv_iconst (v := iI (0)) hx hb dX4_layOut_0 rfl ?_
  refine lv_istore_n (lv' := [(2, .int (iI 0)), (0, .ref (q 14)), (1, .int (iI S9))]) hx hb dX4_layOut_1 rfl hl (by decide) rfl (fun ls hl => ?_)
  refine lv_iconst (v := iI (0)) hx hb dX4_layOut_2 rfl ?_
  refine lv_istore_n (lv' := [(3, .int (iI 0)), (2, .int (iI 0)), (0, .ref (q 14)), (1, .int (iI S9))]) hx hb dX4_layOut_3 rfl hl (by decide) rfl (fun ls hl => ?_)
  have L_4 : ∀ (n : Nat) (k : Int) (g : Int) (go1 : Int → Int), (h0 : 0 ≤ g ∧ g ≤ S9) → (hf : S9 - g < n) → (ek : k = kb C ss sm S9 g) → (hr : ∀ t x, 0 ≤ t → t < g → kb C ss sm S9 t ≤ x → x < kb C ss sm S9 (t + 1) → go1 x = t) → ∀ (H : Heap) (locs : List Loc) (ls : Array Slot), va_P D vwCl (wT q cy nK st le be te ab bl ka bg ln ns me sc pi re bk pa lz go1 ss sm pf mf) H → va_D A (wT q cy nK st le be te ab bl ka bg ln ns me sc pi re bk pa lz go1 ss sm pf mf) → va_S A s.heap H locs → lv_has ls 6 [(3, .int (iI g)), (2, .int (iI k)), (0, .ref (q 14)), (1, .int (iI S9))] → W p l e ({ frames := 2, cells := 0, slots := 0, locals := 50 } : Room) s m [.ref (q 14), .int (iI S9)].toArray below meth c H locs 0 0 (MQ below (zQw D cy A (fun w8 => ∃ go3 : Int → Int, w8 = wT q cy nK st le be te ab bl ka bg ln ns me sc pi re bk pa lz go3 ss sm pf mf ∧ (∀ g k, 0 ≤ g → g < S9 → kb C ss sm S9 g ≤ k → k < kb C ss sm S9 (g + 1) → go3 k = g))) [.ref (q 14), .int (iI S9)].toArray s 0 0 A) (F0 m 4 ls []) := by
    intro n
    induction n with
    | zero =>
      intro k g go1 h0 hf ek hr
      exfalso; omega
    | succ n ih_4 =>
      intro k g go1 h0 hf ek hr H locs ls hP hD hS hl
      have kd := kb_dp (n := ss) (m := sm) hP0 hd (g := g) (by omega) (by omega)
      refine lv_iload_n hx hb dX4_layOut_4 rfl (lv_at hl 0 rfl) ?_
      refine lv_iload_n hx hb dX4_layOut_5 rfl (lv_at hl 3 rfl) ?_
      refine z_icmp_ge (tgt := 52) hx hb dX4_layOut_6 (by decide) (by omega) (fun c_1 => ?_) (fun c_1 => ?_)
      · exact z_vretR X hK hP hD hS dX4_layOut_52 (⟨_, rfl, fun t x g1 g2 g3 g4 => hr t x g1 (by omega) g3 g4⟩)
      · have ku := kb_up (n := ss) (m := sm) hP0 hd (g := g) (by omega) (by omega)
        have kn := kb_s (C := C) (n := ss) (m := sm) (S := S9) (g := g) (by omega)
        rw [← ek] at kn ku kd
        refine lv_aload_n hx hb dX4_layOut_9 rfl (lv_at hl 2 rfl) ?_
        refine lv_iload_n hx hb dX4_layOut_10 rfl (lv_at hl 3 rfl) ?_
        refine lv_iload_n hx hb dX4_layOut_11 rfl (lv_at hl 0 rfl) ?_
        refine z_isub hx hb dX4_layOut_12 ?_
        refine lv_iload_n hx hb dX4_layOut_13 rfl (lv_at hl 1 rfl) ?_
        refine z_callVi (ci := 4) (q0 := 14) (As := [.int (iI (S9 - g)), .int (iI k)]) (rest := []) X hK hP hD hA hS hl.1 gX4_layOut_X4_greatestGroupEnd rfl ⟨rfl, rfl⟩ hd_X4_greatestGroupEnd ⟨Nat.le_of_ble_eq_true rfl, Nat.le_of_ble_eq_true rfl⟩ rfl rfl rfl (Nat.le_of_ble_eq_true rfl) ⟨Nat.zero_le _, Nat.zero_le _⟩ rfl dX4_layOut_14 (c_X4_greatestGroupEnd (S9 - g) k (by omega) (by omega) (by omega) (by omega) (by omega) (by omega)) (fun H locs hP hD hS => ?_)
        refine lv_istore (lv' := [(4, .int (iI (nx C ss sm (S9 - g) k))), (3, .int (iI g)), (2, .int (iI k)), (0, .ref (q 14)), (1, .int (iI S9))]) hx hb dX4_layOut_17 hl (by decide) rfl (fun ls hl => ?_)
        refine lv_iload_n hx hb dX4_layOut_19 rfl (lv_at hl 2 rfl) ?_
        refine lv_istore (lv' := [(5, .int (iI k)), (4, .int (iI (nx C ss sm (S9 - g) k))), (3, .int (iI g)), (2, .int (iI k)), (0, .ref (q 14)), (1, .int (iI S9))]) hx hb dX4_layOut_20 hl (by decide) rfl (fun ls hl => ?_)
        have L_22 : ∀ (n : Nat) (x : Int) (go2 : Int → Int), (h3 : k ≤ x ∧ x ≤ nx C ss sm (S9 - g) k) → (hf2 : nx C ss sm (S9 - g) k - x < n) → (hr2 : ∀ y, y < k → go2 y = go1 y) → (hr3 : ∀ y, k ≤ y → y < x → go2 y = g) → ∀ (H : Heap) (locs : List Loc) (ls : Array Slot), va_P D vwCl (wT q cy nK st le be te ab bl ka bg ln ns me sc pi re bk pa lz go2 ss sm pf mf) H → va_D A (wT q cy nK st le be te ab bl ka bg ln ns me sc pi re bk pa lz go2 ss sm pf mf) → va_S A s.heap H locs → lv_has ls 6 [(5, .int (iI x)), (4, .int (iI (nx C ss sm (S9 - g) k))), (3, .int (iI g)), (2, .int (iI k)), (0, .ref (q 14)), (1, .int (iI S9))] → W p l e ({ frames := 2, cells := 0, slots := 0, locals := 50 } : Room) s m [.ref (q 14), .int (iI S9)].toArray below meth c H locs 0 0 (MQ below (zQw D cy A (fun w8 => ∃ go3 : Int → Int, w8 = wT q cy nK st le be te ab bl ka bg ln ns me sc pi re bk pa lz go3 ss sm pf mf ∧ (∀ g k, 0 ≤ g → g < S9 → kb C ss sm S9 g ≤ k → k < kb C ss sm S9 (g + 1) → go3 k = g))) [.ref (q 14), .int (iI S9)].toArray s 0 0 A) (F0 m 22 ls []) := by
          intro n
          induction n with
          | zero =>
            intro x go2 h3 hf2 hr2 hr3
            exfalso; omega
          | succ n ih_22 =>
            intro x go2 h3 hf2 hr2 hr3 H locs ls hP hD hS hl
            refine lv_iload hx hb dX4_layOut_22 (lv_at hl 0 rfl) ?_
            refine lv_iload hx hb dX4_layOut_24 (lv_at hl 1 rfl) ?_
            refine z_icmp_ge (tgt := 43) hx hb dX4_layOut_26 (by decide) (by omega) (fun c_2 => ?_) (fun c_2 => ?_)
            · refine lv_iload hx hb dX4_layOut_43 (lv_at hl 1 rfl) ?_
              refine lv_istore_n (lv' := [(2, .int (iI (nx C ss sm (S9 - g) k))), (5, .int (iI x)), (4, .int (iI (nx C ss sm (S9 - g) k))), (3, .int (iI g)), (0, .ref (q 14)), (1, .int (iI S9))]) hx hb dX4_layOut_45 rfl hl (by decide) rfl (fun ls hl => ?_)
              refine lv_iinc (v := iI (g + 1)) (lv' := [(3, .int (iI (g + 1))), (2, .int (iI (nx C ss sm (S9 - g) k))), (5, .int (iI x)), (4, .int (iI (nx C ss sm (S9 - g) k))), (0, .ref (q 14)), (1, .int (iI S9))]) hx hb dX4_layOut_46 hl (k := 3) rfl (iI_add _ _) (by decide) rfl (fun ls hl => ?_)
              refine lv_goto (tgt := 4) hx hb dX4_layOut_49 (by decide) ?_
              exact ih_4 (nx C ss sm (S9 - g) k) (g + 1) go2 (by omega) (by omega) (by rw [kb_s (by omega), ← ek]) (fun t x g1 g2 g3 g4 => by rcases (show t < g ∨ t = g by omega) with z | z; (rw [hr2 x (by have := kb_le (n := ss) (m := sm) hP0 hd (t := t + 1) (g := g) (by omega) (by omega) (by omega); omega)]; exact hr t x g1 z g3 g4); (rw [z] at g3 g4 ⊢; exact hr3 x (by omega) (by rw [kb_s (by omega), ← ek] at g4; omega))) _ _ _ hP hD hS (lv_sub hl [0, 1, 4, 5] rfl)
            · refine lv_aload_n hx hb dX4_layOut_29 rfl (lv_at hl 4 rfl) ?_
              refine va_get (D := D) (ci := 4) (v := .ref (q 17)) (C := RX4) (T := TX4) (N := 5) hx hb hts n_X4 hown hK hP 14 rfl rfl 2 (by decide) f_18 (fun _ h9 => h9) rfl dX4_layOut_30 ?_
              refine lv_iload hx hb dX4_layOut_33 (lv_at hl 0 rfl) ?_
              refine lv_iload_n hx hb dX4_layOut_35 rfl (lv_at hl 2 rfl) ?_
              refine z_iast (v := g) hx hb hK hP hD hS 17 0 rfl rfl (by omega) dX4_layOut_36 (fun H locs hP hD hS => ?_)
              have hP : va_P D vwCl (wT q cy nK st le be te ab bl ka bg ln ns me sc pi re bk pa lz (uZ go2 x g) ss sm pf mf) H := hP
              have hD : va_D A (wT q cy nK st le be te ab bl ka bg ln ns me sc pi re bk pa lz (uZ go2 x g) ss sm pf mf) := hD
              refine lv_iinc (v := iI (x + 1)) (lv' := [(5, .int (iI (x + 1))), (4, .int (iI (nx C ss sm (S9 - g) k))), (3, .int (iI g)), (2, .int (iI k)), (0, .ref (q 14)), (1, .int (iI S9))]) hx hb dX4_layOut_37 hl (k := 0) rfl (iI_add _ _) (by decide) rfl (fun ls hl => ?_)
              refine lv_goto (tgt := 22) hx hb dX4_layOut_40 (by decide) ?_
              exact ih_22 (x + 1) (uZ go2 x g) (by omega) (by omega) (fun y g1 => by rw [uZ_other (by omega)]; exact hr2 y g1) (fun y g1 g2 => by rcases (show y < x ∨ y = x by omega) with z | z; (rw [uZ_other (by omega)]; exact hr3 y g1 z); (rw [z, uZ_same])) _ _ _ hP hD hS (lv_sub hl [0, 1, 2, 3, 4, 5] rfl)
        exact L_22 25 k go1 (by omega) (by omega) (fun y _ => rfl) (fun y _ _ => by omega) _ _ _ hP hD hS (lv_sub hl [0, 1, 2, 3, 4, 5] rfl)
  exact L_4 25 0 0 go (by omega) (by omega) kb_0.symm (fun t x _ _ => by omega) _ _ _ hP hD hS (lv_sub hl [0, 1, 2, 3] rfl)
