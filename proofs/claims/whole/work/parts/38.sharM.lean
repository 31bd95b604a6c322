variable {l : Launch} {D : va_G} {cy : ClassId} {q : Nat → Nat} {nK sc pi re bk ss sm pf mf th lo : Int} {st le be te ab bl ka bg ln ns me pa lz go co bs gr : Int → Int}
theorem hd_X6_togetherOf : yX6_togetherOf.cls = RX6 ∧ yX6_togetherOf.cls ≠ "java/lang/invoke/MethodHandle" ∧ yX6_togetherOf.cls ≠ "java/lang/invoke/VarHandle" ∧ (parseMethodDescriptor yX6_togetherOf.desc).map (fun d => d.parameters.length) = some 2 := by decide +kernel
set_option maxHeartbeats 4000000 in
set_option maxRecDepth 100000 in
theorem c_X6_togetherOf (I : okS nK st le be te ab bl ka bg ln ns me sc pi re bk) (f9 : Int) (t9 : Int) (h : (0 ≤ f9 ∧ f9 ≤ 23) ∧ (0 ≤ t9 ∧ t9 ≤ 23)) : MI l D cy yX6_togetherOf wsX6_togetherOf ({ frames := 1, cells := 0, slots := 0, locals := 25 } : Room) [.ref (q 0), .int (iI f9), .int (iI t9)] (wM q cy nK st le be te ab bl ka bg ln ns me sc pi re bk th co bs gr lo) ((tog ka bg ln ns bk) f9 t9) (wM q cy nK st le be te ab bl ka bg ln ns me sc pi re bk th co bs gr lo) := by
  refine MI.ofW (cc := cX6_togetherOf) (maxL := 8) (ret := (some .int)) (by decide) rfl (Nat.le_of_ble_eq_true rfl) ?_
  intro p e s m below meth c A ls X hK hP hD hA hS hl
  obtain ⟨hx, hb, hml, hr, hts, hown, hlocks⟩ := id X
  have hl : lv_has ls 8 [(0, .ref (q 0)), (1, .int (iI f9)), (2, .int (iI t9))] := hl
  have f_35 := hts (Cond.fieldLink RX6 35 "TwoKeysModel" "notes" "[I") (by decide +kernel)
  have f_167 := hts (Cond.fieldLink RX6 167 "TwoKeysModel" "book" "I") (by decide +kernel)
  have f_38 := hts (Cond.fieldLink RX6 38 "TwoKeysModel" "noteKey" "[I") (by decide +kernel)
  have n_X6 : ∀ w ∈ u_ws RX6 TX6 21, w ∈ wsX6_togetherOf := by decide +kernel
  have iK := I.nK
  have ibk := I.bk
  refine lv_iconst (v := iI (0)) hx hb dX6_togetherOf_0 rfl ?_
  refine lv_istore_n (lv' := [(3, .int (iI 0)), (0, .ref (q 0)), (1, .int (iI f9)), (2, .int (iI t9))]) hx hb dX6_togetherOf_1 rfl hl (by decide) rfl (fun ls hl => ?_)
  refine lv_iconst (v := iI (0)) hx hb dX6_togetherOf_2 rfl ?_
  refine lv_istore (lv' := [(4, .int (iI 0)), (3, .int (iI 0)), (0, .ref (q 0)), (1, .int (iI f9)), (2, .int (iI t9))]) hx hb dX6_togetherOf_3 hl (by decide) rfl (fun ls hl => ?_)
  have L_5 : ∀ (n : Nat) (acc : Int) (p9 : Int), (h0 : 0 ≤ p9 ∧ p9 ≤ 4) → (hf : 4 - p9 < n) → (hr : acc = sZ (fun p => if srZ bk p % 2 = 1 then sZ (fun b => sZ (fun a => bP (tgP ka bg ln f9 t9 a b)) (40 * p) b) (40 * p) (40 * p + ns p) else 0) 0 p9) → ∀ (H : Heap) (locs : List Loc) (ls : Array Slot), va_P D vwCl (wM q cy nK st le be te ab bl ka bg ln ns me sc pi re bk th co bs gr lo) H → va_D A (wM q cy nK st le be te ab bl ka bg ln ns me sc pi re bk th co bs gr lo) → va_S A s.heap H locs → lv_has ls 8 [(4, .int (iI p9)), (3, .int (iI acc)), (0, .ref (q 0)), (1, .int (iI f9)), (2, .int (iI t9))] → W p l e ({ frames := 1, cells := 0, slots := 0, locals := 25 } : Room) s m [.ref (q 0), .int (iI f9), .int (iI t9)].toArray below meth c H locs 0 0 (MQ below (zQi D cy (wM q cy nK st le be te ab bl ka bg ln ns me sc pi re bk th co bs gr lo) A ((tog ka bg ln ns bk) f9 t9)) [.ref (q 0), .int (iI f9), .int (iI t9)].toArray s 0 0 A) (F0 m 5 ls []) := by
    intro n
    induction n with
    | zero =>
      intro acc p9 h0 hf hr
      exfalso; omega
    | succ n ih_5 =>
      intro acc p9 h0 hf hr H locs ls hP hD hS hl
      refine lv_iload hx hb dX6_togetherOf_5 (lv_at hl 0 rfl) ?_
      refine lv_iconst (v := iI (4)) hx hb dX6_togetherOf_7 rfl ?_
      refine z_icmp_ge (tgt := 165) hx hb dX6_togetherOf_8 (by decide) (by omega) (fun c_1 => ?_) (fun c_1 => ?_)
      · refine lv_iload_n hx hb dX6_togetherOf_165 rfl (lv_at hl 1 rfl) ?_
        exact z_iret X hK hP hD hS dX6_togetherOf_166 (by rw [hr, show p9 = 4 by omega]; rfl)
      · have i7 := I.ns p9
        refine lv_bipush (v := iI (40)) hx hb dX6_togetherOf_11 (by decide) ?_
        refine lv_iload hx hb dX6_togetherOf_13 (lv_at hl 0 rfl) ?_
        refine z_imul hx hb dX6_togetherOf_15 ?_
        refine lv_istore (lv' := [(5, .int (iI (40 * p9))), (4, .int (iI p9)), (3, .int (iI acc)), (0, .ref (q 0)), (1, .int (iI f9)), (2, .int (iI t9))]) hx hb dX6_togetherOf_16 hl (by decide) rfl (fun ls hl => ?_)
        have L_18 : ∀ (n : Nat) (acc2 : Int) (b : Int), (h2 : 40 * p9 ≤ b ∧ b ≤ 40 * p9 + ns p9) → (hf2 : 40 * p9 + ns p9 - b < n) → (hbt : srZ bk p9 % 2 = 1 ∨ b = 40 * p9) → (hr2 : acc2 = acc + sZ (fun b => sZ (fun a => bP (tgP ka bg ln f9 t9 a b)) (40 * p9) b) (40 * p9) b) → ∀ (H : Heap) (locs : List Loc) (ls : Array Slot), va_P D vwCl (wM q cy nK st le be te ab bl ka bg ln ns me sc pi re bk th co bs gr lo) H → va_D A (wM q cy nK st le be te ab bl ka bg ln ns me sc pi re bk th co bs gr lo) → va_S A s.heap H locs → lv_has ls 8 [(5, .int (iI b)), (4, .int (iI p9)), (3, .int (iI acc2)), (0, .ref (q 0)), (1, .int (iI f9)), (2, .int (iI t9))] → W p l e ({ frames := 1, cells := 0, slots := 0, locals := 25 } : Room) s m [.ref (q 0), .int (iI f9), .int (iI t9)].toArray below meth c H locs 0 0 (MQ below (zQi D cy (wM q cy nK st le be te ab bl ka bg ln ns me sc pi re bk th co bs gr lo) A ((tog ka bg ln ns bk) f9 t9)) [.ref (q 0), .int (iI f9), .int (iI t9)].toArray s 0 0 A) (F0 m 18 ls []) := by
          intro n
          induction n with
          | zero =>
            intro acc2 b h2 hf2 hbt hr2
            exfalso; omega
          | succ n ih_18 =>
            intro acc2 b h2 hf2 hbt hr2 H locs ls hP hD hS hl
            refine lv_iload hx hb dX6_togetherOf_18 (lv_at hl 0 rfl) ?_
            refine lv_bipush (v := iI (40)) hx hb dX6_togetherOf_20 (by decide) ?_
            refine lv_iload hx hb dX6_togetherOf_22 (lv_at hl 1 rfl) ?_
            refine z_imul hx hb dX6_togetherOf_24 ?_
            refine lv_aload_n hx hb dX6_togetherOf_25 rfl (lv_at hl 3 rfl) ?_
            refine va_get (D := D) (ci := 6) (v := .ref (q 7)) (C := RX6) (T := TX6) (N := 21) hx hb hts n_X6 hown hK hP 0 rfl rfl 10 (by decide) f_35 (fun _ h9 => h9) rfl dX6_togetherOf_26 ?_
            refine lv_iload hx hb dX6_togetherOf_29 (lv_at hl 1 rfl) ?_
            refine z_iald hx hb hK hP 7 0 rfl rfl (by omega) dX6_togetherOf_31 ?_
            have b_2 := I.ns p9
            refine z_iadd hx hb dX6_togetherOf_32 ?_
            refine z_icmp_ge (tgt := 159) hx hb dX6_togetherOf_33 (by decide) (by omega) (fun c_3 => ?_) (fun c_3 => ?_)
            · refine lv_iinc (v := iI (p9 + 1)) (lv' := [(4, .int (iI (p9 + 1))), (5, .int (iI b)), (3, .int (iI acc2)), (0, .ref (q 0)), (1, .int (iI f9)), (2, .int (iI t9))]) hx hb dX6_togetherOf_159 hl (k := 1) rfl (iI_add _ _) (by decide) rfl (fun ls hl => ?_)
              refine lv_goto (tgt := 5) hx hb dX6_togetherOf_162 (by decide) ?_
              exact ih_5 acc2 (p9 + 1) (by omega) (by omega) (by rw [sZ_step (by omega), ← hr]; (try dsimp only); rw [hr2]; rcases (show srZ bk p9 % 2 = 1 ∨ (srZ bk p9 % 2 ≠ 1 ∧ b = 40 * p9) by omega) with z | z; (rw [if_pos z, show b = 40 * p9 + ns p9 by omega]); (rw [if_neg z.1, z.2, sZ_nil (Int.le_refl _)])) _ _ _ hP hD hS (lv_sub hl [0, 2, 3, 4, 5] rfl)
            · refine lv_aload_n hx hb dX6_togetherOf_36 rfl (lv_at hl 3 rfl) ?_
              refine va_get (D := D) (ci := 6) (v := .int (iI bk)) (C := RX6) (T := TX6) (N := 21) hx hb hts n_X6 hown hK hP 0 rfl rfl 15 (by decide) f_167 (fun _ h9 => h9) rfl dX6_togetherOf_37 ?_
              refine lv_iload hx hb dX6_togetherOf_40 (lv_at hl 1 rfl) ?_
              refine z_ishr hx hb dX6_togetherOf_42 (by omega) ?_
              have b8 := srZ_b (a := bk) (b := p9) (by omega)
              refine lv_iconst (v := iI (1)) hx hb dX6_togetherOf_43 rfl ?_
              refine z_iand1 hx hb dX6_togetherOf_44 (by omega) ?_
              refine lv_iconst (v := iI (1)) hx hb dX6_togetherOf_45 rfl ?_
              refine z_icmp_ne (tgt := 159) hx hb dX6_togetherOf_46 (by decide) (by omega) (fun c_4 => ?_) (fun c_4 => ?_)
              · refine lv_iinc (v := iI (p9 + 1)) (lv' := [(4, .int (iI (p9 + 1))), (5, .int (iI b)), (3, .int (iI acc2)), (0, .ref (q 0)), (1, .int (iI f9)), (2, .int (iI t9))]) hx hb dX6_togetherOf_159 hl (k := 1) rfl (iI_add _ _) (by decide) rfl (fun ls hl => ?_)
                refine lv_goto (tgt := 5) hx hb dX6_togetherOf_162 (by decide) ?_
                exact ih_5 acc2 (p9 + 1) (by omega) (by omega) (by rw [sZ_step (by omega), ← hr]; (try dsimp only); rw [hr2]; rcases (show srZ bk p9 % 2 = 1 ∨ (srZ bk p9 % 2 ≠ 1 ∧ b = 40 * p9) by omega) with z | z; (rw [if_pos z, show b = 40 * p9 + ns p9 by omega]); (rw [if_neg z.1, z.2, sZ_nil (Int.le_refl _)])) _ _ _ hP hD hS (lv_sub hl [0, 2, 3, 4, 5] rfl)
              · refine lv_bipush (v := iI (40)) hx hb dX6_togetherOf_49 (by decide) ?_
                refine lv_iload hx hb dX6_togetherOf_51 (lv_at hl 1 rfl) ?_
                refine z_imul hx hb dX6_togetherOf_53 ?_
                refine lv_istore (lv' := [(6, .int (iI (40 * p9))), (5, .int (iI b)), (4, .int (iI p9)), (3, .int (iI acc2)), (0, .ref (q 0)), (1, .int (iI f9)), (2, .int (iI t9))]) hx hb dX6_togetherOf_54 hl (by decide) rfl (fun ls hl => ?_)
                have L_56 : ∀ (n : Nat) (acc3 : Int) (a : Int), (h3 : 40 * p9 ≤ a ∧ a ≤ b) → (hf3 : b - a < n) → (hr3 : acc3 = acc2 + sZ (fun a => bP (tgP ka bg ln f9 t9 a b)) (40 * p9) a) → ∀ (H : Heap) (locs : List Loc) (ls : Array Slot), va_P D vwCl (wM q cy nK st le be te ab bl ka bg ln ns me sc pi re bk th co bs gr lo) H → va_D A (wM q cy nK st le be te ab bl ka bg ln ns me sc pi re bk th co bs gr lo) → va_S A s.heap H locs → lv_has ls 8 [(6, .int (iI a)), (5, .int (iI b)), (4, .int (iI p9)), (3, .int (iI acc3)), (0, .ref (q 0)), (1, .int (iI f9)), (2, .int (iI t9))] → W p l e ({ frames := 1, cells := 0, slots := 0, locals := 25 } : Room) s m [.ref (q 0), .int (iI f9), .int (iI t9)].toArray below meth c H locs 0 0 (MQ below (zQi D cy (wM q cy nK st le be te ab bl ka bg ln ns me sc pi re bk th co bs gr lo) A ((tog ka bg ln ns bk) f9 t9)) [.ref (q 0), .int (iI f9), .int (iI t9)].toArray s 0 0 A) (F0 m 56 ls []) := by
                  intro n
                  induction n with
                  | zero =>
                    intro acc3 a h3 hf3 hr3
                    exfalso; omega
                  | succ n ih_56 =>
                    intro acc3 a h3 hf3 hr3 H locs ls hP hD hS hl
                    refine lv_iload hx hb dX6_togetherOf_56 (lv_at hl 0 rfl) ?_
                    refine lv_iload hx hb dX6_togetherOf_58 (lv_at hl 1 rfl) ?_
                    refine z_icmp_ge (tgt := 153) hx hb dX6_togetherOf_60 (by decide) (by omega) (fun c_5 => ?_) (fun c_5 => ?_)
                    · refine lv_iinc (v := iI (b + 1)) (lv' := [(5, .int (iI (b + 1))), (6, .int (iI a)), (4, .int (iI p9)), (3, .int (iI acc3)), (0, .ref (q 0)), (1, .int (iI f9)), (2, .int (iI t9))]) hx hb dX6_togetherOf_153 hl (k := 1) rfl (iI_add _ _) (by decide) rfl (fun ls hl => ?_)
                      refine lv_goto (tgt := 18) hx hb dX6_togetherOf_156 (by decide) ?_
                      exact ih_18 acc3 (b + 1) (by omega) (by omega) (Or.inl (by assumption)) (by rw [sZ_step (by omega), hr3, hr2, show a = b by omega, Int.add_assoc]) _ _ _ hP hD hS (lv_sub hl [0, 2, 3, 4, 5, 6] rfl)
                    · refine lv_aload_n hx hb dX6_togetherOf_63 rfl (lv_at hl 4 rfl) ?_
                      refine va_get (D := D) (ci := 6) (v := .ref (q 8)) (C := RX6) (T := TX6) (N := 21) hx hb hts n_X6 hown hK hP 0 rfl rfl 11 (by decide) f_38 (fun _ h9 => h9) rfl dX6_togetherOf_64 ?_
                      refine lv_iload hx hb dX6_togetherOf_67 (lv_at hl 0 rfl) ?_
                      refine z_iald hx hb hK hP 8 0 rfl rfl (by omega) dX6_togetherOf_69 ?_
                      have b_6 := I.ka a
                      refine z_i2l hx hb dX6_togetherOf_70 (by omega) ?_
                      refine lv_iload_n hx hb dX6_togetherOf_71 rfl (lv_at hl 5 rfl) ?_
                      refine z_i2l hx hb dX6_togetherOf_72 (by omega) ?_
                      refine lv_iload_n hx hb dX6_togetherOf_73 rfl (lv_at hl 6 rfl) ?_
                      refine z_i2l hx hb dX6_togetherOf_74 (by omega) ?_
                      refine z_callSi (As := [.long (lI (ka a)), .long (lI f9), .long (lI t9)]) (rest := []) X hK hP hD hA hS hl.1 gX6_togetherOf_X6_in rfl ⟨rfl, rfl⟩ hd_X6_in ⟨Nat.le_of_ble_eq_true rfl, Nat.le_of_ble_eq_true rfl⟩ rfl (Nat.le_of_ble_eq_true rfl) ⟨Nat.zero_le _, Nat.zero_le _⟩ rfl dX6_togetherOf_75 (c_X6_in (ka a) f9 t9 (by omega)) (fun H locs hP hD hS => ?_)
                      refine z_ifp_eq (tgt := 120) hx hb dX6_togetherOf_78 (by decide) (fun c_7 => ?_) (fun c_7 => ?_)
                      · refine lv_iconst (v := iI (0)) hx hb dX6_togetherOf_120 rfl ?_
                        refine lv_istore (lv' := [(7, .int (iI 0)), (6, .int (iI a)), (5, .int (iI b)), (4, .int (iI p9)), (3, .int (iI acc3)), (0, .ref (q 0)), (1, .int (iI f9)), (2, .int (iI t9))]) hx hb dX6_togetherOf_121 hl (by decide) rfl (fun ls hl => ?_)
                        refine lv_iload_n hx hb dX6_togetherOf_123 rfl (lv_at hl 4 rfl) ?_
                        refine lv_iload hx hb dX6_togetherOf_124 (lv_at hl 0 rfl) ?_
                        refine z_if_eq (tgt := 144) hx hb dX6_togetherOf_126 (by decide) (by omega) (fun c_8 => ?_) (fun c_8 => ?_)
                        · refine lv_iconst (v := iI (0)) hx hb dX6_togetherOf_144 rfl ?_
                          refine z_iadd hx hb dX6_togetherOf_145 ?_
                          refine lv_istore_n (lv' := [(3, .int (iI (acc3 + 0))), (7, .int (iI 0)), (6, .int (iI a)), (5, .int (iI b)), (4, .int (iI p9)), (0, .ref (q 0)), (1, .int (iI f9)), (2, .int (iI t9))]) hx hb dX6_togetherOf_146 rfl hl (by decide) rfl (fun ls hl => ?_)
                          refine lv_iinc (v := iI (a + 1)) (lv' := [(6, .int (iI (a + 1))), (3, .int (iI (acc3 + 0))), (7, .int (iI 0)), (5, .int (iI b)), (4, .int (iI p9)), (0, .ref (q 0)), (1, .int (iI f9)), (2, .int (iI t9))]) hx hb dX6_togetherOf_147 hl (k := 2) rfl (iI_add _ _) (by decide) rfl (fun ls hl => ?_)
                          refine lv_goto (tgt := 56) hx hb dX6_togetherOf_150 (by decide) ?_
                          exact ih_56 (acc3 + 0) (a + 1) (by omega) (by omega) (by rw [sZ_step (by omega)]; (try dsimp only); first | (rw [bP_1 ⟨by assumption, by assumption, by assumption, by assumption⟩]; omega) | (rw [bP_0 (fun z => absurd z.1 (by assumption))]; omega) | (rw [bP_0 (fun z => absurd z.2.1 (by assumption))]; omega) | (rw [bP_0 (fun z => absurd (by assumption) z.2.2.1)]; omega) | (rw [bP_0 (fun z => absurd z.2.2.2 (by assumption))]; omega)) _ _ _ hP hD hS (lv_sub hl [0, 3, 4, 1, 5, 6, 7] rfl)
                        · exact absurd c_8 (by decide)
                      · refine lv_aload_n hx hb dX6_togetherOf_81 rfl (lv_at hl 4 rfl) ?_
                        refine va_get (D := D) (ci := 6) (v := .ref (q 8)) (C := RX6) (T := TX6) (N := 21) hx hb hts n_X6 hown hK hP 0 rfl rfl 11 (by decide) f_38 (fun _ h9 => h9) rfl dX6_togetherOf_82 ?_
                        refine lv_iload hx hb dX6_togetherOf_85 (lv_at hl 1 rfl) ?_
                        refine z_iald hx hb hK hP 8 0 rfl rfl (by omega) dX6_togetherOf_87 ?_
                        have b_9 := I.ka b
                        refine z_i2l hx hb dX6_togetherOf_88 (by omega) ?_
                        refine lv_iload_n hx hb dX6_togetherOf_89 rfl (lv_at hl 5 rfl) ?_
                        refine z_i2l hx hb dX6_togetherOf_90 (by omega) ?_
                        refine lv_iload_n hx hb dX6_togetherOf_91 rfl (lv_at hl 6 rfl) ?_
                        refine z_i2l hx hb dX6_togetherOf_92 (by omega) ?_
                        refine z_callSi (As := [.long (lI (ka b)), .long (lI f9), .long (lI t9)]) (rest := []) X hK hP hD hA hS hl.1 gX6_togetherOf_X6_in rfl ⟨rfl, rfl⟩ hd_X6_in ⟨Nat.le_of_ble_eq_true rfl, Nat.le_of_ble_eq_true rfl⟩ rfl (Nat.le_of_ble_eq_true rfl) ⟨Nat.zero_le _, Nat.zero_le _⟩ rfl dX6_togetherOf_93 (c_X6_in (ka b) f9 t9 (by omega)) (fun H locs hP hD hS => ?_)
                        refine z_ifp_eq (tgt := 120) hx hb dX6_togetherOf_96 (by decide) (fun c_10 => ?_) (fun c_10 => ?_)
                        · refine lv_iconst (v := iI (0)) hx hb dX6_togetherOf_120 rfl ?_
                          refine lv_istore (lv' := [(7, .int (iI 0)), (6, .int (iI a)), (5, .int (iI b)), (4, .int (iI p9)), (3, .int (iI acc3)), (0, .ref (q 0)), (1, .int (iI f9)), (2, .int (iI t9))]) hx hb dX6_togetherOf_121 hl (by decide) rfl (fun ls hl => ?_)
                          refine lv_iload_n hx hb dX6_togetherOf_123 rfl (lv_at hl 4 rfl) ?_
                          refine lv_iload hx hb dX6_togetherOf_124 (lv_at hl 0 rfl) ?_
                          refine z_if_eq (tgt := 144) hx hb dX6_togetherOf_126 (by decide) (by omega) (fun c_11 => ?_) (fun c_11 => ?_)
                          · refine lv_iconst (v := iI (0)) hx hb dX6_togetherOf_144 rfl ?_
                            refine z_iadd hx hb dX6_togetherOf_145 ?_
                            refine lv_istore_n (lv' := [(3, .int (iI (acc3 + 0))), (7, .int (iI 0)), (6, .int (iI a)), (5, .int (iI b)), (4, .int (iI p9)), (0, .ref (q 0)), (1, .int (iI f9)), (2, .int (iI t9))]) hx hb dX6_togetherOf_146 rfl hl (by decide) rfl (fun ls hl => ?_)
                            refine lv_iinc (v := iI (a + 1)) (lv' := [(6, .int (iI (a + 1))), (3, .int (iI (acc3 + 0))), (7, .int (iI 0)), (5, .int (iI b)), (4, .int (iI p9)), (0, .ref (q 0)), (1, .int (iI f9)), (2, .int (iI t9))]) hx hb dX6_togetherOf_147 hl (k := 2) rfl (iI_add _ _) (by decide) rfl (fun ls hl => ?_)
                            refine lv_goto (tgt := 56) hx hb dX6_togetherOf_150 (by decide) ?_
                            exact ih_56 (acc3 + 0) (a + 1) (by omega) (by omega) (by rw [sZ_step (by omega)]; (try dsimp only); first | (rw [bP_1 ⟨by assumption, by assumption, by assumption, by assumption⟩]; omega) | (rw [bP_0 (fun z => absurd z.1 (by assumption))]; omega) | (rw [bP_0 (fun z => absurd z.2.1 (by assumption))]; omega) | (rw [bP_0 (fun z => absurd (by assumption) z.2.2.1)]; omega) | (rw [bP_0 (fun z => absurd z.2.2.2 (by assumption))]; omega)) _ _ _ hP hD hS (lv_sub hl [0, 3, 4, 1, 5, 6, 7] rfl)
                          · exact absurd c_11 (by decide)
                        · refine lv_aload_n hx hb dX6_togetherOf_99 rfl (lv_at hl 4 rfl) ?_
                          refine va_get (D := D) (ci := 6) (v := .ref (q 8)) (C := RX6) (T := TX6) (N := 21) hx hb hts n_X6 hown hK hP 0 rfl rfl 11 (by decide) f_38 (fun _ h9 => h9) rfl dX6_togetherOf_100 ?_
                          refine lv_iload hx hb dX6_togetherOf_103 (lv_at hl 0 rfl) ?_
                          refine z_iald hx hb hK hP 8 0 rfl rfl (by omega) dX6_togetherOf_105 ?_
                          have b_12 := I.ka a
                          refine lv_aload_n hx hb dX6_togetherOf_106 rfl (lv_at hl 4 rfl) ?_
                          refine va_get (D := D) (ci := 6) (v := .ref (q 8)) (C := RX6) (T := TX6) (N := 21) hx hb hts n_X6 hown hK hP 0 rfl rfl 11 (by decide) f_38 (fun _ h9 => h9) rfl dX6_togetherOf_107 ?_
                          refine lv_iload hx hb dX6_togetherOf_110 (lv_at hl 1 rfl) ?_
                          refine z_iald hx hb hK hP 8 0 rfl rfl (by omega) dX6_togetherOf_112 ?_
                          have b_13 := I.ka b
                          refine z_icmp_eq (tgt := 120) hx hb dX6_togetherOf_113 (by decide) (by omega) (fun c_14 => ?_) (fun c_14 => ?_)
                          · refine lv_iconst (v := iI (0)) hx hb dX6_togetherOf_120 rfl ?_
                            refine lv_istore (lv' := [(7, .int (iI 0)), (6, .int (iI a)), (5, .int (iI b)), (4, .int (iI p9)), (3, .int (iI acc3)), (0, .ref (q 0)), (1, .int (iI f9)), (2, .int (iI t9))]) hx hb dX6_togetherOf_121 hl (by decide) rfl (fun ls hl => ?_)
                            refine lv_iload_n hx hb dX6_togetherOf_123 rfl (lv_at hl 4 rfl) ?_
                            refine lv_iload hx hb dX6_togetherOf_124 (lv_at hl 0 rfl) ?_
                            refine z_if_eq (tgt := 144) hx hb dX6_togetherOf_126 (by decide) (by omega) (fun c_15 => ?_) (fun c_15 => ?_)
                            · refine lv_iconst (v := iI (0)) hx hb dX6_togetherOf_144 rfl ?_
                              refine z_iadd hx hb dX6_togetherOf_145 ?_
                              refine lv_istore_n (lv' := [(3, .int (iI (acc3 + 0))), (7, .int (iI 0)), (6, .int (iI a)), (5, .int (iI b)), (4, .int (iI p9)), (0, .ref (q 0)), (1, .int (iI f9)), (2, .int (iI t9))]) hx hb dX6_togetherOf_146 rfl hl (by decide) rfl (fun ls hl => ?_)
                              refine lv_iinc (v := iI (a + 1)) (lv' := [(6, .int (iI (a + 1))), (3, .int (iI (acc3 + 0))), (7, .int (iI 0)), (5, .int (iI b)), (4, .int (iI p9)), (0, .ref (q 0)), (1, .int (iI f9)), (2, .int (iI t9))]) hx hb dX6_togetherOf_147 hl (k := 2) rfl (iI_add _ _) (by decide) rfl (fun ls hl => ?_)
                              refine lv_goto (tgt := 56) hx hb dX6_togetherOf_150 (by decide) ?_
                              exact ih_56 (acc3 + 0) (a + 1) (by omega) (by omega) (by rw [sZ_step (by omega)]; (try dsimp only); first | (rw [bP_1 ⟨by assumption, by assumption, by assumption, by assumption⟩]; omega) | (rw [bP_0 (fun z => absurd z.1 (by assumption))]; omega) | (rw [bP_0 (fun z => absurd z.2.1 (by assumption))]; omega) | (rw [bP_0 (fun z => absurd (by assumption) z.2.2.1)]; omega) | (rw [bP_0 (fun z => absurd z.2.2.2 (by assumption))]; omega)) _ _ _ hP hD hS (lv_sub hl [0, 3, 4, 1, 5, 6, 7] rfl)
                            · exact absurd c_15 (by decide)
                          · refine lv_iconst (v := iI (1)) hx hb dX6_togetherOf_116 rfl ?_
                            refine lv_goto (tgt := 121) hx hb dX6_togetherOf_117 (by decide) ?_
                            refine lv_istore (lv' := [(7, .int (iI 1)), (6, .int (iI a)), (5, .int (iI b)), (4, .int (iI p9)), (3, .int (iI acc3)), (0, .ref (q 0)), (1, .int (iI f9)), (2, .int (iI t9))]) hx hb dX6_togetherOf_121 hl (by decide) rfl (fun ls hl => ?_)
                            refine lv_iload_n hx hb dX6_togetherOf_123 rfl (lv_at hl 4 rfl) ?_
                            refine lv_iload hx hb dX6_togetherOf_124 (lv_at hl 0 rfl) ?_
                            refine z_if_eq (tgt := 144) hx hb dX6_togetherOf_126 (by decide) (by omega) (fun c_16 => ?_) (fun c_16 => ?_)
                            · exact absurd c_16 (by decide)
                            · refine lv_aload_n hx hb dX6_togetherOf_129 rfl (lv_at hl 5 rfl) ?_
                              refine lv_iload hx hb dX6_togetherOf_130 (lv_at hl 1 rfl) ?_
                              refine lv_iload hx hb dX6_togetherOf_132 (lv_at hl 2 rfl) ?_
                              refine z_callVi (ci := 6) (q0 := 0) (As := [.int (iI a), .int (iI b)]) (rest := [.int (iI acc3)]) X hK hP hD hA hS hl.1 gX6_togetherOf_X6_meet rfl ⟨rfl, rfl⟩ hd_X6_meet ⟨Nat.le_of_ble_eq_true rfl, Nat.le_of_ble_eq_true rfl⟩ rfl rfl rfl (Nat.le_of_ble_eq_true rfl) ⟨Nat.zero_le _, Nat.zero_le _⟩ rfl dX6_togetherOf_134 (c_X6_meet I a b (by omega) (by omega)) (fun H locs hP hD hS => ?_)
                              refine z_ifp_eq (tgt := 144) hx hb dX6_togetherOf_137 (by decide) (fun c_17 => ?_) (fun c_17 => ?_)
                              · refine lv_iconst (v := iI (0)) hx hb dX6_togetherOf_144 rfl ?_
                                refine z_iadd hx hb dX6_togetherOf_145 ?_
                                refine lv_istore_n (lv' := [(3, .int (iI (acc3 + 0))), (7, .int (iI 1)), (6, .int (iI a)), (5, .int (iI b)), (4, .int (iI p9)), (0, .ref (q 0)), (1, .int (iI f9)), (2, .int (iI t9))]) hx hb dX6_togetherOf_146 rfl hl (by decide) rfl (fun ls hl => ?_)
                                refine lv_iinc (v := iI (a + 1)) (lv' := [(6, .int (iI (a + 1))), (3, .int (iI (acc3 + 0))), (7, .int (iI 1)), (5, .int (iI b)), (4, .int (iI p9)), (0, .ref (q 0)), (1, .int (iI f9)), (2, .int (iI t9))]) hx hb dX6_togetherOf_147 hl (k := 2) rfl (iI_add _ _) (by decide) rfl (fun ls hl => ?_)
                                refine lv_goto (tgt := 56) hx hb dX6_togetherOf_150 (by decide) ?_
                                exact ih_56 (acc3 + 0) (a + 1) (by omega) (by omega) (by rw [sZ_step (by omega)]; (try dsimp only); first | (rw [bP_1 ⟨by assumption, by assumption, by assumption, by assumption⟩]; omega) | (rw [bP_0 (fun z => absurd z.1 (by assumption))]; omega) | (rw [bP_0 (fun z => absurd z.2.1 (by assumption))]; omega) | (rw [bP_0 (fun z => absurd (by assumption) z.2.2.1)]; omega) | (rw [bP_0 (fun z => absurd z.2.2.2 (by assumption))]; omega)) _ _ _ hP hD hS (lv_sub hl [0, 3, 4, 1, 5, 6, 7] rfl)
                              · refine lv_iconst (v := iI (1)) hx hb dX6_togetherOf_140 rfl ?_
                                refine lv_goto (tgt := 145) hx hb dX6_togetherOf_141 (by decide) ?_
                                refine z_iadd hx hb dX6_togetherOf_145 ?_
                                refine lv_istore_n (lv' := [(3, .int (iI (acc3 + 1))), (7, .int (iI 1)), (6, .int (iI a)), (5, .int (iI b)), (4, .int (iI p9)), (0, .ref (q 0)), (1, .int (iI f9)), (2, .int (iI t9))]) hx hb dX6_togetherOf_146 rfl hl (by decide) rfl (fun ls hl => ?_)
                                refine lv_iinc (v := iI (a + 1)) (lv' := [(6, .int (iI (a + 1))), (3, .int (iI (acc3 + 1))), (7, .int (iI 1)), (5, .int (iI b)), (4, .int (iI p9)), (0, .ref (q 0)), (1, .int (iI f9)), (2, .int (iI t9))]) hx hb dX6_togetherOf_147 hl (k := 2) rfl (iI_add _ _) (by decide) rfl (fun ls hl => ?_)
                                refine lv_goto (tgt := 56) hx hb dX6_togetherOf_150 (by decide) ?_
                                exact ih_56 (acc3 + 1) (a + 1) (by omega) (by omega) (by rw [sZ_step (by omega)]; (try dsimp only); first | (rw [bP_1 ⟨by assumption, by assumption, by assumption, by assumption⟩]; omega) | (rw [bP_0 (fun z => absurd z.1 (by assumption))]; omega) | (rw [bP_0 (fun z => absurd z.2.1 (by assumption))]; omega) | (rw [bP_0 (fun z => absurd (by assumption) z.2.2.1)]; omega) | (rw [bP_0 (fun z => absurd z.2.2.2 (by assumption))]; omega)) _ _ _ hP hD hS (lv_sub hl [0, 3, 4, 1, 5, 6, 7] rfl)
                exact L_56 41 acc2 (40 * p9) (by omega) (by omega) (by rw [sZ_nil (Int.le_refl _), Int.add_zero]) _ _ _ hP hD hS (lv_sub hl [0, 1, 2, 3, 4, 5, 6] rfl)
        exact L_18 41 acc (40 * p9) (by omega) (by omega) (Or.inr rfl) (by rw [sZ_nil (Int.le_refl _), Int.add_zero]) _ _ _ hP hD hS (lv_sub hl [0, 1, 2, 3, 4, 5] rfl)
  exact L_5 5 0 0 (by omega) (by omega) ((sZ_nil (by omega)).symm) _ _ _ hP hD hS (lv_sub hl [0, 1, 2, 3, 4] rfl)

theorem hd_X6_together : yX6_together.cls = RX6 ∧ yX6_together.cls ≠ "java/lang/invoke/MethodHandle" ∧ yX6_together.cls ≠ "java/lang/invoke/VarHandle" ∧ (parseMethodDescriptor yX6_together.desc).map (fun d => d.parameters.length) = some 2 := by decide +kernel
set_option maxHeartbeats 4000000 in
set_option maxRecDepth 100000 in
theorem c_X6_together (I : okS nK st le be te ab bl ka bg ln ns me sc pi re bk) (a : Int) (b : Int) (h : -2147483648 ≤ a ∧ a ≤ 2147483647 ∧ -2147483648 ≤ b ∧ b ≤ 2147483647) : MI l D cy yX6_together wsX6_together ({ frames := 2, cells := 0, slots := 0, locals := 52 } : Room) [.ref (q 0), .int (iI a), .int (iI b)] (wM q cy nK st le be te ab bl ka bg ln ns me sc pi re bk th co bs gr lo) (if (0 ≤ a ∧ a < nK) ∧ (0 ≤ b ∧ b < nK) then (if b < a then (-100002) else (tog ka bg ln ns bk) a b) else (-100001)) (wM q cy nK st le be te ab bl ka bg ln ns me sc pi re bk 0 co bs gr lo) := by
  refine MI.ofW (cc := cX6_together) (maxL := 3) (ret := (some .int)) (by decide) rfl (Nat.le_of_ble_eq_true rfl) ?_
  intro p e s m below meth c A ls X hK hP hD hA hS hl
  obtain ⟨hx, hb, hml, hr, hts, hown, hlocks⟩ := id X
  have hl : lv_has ls 3 [(0, .ref (q 0)), (1, .int (iI a)), (2, .int (iI b))] := hl
  have f_63 := hts (Cond.fieldLink RX6 63 "TwoKeysModel" "thrown" "I") (by decide +kernel)
  have k_86 := hts (Cond.constant RX6 86 (-100001)) (by decide +kernel)
  have k_78 := hts (Cond.constant RX6 78 (-100002)) (by decide +kernel)
  have n_X6 : ∀ w ∈ u_ws RX6 TX6 21, w ∈ wsX6_together := by decide +kernel
  have iK := I.nK
  refine lv_aload_n hx hb dX6_together_0 rfl (lv_at hl 0 rfl) ?_
  refine lv_iconst (v := iI (0)) hx hb dX6_together_1 rfl ?_
  refine va_put (D := D) (ci := 6) (v := .int (iI 0)) (ty := .int) (C := RX6) (T := TX6) (N := 21) hx hb hts n_X6 tyX6 tyX6_ok nmX6 hown hK hP hD hS 0 rfl rfl 0 (by decide) f_63 (fun _ h9 => h9) rfl (by decide +kernel) rfl rfl (Nat.le_of_ble_eq_true rfl) dX6_together_2 (fun H locs hP hD hS => ?_)
  have hP : va_P D vwCl (wM q cy nK st le be te ab bl ka bg ln ns me sc pi re bk 0 co bs gr lo) H := hP
  have hD : va_D A (wM q cy nK st le be te ab bl ka bg ln ns me sc pi re bk 0 co bs gr lo) := hD
  refine lv_aload_n hx hb dX6_together_5 rfl (lv_at hl 0 rfl) ?_
  refine lv_iload_n hx hb dX6_together_6 rfl (lv_at hl 1 rfl) ?_
  refine z_callVi (ci := 6) (q0 := 0) (As := [.int (iI a)]) (rest := []) X hK hP hD hA hS hl.1 gX6_together_X6_noKey rfl ⟨rfl, rfl⟩ hd_X6_noKey ⟨Nat.le_of_ble_eq_true rfl, Nat.le_of_ble_eq_true rfl⟩ rfl rfl rfl (Nat.le_of_ble_eq_true rfl) ⟨Nat.zero_le _, Nat.zero_le _⟩ rfl dX6_together_7 (c_X6_noKey I a (by omega)) (fun H locs hP hD hS => ?_)
  refine z_ifp_ne (tgt := 21) hx hb dX6_together_10 (by decide) (fun c_1 => ?_) (fun c_1 => ?_)
  · refine z_ldc (n := -100001) hx hb hown k_86 (by decide) dX6_together_21 ?_
    exact z_iret X hK hP hD hS dX6_together_23 (by (repeat' split) <;> first | rfl | omega)
  · refine lv_aload_n hx hb dX6_together_13 rfl (lv_at hl 0 rfl) ?_
    refine lv_iload_n hx hb dX6_together_14 rfl (lv_at hl 2 rfl) ?_
    refine z_callVi (ci := 6) (q0 := 0) (As := [.int (iI b)]) (rest := []) X hK hP hD hA hS hl.1 gX6_together_X6_noKey rfl ⟨rfl, rfl⟩ hd_X6_noKey ⟨Nat.le_of_ble_eq_true rfl, Nat.le_of_ble_eq_true rfl⟩ rfl rfl rfl (Nat.le_of_ble_eq_true rfl) ⟨Nat.zero_le _, Nat.zero_le _⟩ rfl dX6_together_15 (c_X6_noKey I b (by omega)) (fun H locs hP hD hS => ?_)
    refine z_ifp_eq (tgt := 24) hx hb dX6_together_18 (by decide) (fun c_2 => ?_) (fun c_2 => ?_)
    · refine lv_iload_n hx hb dX6_together_24 rfl (lv_at hl 2 rfl) ?_
      refine lv_iload_n hx hb dX6_together_25 rfl (lv_at hl 1 rfl) ?_
      refine z_icmp_ge (tgt := 34) hx hb dX6_together_26 (by decide) (by omega) (fun c_3 => ?_) (fun c_3 => ?_)
      · refine lv_aload_n hx hb dX6_together_34 rfl (lv_at hl 0 rfl) ?_
        refine lv_iload_n hx hb dX6_together_35 rfl (lv_at hl 1 rfl) ?_
        refine lv_iload_n hx hb dX6_together_36 rfl (lv_at hl 2 rfl) ?_
        refine z_callVi (ci := 6) (q0 := 0) (As := [.int (iI a), .int (iI b)]) (rest := []) X hK hP hD hA hS hl.1 gX6_together_X6_togetherOf rfl ⟨rfl, rfl⟩ hd_X6_togetherOf ⟨Nat.le_of_ble_eq_true rfl, Nat.le_of_ble_eq_true rfl⟩ rfl rfl rfl (Nat.le_of_ble_eq_true rfl) ⟨Nat.zero_le _, Nat.zero_le _⟩ rfl dX6_together_37 (c_X6_togetherOf I a b (by omega)) (fun H locs hP hD hS => ?_)
        exact z_iret X hK hP hD hS dX6_together_40 (by (repeat' split) <;> first | rfl | omega)
      · refine z_ldc (n := -100002) hx hb hown k_78 (by decide) dX6_together_29 ?_
        refine lv_goto (tgt := 40) hx hb dX6_together_31 (by decide) ?_
        exact z_iret X hK hP hD hS dX6_together_40 (by (repeat' split) <;> first | rfl | omega)
    · refine z_ldc (n := -100001) hx hb hown k_86 (by decide) dX6_together_21 ?_
      exact z_iret X hK hP hD hS dX6_together_23 (by (repeat' split) <;> first | rfl | omega)

theorem hd_X6_look : yX6_look.cls = RX6 ∧ yX6_look.cls ≠ "java/lang/invoke/MethodHandle" ∧ yX6_look.cls ≠ "java/lang/invoke/VarHandle" ∧ (parseMethodDescriptor yX6_look.desc).map (fun d => d.parameters.length) = some 2 := by decide +kernel
set_option maxHeartbeats 4000000 in
set_option maxRecDepth 100000 in
theorem c_X6_look (I : okS nK st le be te ab bl ka bg ln ns me sc pi re bk) (m9 : Int) (wo : Bool) (h : 1 ≤ m9 ∧ m9 ≤ 6) : MW l D cy yX6_look wsX6_look ({ frames := 2, cells := 0, slots := 0, locals := 52 } : Room) [.ref (q 0), .int (iI m9), .int (iI (bZ wo))] (wM q cy nK st le be te ab bl ka bg ln ns me sc pi re bk th co bs gr lo) (fun w8 => ∃ co2 : Int → Int, ∃ bs2 : Int → Int, w8 = wM q cy nK st le be te ab bl ka bg ln ns me sc pi re bk th co2 bs2 gr lo ∧ ((∀ a b, 0 ≤ a → a ≤ b → b < nK → b < a + m9 → co2 (24 * a + b) = (cw wo (tog ka bg ln ns bk)) a b) ∧ (∀ a c, 0 ≤ a → a ≤ nK → 0 ≤ c → c ≤ 24 → bs2 (25 * a + c) = dp (cw wo (tog ka bg ln ns bk)) nK m9 c a))) := by
  refine MW.ofW (cc := cX6_look) (maxL := 8) (ret := none) (by decide) rfl (Nat.le_of_ble_eq_true rfl) ?_
  intro p e s m below meth c A ls X hK hP hD hA hS hl
  obtain ⟨hx, hb, hml, hr, hts, hown, hlocks⟩ := id X
  have hl : lv_has ls 8 [(0, .ref (q 0)), (1, .int (iI m9)), (2, .int (iI (bZ wo)))] := hl
  have f_7 := hts (Cond.fieldLink RX6 7 "TwoKeysModel" "keys" "I") (by decide +kernel)
  have k_174 := hts (Cond.constant RX6 174 (1000000)) (by decide +kernel)
  have f_56 := hts (Cond.fieldLink RX6 56 "TwoKeysModel" "best" "[I") (by decide +kernel)
  have f_53 := hts (Cond.fieldLink RX6 53 "TwoKeysModel" "cost" "[I") (by decide +kernel)
  have n_X6 : ∀ w ∈ u_ws RX6 TX6 21, w ∈ wsX6_look := by decide +kernel
  have iK := I.nK
  have tb9 : ∀ x y, 0 ≤ (tog ka bg ln ns bk) x y ∧ (tog ka bg ln ns bk) x y ≤ 6400 := fun x y => tog_b I.ns
  have cb : ∀ x y, 0 ≤ (cw wo (tog ka bg ln ns bk)) x y ∧ (cw wo (tog ka bg ln ns bk)) x y ≤ 1000000 := cw_b tb9
  have db : ∀ t a, 0 ≤ dp (cw wo (tog ka bg ln ns bk)) nK m9 t a ∧ dp (cw wo (tog ka bg ln ns bk)) nK m9 t a ≤ 1000000 := fun t a => dp_b (fun x y => (cb x y).1)
  refine lv_iconst (v := iI (0)) hx hb dX6_look_0 rfl ?_
  refine lv_istore_n (lv' := [(3, .int (iI 0)), (0, .ref (q 0)), (1, .int (iI m9)), (2, .int (iI (bZ wo)))]) hx hb dX6_look_1 rfl hl (by decide) rfl (fun ls hl => ?_)
  have L_2 : ∀ (n : Nat) (a : Int) (co1 : Int → Int), (h0 : 0 ≤ a ∧ a ≤ nK) → (hf : nK - a < n) → (hr : ∀ x y, 0 ≤ x → x < a → x ≤ y → y < nK → y < x + m9 → co1 (24 * x + y) = (cw wo (tog ka bg ln ns bk)) x y) → ∀ (H : Heap) (locs : List Loc) (ls : Array Slot), va_P D vwCl (wM q cy nK st le be te ab bl ka bg ln ns me sc pi re bk th co1 bs gr lo) H → va_D A (wM q cy nK st le be te ab bl ka bg ln ns me sc pi re bk th co1 bs gr lo) → va_S A s.heap H locs → lv_has ls 8 [(3, .int (iI a)), (0, .ref (q 0)), (1, .int (iI m9)), (2, .int (iI (bZ wo)))] → W p l e ({ frames := 2, cells := 0, slots := 0, locals := 52 } : Room) s m [.ref (q 0), .int (iI m9), .int (iI (bZ wo))].toArray below meth c H locs 0 0 (MQ below (zQw D cy A (fun w8 => ∃ co2 : Int → Int, ∃ bs2 : Int → Int, w8 = wM q cy nK st le be te ab bl ka bg ln ns me sc pi re bk th co2 bs2 gr lo ∧ ((∀ a b, 0 ≤ a → a ≤ b → b < nK → b < a + m9 → co2 (24 * a + b) = (cw wo (tog ka bg ln ns bk)) a b) ∧ (∀ a c, 0 ≤ a → a ≤ nK → 0 ≤ c → c ≤ 24 → bs2 (25 * a + c) = dp (cw wo (tog ka bg ln ns bk)) nK m9 c a)))) [.ref (q 0), .int (iI m9), .int (iI (bZ wo))].toArray s 0 0 A) (F0 m 2 ls []) := by
    intro n
    induction n with
    | zero =>
      intro a co1 h0 hf hr
      exfalso; omega
    | succ n ih_2 =>
      intro a co1 h0 hf hr H locs ls hP hD hS hl
      refine lv_iload_n hx hb dX6_look_2 rfl (lv_at hl 0 rfl) ?_
      refine lv_aload_n hx hb dX6_look_3 rfl (lv_at hl 1 rfl) ?_
      refine va_get (D := D) (ci := 6) (v := .int (iI nK)) (C := RX6) (T := TX6) (N := 21) hx hb hts n_X6 hown hK hP 0 rfl rfl 1 (by decide) f_7 (fun _ h9 => h9) rfl dX6_look_4 ?_
      refine z_icmp_ge (tgt := 79) hx hb dX6_look_7 (by decide) (by omega) (fun c_1 => ?_) (fun c_1 => ?_)
      · refine lv_aload_n hx hb dX6_look_79 rfl (lv_at hl 1 rfl) ?_
        refine va_get (D := D) (ci := 6) (v := .int (iI nK)) (C := RX6) (T := TX6) (N := 21) hx hb hts n_X6 hown hK hP 0 rfl rfl 1 (by decide) f_7 (fun _ h9 => h9) rfl dX6_look_80 ?_
        refine lv_istore_n (lv' := [(3, .int (iI nK)), (0, .ref (q 0)), (1, .int (iI m9)), (2, .int (iI (bZ wo)))]) hx hb dX6_look_83 rfl hl (by decide) rfl (fun ls hl => ?_)
        have L_84 : ∀ (n : Nat) (i : Int) (bs1 : Int → Int), (h4 : -1 ≤ i ∧ i ≤ nK) → (hf4 : i + 1 < n) → (hq : ∀ x c, i < x → x ≤ nK → 0 ≤ c → c ≤ 24 → bs1 (25 * x + c) = dp (cw wo (tog ka bg ln ns bk)) nK m9 c x) → ∀ (H : Heap) (locs : List Loc) (ls : Array Slot), va_P D vwCl (wM q cy nK st le be te ab bl ka bg ln ns me sc pi re bk th co1 bs1 gr lo) H → va_D A (wM q cy nK st le be te ab bl ka bg ln ns me sc pi re bk th co1 bs1 gr lo) → va_S A s.heap H locs → lv_has ls 8 [(3, .int (iI i)), (0, .ref (q 0)), (1, .int (iI m9)), (2, .int (iI (bZ wo)))] → W p l e ({ frames := 2, cells := 0, slots := 0, locals := 52 } : Room) s m [.ref (q 0), .int (iI m9), .int (iI (bZ wo))].toArray below meth c H locs 0 0 (MQ below (zQw D cy A (fun w8 => ∃ co2 : Int → Int, ∃ bs2 : Int → Int, w8 = wM q cy nK st le be te ab bl ka bg ln ns me sc pi re bk th co2 bs2 gr lo ∧ ((∀ a b, 0 ≤ a → a ≤ b → b < nK → b < a + m9 → co2 (24 * a + b) = (cw wo (tog ka bg ln ns bk)) a b) ∧ (∀ a c, 0 ≤ a → a ≤ nK → 0 ≤ c → c ≤ 24 → bs2 (25 * a + c) = dp (cw wo (tog ka bg ln ns bk)) nK m9 c a)))) [.ref (q 0), .int (iI m9), .int (iI (bZ wo))].toArray s 0 0 A) (F0 m 84 ls []) := by
          intro n
          induction n with
          | zero =>
            intro i bs1 h4 hf4 hq
            exfalso; omega
          | succ n ih_84 =>
            intro i bs1 h4 hf4 hq H locs ls hP hD hS hl
            have hco : ∀ x y, 0 ≤ x → x ≤ y → y < nK → y < x + m9 → co1 (24 * x + y) = (cw wo (tog ka bg ln ns bk)) x y := fun x y g1 g2 g3 g4 => hr x y g1 (by omega) g2 g3 g4
            refine lv_iload_n hx hb dX6_look_84 rfl (lv_at hl 0 rfl) ?_
            refine z_if_lt (tgt := 224) hx hb dX6_look_85 (by decide) (by omega) (fun c_2 => ?_) (fun c_2 => ?_)
            · exact z_vretR X hK hP hD hS dX6_look_224 (⟨_, _, rfl, fun a b g1 g2 g3 g4 => hr a b g1 (by omega) g2 g3 g4, fun a c g1 g2 g3 g4 => hq a c (by omega) g2 g3 g4⟩)
            · refine lv_iconst (v := iI (0)) hx hb dX6_look_88 rfl ?_
              refine lv_istore (lv' := [(4, .int (iI 0)), (3, .int (iI i)), (0, .ref (q 0)), (1, .int (iI m9)), (2, .int (iI (bZ wo)))]) hx hb dX6_look_89 hl (by decide) rfl (fun ls hl => ?_)
              have L_91 : ∀ (n : Nat) (c9 : Int) (bs3 : Int → Int), (h5 : 0 ≤ c9 ∧ c9 ≤ 25) → (hf5 : 25 - c9 < n) → (hq2 : ∀ x c, i < x → x ≤ nK → 0 ≤ c → c ≤ 24 → bs3 (25 * x + c) = dp (cw wo (tog ka bg ln ns bk)) nK m9 c x) → (hq3 : ∀ c, 0 ≤ c → c < c9 → bs3 (25 * i + c) = dp (cw wo (tog ka bg ln ns bk)) nK m9 c i) → ∀ (H : Heap) (locs : List Loc) (ls : Array Slot), va_P D vwCl (wM q cy nK st le be te ab bl ka bg ln ns me sc pi re bk th co1 bs3 gr lo) H → va_D A (wM q cy nK st le be te ab bl ka bg ln ns me sc pi re bk th co1 bs3 gr lo) → va_S A s.heap H locs → lv_has ls 8 [(4, .int (iI c9)), (3, .int (iI i)), (0, .ref (q 0)), (1, .int (iI m9)), (2, .int (iI (bZ wo)))] → W p l e ({ frames := 2, cells := 0, slots := 0, locals := 52 } : Room) s m [.ref (q 0), .int (iI m9), .int (iI (bZ wo))].toArray below meth c H locs 0 0 (MQ below (zQw D cy A (fun w8 => ∃ co2 : Int → Int, ∃ bs2 : Int → Int, w8 = wM q cy nK st le be te ab bl ka bg ln ns me sc pi re bk th co2 bs2 gr lo ∧ ((∀ a b, 0 ≤ a → a ≤ b → b < nK → b < a + m9 → co2 (24 * a + b) = (cw wo (tog ka bg ln ns bk)) a b) ∧ (∀ a c, 0 ≤ a → a ≤ nK → 0 ≤ c → c ≤ 24 → bs2 (25 * a + c) = dp (cw wo (tog ka bg ln ns bk)) nK m9 c a)))) [.ref (q 0), .int (iI m9), .int (iI (bZ wo))].toArray s 0 0 A) (F0 m 91 ls []) := by
                intro n
                induction n with
                | zero =>
                  intro c9 bs3 h5 hf5 hq2 hq3
                  exfalso; omega
                | succ n ih_91 =>
                  intro c9 bs3 h5 hf5 hq2 hq3 H locs ls hP hD hS hl
                  refine lv_iload hx hb dX6_look_91 (lv_at hl 0 rfl) ?_
                  refine lv_bipush (v := iI (24)) hx hb dX6_look_93 (by decide) ?_
                  refine z_icmp_gt (tgt := 218) hx hb dX6_look_95 (by decide) (by omega) (fun c_3 => ?_) (fun c_3 => ?_)
                  · refine lv_iinc (v := iI (i + (-1))) (lv' := [(3, .int (iI (i + (-1)))), (4, .int (iI c9)), (0, .ref (q 0)), (1, .int (iI m9)), (2, .int (iI (bZ wo)))]) hx hb dX6_look_218 hl (k := 1) rfl (iI_add _ _) (by decide) rfl (fun ls hl => ?_)
                    refine lv_goto (tgt := 84) hx hb dX6_look_221 (by decide) ?_
                    exact ih_84 (i + (-1)) bs3 (by omega) (by omega) (fun x c g1 g2 g3 g4 => by rcases (show i < x ∨ x = i by omega) with z | z; (exact hq2 x c z g2 g3 g4); (rw [z]; exact hq3 c g3 (by omega))) _ _ _ hP hD hS (lv_sub hl [0, 2, 3, 4] rfl)
                  · refine lv_iload_n hx hb dX6_look_98 rfl (lv_at hl 1 rfl) ?_
                    refine lv_aload_n hx hb dX6_look_99 rfl (lv_at hl 2 rfl) ?_
                    refine va_get (D := D) (ci := 6) (v := .int (iI nK)) (C := RX6) (T := TX6) (N := 21) hx hb hts n_X6 hown hK hP 0 rfl rfl 1 (by decide) f_7 (fun _ h9 => h9) rfl dX6_look_100 ?_
                    refine z_icmp_ne (tgt := 115) hx hb dX6_look_103 (by decide) (by omega) (fun c_4 => ?_) (fun c_4 => ?_)
                    · refine z_ldc (n := 1000000) hx hb hown k_174 (by decide) dX6_look_115 ?_
                      refine lv_istore (lv' := [(5, .int (iI 1000000)), (4, .int (iI c9)), (3, .int (iI i)), (0, .ref (q 0)), (1, .int (iI m9)), (2, .int (iI (bZ wo)))]) hx hb dX6_look_117 hl (by decide) rfl (fun ls hl => ?_)
                      refine lv_iload_n hx hb dX6_look_119 rfl (lv_at hl 2 rfl) ?_
                      refine lv_istore (lv' := [(6, .int (iI i)), (5, .int (iI 1000000)), (4, .int (iI c9)), (3, .int (iI i)), (0, .ref (q 0)), (1, .int (iI m9)), (2, .int (iI (bZ wo)))]) hx hb dX6_look_120 hl (by decide) rfl (fun ls hl => ?_)
                      have L_122 : ∀ (n : Nat) (l9 : Int) (b : Int), (h6 : i ≤ b ∧ b ≤ nK) → (hf6 : 25 - b < n) → (hl9 : (c9 = 0 ∧ l9 = dp (cw wo (tog ka bg ln ns bk)) nK m9 0 i ∧ b = i) ∨ (1 ≤ c9 ∧ l9 = mnZ (fun x => (cw wo (tog ka bg ln ns bk)) i (x - 1) + dp (cw wo (tog ka bg ln ns bk)) nK m9 (c9 - 1) x) (i + 1) (b + 1) ∧ b ≤ min nK (i + m9))) → (hb9 : 0 ≤ l9 ∧ l9 ≤ 1000000) → ∀ (H : Heap) (locs : List Loc) (ls : Array Slot), va_P D vwCl (wM q cy nK st le be te ab bl ka bg ln ns me sc pi re bk th co1 bs3 gr lo) H → va_D A (wM q cy nK st le be te ab bl ka bg ln ns me sc pi re bk th co1 bs3 gr lo) → va_S A s.heap H locs → lv_has ls 8 [(6, .int (iI b)), (5, .int (iI l9)), (4, .int (iI c9)), (3, .int (iI i)), (0, .ref (q 0)), (1, .int (iI m9)), (2, .int (iI (bZ wo)))] → W p l e ({ frames := 2, cells := 0, slots := 0, locals := 52 } : Room) s m [.ref (q 0), .int (iI m9), .int (iI (bZ wo))].toArray below meth c H locs 0 0 (MQ below (zQw D cy A (fun w8 => ∃ co2 : Int → Int, ∃ bs2 : Int → Int, w8 = wM q cy nK st le be te ab bl ka bg ln ns me sc pi re bk th co2 bs2 gr lo ∧ ((∀ a b, 0 ≤ a → a ≤ b → b < nK → b < a + m9 → co2 (24 * a + b) = (cw wo (tog ka bg ln ns bk)) a b) ∧ (∀ a c, 0 ≤ a → a ≤ nK → 0 ≤ c → c ≤ 24 → bs2 (25 * a + c) = dp (cw wo (tog ka bg ln ns bk)) nK m9 c a)))) [.ref (q 0), .int (iI m9), .int (iI (bZ wo))].toArray s 0 0 A) (F0 m 122 ls []) := by
                        intro n
                        induction n with
                        | zero =>
                          intro l9 b h6 hf6 hl9 hb9
                          exfalso; omega
                        | succ n ih_122 =>
                          intro l9 b h6 hf6 hl9 hb9 H locs ls hP hD hS hl
                          refine lv_iload hx hb dX6_look_122 (lv_at hl 0 rfl) ?_
                          refine lv_aload_n hx hb dX6_look_124 rfl (lv_at hl 4 rfl) ?_
                          refine va_get (D := D) (ci := 6) (v := .int (iI nK)) (C := RX6) (T := TX6) (N := 21) hx hb hts n_X6 hown hK hP 0 rfl rfl 1 (by decide) f_7 (fun _ h9 => h9) rfl dX6_look_125 ?_
                          refine z_icmp_ge (tgt := 198) hx hb dX6_look_128 (by decide) (by omega) (fun c_5 => ?_) (fun c_5 => ?_)
                          · refine lv_aload_n hx hb dX6_look_198 rfl (lv_at hl 4 rfl) ?_
                            refine va_get (D := D) (ci := 6) (v := .ref (q 13)) (C := RX6) (T := TX6) (N := 21) hx hb hts n_X6 hown hK hP 0 rfl rfl 18 (by decide) f_56 (fun _ h9 => h9) rfl dX6_look_199 ?_
                            refine lv_bipush (v := iI (25)) hx hb dX6_look_202 (by decide) ?_
                            refine lv_iload_n hx hb dX6_look_204 rfl (lv_at hl 3 rfl) ?_
                            refine z_imul hx hb dX6_look_205 ?_
                            refine lv_iload hx hb dX6_look_206 (lv_at hl 2 rfl) ?_
                            refine z_iadd hx hb dX6_look_208 ?_
                            refine lv_iload hx hb dX6_look_209 (lv_at hl 1 rfl) ?_
                            refine z_iast (v := l9) hx hb hK hP hD hS 13 0 rfl rfl (by omega) dX6_look_211 (fun H locs hP hD hS => ?_)
                            have hP : va_P D vwCl (wM q cy nK st le be te ab bl ka bg ln ns me sc pi re bk th co1 (uZ bs3 ((25 * i) + c9) l9) gr lo) H := hP
                            have hD : va_D A (wM q cy nK st le be te ab bl ka bg ln ns me sc pi re bk th co1 (uZ bs3 ((25 * i) + c9) l9) gr lo) := hD
                            refine lv_iinc (v := iI (c9 + 1)) (lv' := [(4, .int (iI (c9 + 1))), (6, .int (iI b)), (5, .int (iI l9)), (3, .int (iI i)), (0, .ref (q 0)), (1, .int (iI m9)), (2, .int (iI (bZ wo)))]) hx hb dX6_look_212 hl (k := 2) rfl (iI_add _ _) (by decide) rfl (fun ls hl => ?_)
                            refine lv_goto (tgt := 91) hx hb dX6_look_215 (by decide) ?_
                            exact ih_91 (c9 + 1) (uZ bs3 ((25 * i) + c9) l9) (by omega) (by omega) (fun x c g1 g2 g3 g4 => by rw [uZ_other (by omega)]; exact hq2 x c g1 g2 g3 g4) (fun c g1 g2 => by rcases (show c < c9 ∨ c = c9 by omega) with z | z; (rw [uZ_other (by omega)]; exact hq3 c g1 z); (rw [z, uZ_same]; rcases hl9 with w | w; (rw [w.1]; exact w.2.1); (rw [dp_s w.1, w.2.1, show b + 1 = min nK (i + m9) + 1 by omega]))) _ _ _ hP hD hS (lv_sub hl [0, 3, 4, 5, 6] rfl)
                          · refine lv_iload hx hb dX6_look_131 (lv_at hl 0 rfl) ?_
                            refine lv_iload_n hx hb dX6_look_133 rfl (lv_at hl 3 rfl) ?_
                            refine lv_iload_n hx hb dX6_look_134 rfl (lv_at hl 5 rfl) ?_
                            refine z_iadd hx hb dX6_look_135 ?_
                            refine z_icmp_ge (tgt := 198) hx hb dX6_look_136 (by decide) (by omega) (fun c_6 => ?_) (fun c_6 => ?_)
                            · refine lv_aload_n hx hb dX6_look_198 rfl (lv_at hl 4 rfl) ?_
                              refine va_get (D := D) (ci := 6) (v := .ref (q 13)) (C := RX6) (T := TX6) (N := 21) hx hb hts n_X6 hown hK hP 0 rfl rfl 18 (by decide) f_56 (fun _ h9 => h9) rfl dX6_look_199 ?_
                              refine lv_bipush (v := iI (25)) hx hb dX6_look_202 (by decide) ?_
                              refine lv_iload_n hx hb dX6_look_204 rfl (lv_at hl 3 rfl) ?_
                              refine z_imul hx hb dX6_look_205 ?_
                              refine lv_iload hx hb dX6_look_206 (lv_at hl 2 rfl) ?_
                              refine z_iadd hx hb dX6_look_208 ?_
                              refine lv_iload hx hb dX6_look_209 (lv_at hl 1 rfl) ?_
                              refine z_iast (v := l9) hx hb hK hP hD hS 13 0 rfl rfl (by omega) dX6_look_211 (fun H locs hP hD hS => ?_)
                              have hP : va_P D vwCl (wM q cy nK st le be te ab bl ka bg ln ns me sc pi re bk th co1 (uZ bs3 ((25 * i) + c9) l9) gr lo) H := hP
                              have hD : va_D A (wM q cy nK st le be te ab bl ka bg ln ns me sc pi re bk th co1 (uZ bs3 ((25 * i) + c9) l9) gr lo) := hD
                              refine lv_iinc (v := iI (c9 + 1)) (lv' := [(4, .int (iI (c9 + 1))), (6, .int (iI b)), (5, .int (iI l9)), (3, .int (iI i)), (0, .ref (q 0)), (1, .int (iI m9)), (2, .int (iI (bZ wo)))]) hx hb dX6_look_212 hl (k := 2) rfl (iI_add _ _) (by decide) rfl (fun ls hl => ?_)
                              refine lv_goto (tgt := 91) hx hb dX6_look_215 (by decide) ?_
                              exact ih_91 (c9 + 1) (uZ bs3 ((25 * i) + c9) l9) (by omega) (by omega) (fun x c g1 g2 g3 g4 => by rw [uZ_other (by omega)]; exact hq2 x c g1 g2 g3 g4) (fun c g1 g2 => by rcases (show c < c9 ∨ c = c9 by omega) with z | z; (rw [uZ_other (by omega)]; exact hq3 c g1 z); (rw [z, uZ_same]; rcases hl9 with w | w; (rw [w.1]; exact w.2.1); (rw [dp_s w.1, w.2.1, show b + 1 = min nK (i + m9) + 1 by omega]))) _ _ _ hP hD hS (lv_sub hl [0, 3, 4, 5, 6] rfl)
                            · refine lv_iload hx hb dX6_look_139 (lv_at hl 2 rfl) ?_
                              refine z_if_le (tgt := 198) hx hb dX6_look_141 (by decide) (by omega) (fun c_7 => ?_) (fun c_7 => ?_)
                              · refine lv_aload_n hx hb dX6_look_198 rfl (lv_at hl 4 rfl) ?_
                                refine va_get (D := D) (ci := 6) (v := .ref (q 13)) (C := RX6) (T := TX6) (N := 21) hx hb hts n_X6 hown hK hP 0 rfl rfl 18 (by decide) f_56 (fun _ h9 => h9) rfl dX6_look_199 ?_
                                refine lv_bipush (v := iI (25)) hx hb dX6_look_202 (by decide) ?_
                                refine lv_iload_n hx hb dX6_look_204 rfl (lv_at hl 3 rfl) ?_
                                refine z_imul hx hb dX6_look_205 ?_
                                refine lv_iload hx hb dX6_look_206 (lv_at hl 2 rfl) ?_
                                refine z_iadd hx hb dX6_look_208 ?_
                                refine lv_iload hx hb dX6_look_209 (lv_at hl 1 rfl) ?_
                                refine z_iast (v := l9) hx hb hK hP hD hS 13 0 rfl rfl (by omega) dX6_look_211 (fun H locs hP hD hS => ?_)
                                have hP : va_P D vwCl (wM q cy nK st le be te ab bl ka bg ln ns me sc pi re bk th co1 (uZ bs3 ((25 * i) + c9) l9) gr lo) H := hP
                                have hD : va_D A (wM q cy nK st le be te ab bl ka bg ln ns me sc pi re bk th co1 (uZ bs3 ((25 * i) + c9) l9) gr lo) := hD
                                refine lv_iinc (v := iI (c9 + 1)) (lv' := [(4, .int (iI (c9 + 1))), (6, .int (iI b)), (5, .int (iI l9)), (3, .int (iI i)), (0, .ref (q 0)), (1, .int (iI m9)), (2, .int (iI (bZ wo)))]) hx hb dX6_look_212 hl (k := 2) rfl (iI_add _ _) (by decide) rfl (fun ls hl => ?_)
                                refine lv_goto (tgt := 91) hx hb dX6_look_215 (by decide) ?_
                                exact ih_91 (c9 + 1) (uZ bs3 ((25 * i) + c9) l9) (by omega) (by omega) (fun x c g1 g2 g3 g4 => by rw [uZ_other (by omega)]; exact hq2 x c g1 g2 g3 g4) (fun c g1 g2 => by rcases (show c < c9 ∨ c = c9 by omega) with z | z; (rw [uZ_other (by omega)]; exact hq3 c g1 z); (rw [z, uZ_same]; rcases hl9 with w | w; (rw [w.1]; exact w.2.1); (rw [dp_s w.1, w.2.1, show b + 1 = min nK (i + m9) + 1 by omega]))) _ _ _ hP hD hS (lv_sub hl [0, 3, 4, 5, 6] rfl)
                              · have e1 := hco i b (by omega) (by omega) (by omega) (by omega)
                                have e2 := hq2 (b + 1) (c9 - 1) (by omega) (by omega) (by omega) (by omega)
                                rw [show 25 * (b + 1) + (c9 - 1) = 25 * (b + 1) + c9 - 1 by omega] at e2
                                have e3 := cb i b
                                have e4 := db (c9 - 1) (b + 1)
                                refine lv_aload_n hx hb dX6_look_144 rfl (lv_at hl 4 rfl) ?_
                                refine va_get (D := D) (ci := 6) (v := .ref (q 12)) (C := RX6) (T := TX6) (N := 21) hx hb hts n_X6 hown hK hP 0 rfl rfl 17 (by decide) f_53 (fun _ h9 => h9) rfl dX6_look_145 ?_
                                refine lv_bipush (v := iI (24)) hx hb dX6_look_148 (by decide) ?_
                                refine lv_iload_n hx hb dX6_look_150 rfl (lv_at hl 3 rfl) ?_
                                refine z_imul hx hb dX6_look_151 ?_
                                refine lv_iload hx hb dX6_look_152 (lv_at hl 0 rfl) ?_
                                refine z_iadd hx hb dX6_look_154 ?_
                                refine z_iald hx hb hK hP 12 0 rfl rfl (by omega) dX6_look_155 ?_
                                refine lv_aload_n hx hb dX6_look_156 rfl (lv_at hl 4 rfl) ?_
                                refine va_get (D := D) (ci := 6) (v := .ref (q 13)) (C := RX6) (T := TX6) (N := 21) hx hb hts n_X6 hown hK hP 0 rfl rfl 18 (by decide) f_56 (fun _ h9 => h9) rfl dX6_look_157 ?_
                                refine lv_bipush (v := iI (25)) hx hb dX6_look_160 (by decide) ?_
                                refine lv_iload hx hb dX6_look_162 (lv_at hl 0 rfl) ?_
                                refine lv_iconst (v := iI (1)) hx hb dX6_look_164 rfl ?_
                                refine z_iadd hx hb dX6_look_165 ?_
                                refine z_imul hx hb dX6_look_166 ?_
                                refine lv_iload hx hb dX6_look_167 (lv_at hl 2 rfl) ?_
                                refine z_iadd hx hb dX6_look_169 ?_
                                refine lv_iconst (v := iI (1)) hx hb dX6_look_170 rfl ?_
                                refine z_isub hx hb dX6_look_171 ?_
                                refine z_iald hx hb hK hP 13 0 rfl rfl (by omega) dX6_look_172 ?_
                                refine z_iadd hx hb dX6_look_173 ?_
                                refine lv_istore (lv' := [(7, .int (iI ((co1 ((24 * i) + b)) + (bs3 (((25 * (b + 1)) + c9) - 1))))), (6, .int (iI b)), (5, .int (iI l9)), (4, .int (iI c9)), (3, .int (iI i)), (0, .ref (q 0)), (1, .int (iI m9)), (2, .int (iI (bZ wo)))]) hx hb dX6_look_174 hl (by decide) rfl (fun ls hl => ?_)
                                refine lv_iload hx hb dX6_look_176 (lv_at hl 0 rfl) ?_
                                refine lv_iload hx hb dX6_look_178 (lv_at hl 2 rfl) ?_
                                refine z_icmp_ge (tgt := 188) hx hb dX6_look_180 (by decide) (by omega) (fun c_8 => ?_) (fun c_8 => ?_)
                                · refine lv_iload hx hb dX6_look_188 (lv_at hl 2 rfl) ?_
                                  refine lv_istore (lv' := [(5, .int (iI l9)), (7, .int (iI ((co1 ((24 * i) + b)) + (bs3 (((25 * (b + 1)) + c9) - 1))))), (6, .int (iI b)), (4, .int (iI c9)), (3, .int (iI i)), (0, .ref (q 0)), (1, .int (iI m9)), (2, .int (iI (bZ wo)))]) hx hb dX6_look_190 hl (by decide) rfl (fun ls hl => ?_)
                                  refine lv_iinc (v := iI (b + 1)) (lv' := [(6, .int (iI (b + 1))), (5, .int (iI l9)), (7, .int (iI ((co1 ((24 * i) + b)) + (bs3 (((25 * (b + 1)) + c9) - 1))))), (4, .int (iI c9)), (3, .int (iI i)), (0, .ref (q 0)), (1, .int (iI m9)), (2, .int (iI (bZ wo)))]) hx hb dX6_look_192 hl (k := 2) rfl (iI_add _ _) (by decide) rfl (fun ls hl => ?_)
                                  refine lv_goto (tgt := 122) hx hb dX6_look_195 (by decide) ?_
                                  exact ih_122 l9 (b + 1) (by omega) (by omega) (by rcases hl9 with w | w; (exfalso; omega); exact Or.inr ⟨w.1, by rw [mnZ_s (i := b + 1) (by omega), ← w.2.1]; (try dsimp only); rw [show b + 1 - 1 = b by omega, ← e1, ← e2]; omega, by omega⟩) (by omega) _ _ _ hP hD hS (lv_sub hl [0, 1, 3, 4, 5, 6, 7] rfl)
                                · refine lv_iload hx hb dX6_look_183 (lv_at hl 0 rfl) ?_
                                  refine lv_goto (tgt := 190) hx hb dX6_look_185 (by decide) ?_
                                  refine lv_istore (lv' := [(5, .int (iI ((co1 ((24 * i) + b)) + (bs3 (((25 * (b + 1)) + c9) - 1))))), (7, .int (iI ((co1 ((24 * i) + b)) + (bs3 (((25 * (b + 1)) + c9) - 1))))), (6, .int (iI b)), (4, .int (iI c9)), (3, .int (iI i)), (0, .ref (q 0)), (1, .int (iI m9)), (2, .int (iI (bZ wo)))]) hx hb dX6_look_190 hl (by decide) rfl (fun ls hl => ?_)
                                  refine lv_iinc (v := iI (b + 1)) (lv' := [(6, .int (iI (b + 1))), (5, .int (iI ((co1 ((24 * i) + b)) + (bs3 (((25 * (b + 1)) + c9) - 1))))), (7, .int (iI ((co1 ((24 * i) + b)) + (bs3 (((25 * (b + 1)) + c9) - 1))))), (4, .int (iI c9)), (3, .int (iI i)), (0, .ref (q 0)), (1, .int (iI m9)), (2, .int (iI (bZ wo)))]) hx hb dX6_look_192 hl (k := 2) rfl (iI_add _ _) (by decide) rfl (fun ls hl => ?_)
                                  refine lv_goto (tgt := 122) hx hb dX6_look_195 (by decide) ?_
                                  exact ih_122 ((co1 ((24 * i) + b)) + (bs3 (((25 * (b + 1)) + c9) - 1))) (b + 1) (by omega) (by omega) (by rcases hl9 with w | w; (exfalso; omega); exact Or.inr ⟨w.1, by rw [mnZ_s (i := b + 1) (by omega), ← w.2.1]; (try dsimp only); rw [show b + 1 - 1 = b by omega, ← e1, ← e2]; omega, by omega⟩) (by omega) _ _ _ hP hD hS (lv_sub hl [0, 1, 3, 4, 5, 6, 7] rfl)
                      exact L_122 27 1000000 i (by omega) (by omega) (by rcases (show c9 = 0 ∨ 1 ≤ c9 by omega) with w | w; (first | (exfalso; omega) | (refine Or.inl ⟨w, ?_, rfl⟩; rw [dp_0]; first | rw [if_pos (by omega)] | rw [if_neg (by omega)])); (first | exact Or.inr ⟨w, (mnZ_0 (by omega)).symm, by omega⟩ | (exfalso; omega))) (by omega) _ _ _ hP hD hS (lv_sub hl [0, 1, 2, 3, 4, 5, 6] rfl)
                    · refine lv_iload hx hb dX6_look_106 (lv_at hl 0 rfl) ?_
                      refine z_if_ne (tgt := 115) hx hb dX6_look_108 (by decide) (by omega) (fun c_9 => ?_) (fun c_9 => ?_)
                      · refine z_ldc (n := 1000000) hx hb hown k_174 (by decide) dX6_look_115 ?_
                        refine lv_istore (lv' := [(5, .int (iI 1000000)), (4, .int (iI c9)), (3, .int (iI i)), (0, .ref (q 0)), (1, .int (iI m9)), (2, .int (iI (bZ wo)))]) hx hb dX6_look_117 hl (by decide) rfl (fun ls hl => ?_)
                        refine lv_iload_n hx hb dX6_look_119 rfl (lv_at hl 2 rfl) ?_
                        refine lv_istore (lv' := [(6, .int (iI i)), (5, .int (iI 1000000)), (4, .int (iI c9)), (3, .int (iI i)), (0, .ref (q 0)), (1, .int (iI m9)), (2, .int (iI (bZ wo)))]) hx hb dX6_look_120 hl (by decide) rfl (fun ls hl => ?_)
                        have L_122 : ∀ (n : Nat) (l9 : Int) (b : Int), (h6 : i ≤ b ∧ b ≤ nK) → (hf6 : 25 - b < n) → (hl9 : (c9 = 0 ∧ l9 = dp (cw wo (tog ka bg ln ns bk)) nK m9 0 i ∧ b = i) ∨ (1 ≤ c9 ∧ l9 = mnZ (fun x => (cw wo (tog ka bg ln ns bk)) i (x - 1) + dp (cw wo (tog ka bg ln ns bk)) nK m9 (c9 - 1) x) (i + 1) (b + 1) ∧ b ≤ min nK (i + m9))) → (hb9 : 0 ≤ l9 ∧ l9 ≤ 1000000) → ∀ (H : Heap) (locs : List Loc) (ls : Array Slot), va_P D vwCl (wM q cy nK st le be te ab bl ka bg ln ns me sc pi re bk th co1 bs3 gr lo) H → va_D A (wM q cy nK st le be te ab bl ka bg ln ns me sc pi re bk th co1 bs3 gr lo) → va_S A s.heap H locs → lv_has ls 8 [(6, .int (iI b)), (5, .int (iI l9)), (4, .int (iI c9)), (3, .int (iI i)), (0, .ref (q 0)), (1, .int (iI m9)), (2, .int (iI (bZ wo)))] → W p l e ({ frames := 2, cells := 0, slots := 0, locals := 52 } : Room) s m [.ref (q 0), .int (iI m9), .int (iI (bZ wo))].toArray below meth c H locs 0 0 (MQ below (zQw D cy A (fun w8 => ∃ co2 : Int → Int, ∃ bs2 : Int → Int, w8 = wM q cy nK st le be te ab bl ka bg ln ns me sc pi re bk th co2 bs2 gr lo ∧ ((∀ a b, 0 ≤ a → a ≤ b → b < nK → b < a + m9 → co2 (24 * a + b) = (cw wo (tog ka bg ln ns bk)) a b) ∧ (∀ a c, 0 ≤ a → a ≤ nK → 0 ≤ c → c ≤ 24 → bs2 (25 * a + c) = dp (cw wo (tog ka bg ln ns bk)) nK m9 c a)))) [.ref (q 0), .int (iI m9), .int (iI (bZ wo))].toArray s 0 0 A) (F0 m 122 ls []) := by
                          intro n
                          induction n with
                          | zero =>
                            intro l9 b h6 hf6 hl9 hb9
                            exfalso; omega
                          | succ n ih_122 =>
                            intro l9 b h6 hf6 hl9 hb9 H locs ls hP hD hS hl
                            refine lv_iload hx hb dX6_look_122 (lv_at hl 0 rfl) ?_
                            refine lv_aload_n hx hb dX6_look_124 rfl (lv_at hl 4 rfl) ?_
                            refine va_get (D := D) (ci := 6) (v := .int (iI nK)) (C := RX6) (T := TX6) (N := 21) hx hb hts n_X6 hown hK hP 0 rfl rfl 1 (by decide) f_7 (fun _ h9 => h9) rfl dX6_look_125 ?_
                            refine z_icmp_ge (tgt := 198) hx hb dX6_look_128 (by decide) (by omega) (fun c_10 => ?_) (fun c_10 => ?_)
                            · refine lv_aload_n hx hb dX6_look_198 rfl (lv_at hl 4 rfl) ?_
                              refine va_get (D := D) (ci := 6) (v := .ref (q 13)) (C := RX6) (T := TX6) (N := 21) hx hb hts n_X6 hown hK hP 0 rfl rfl 18 (by decide) f_56 (fun _ h9 => h9) rfl dX6_look_199 ?_
                              refine lv_bipush (v := iI (25)) hx hb dX6_look_202 (by decide) ?_
                              refine lv_iload_n hx hb dX6_look_204 rfl (lv_at hl 3 rfl) ?_
                              refine z_imul hx hb dX6_look_205 ?_
                              refine lv_iload hx hb dX6_look_206 (lv_at hl 2 rfl) ?_
                              refine z_iadd hx hb dX6_look_208 ?_
                              refine lv_iload hx hb dX6_look_209 (lv_at hl 1 rfl) ?_
                              refine z_iast (v := l9) hx hb hK hP hD hS 13 0 rfl rfl (by omega) dX6_look_211 (fun H locs hP hD hS => ?_)
                              have hP : va_P D vwCl (wM q cy nK st le be te ab bl ka bg ln ns me sc pi re bk th co1 (uZ bs3 ((25 * i) + c9) l9) gr lo) H := hP
                              have hD : va_D A (wM q cy nK st le be te ab bl ka bg ln ns me sc pi re bk th co1 (uZ bs3 ((25 * i) + c9) l9) gr lo) := hD
                              refine lv_iinc (v := iI (c9 + 1)) (lv' := [(4, .int (iI (c9 + 1))), (6, .int (iI b)), (5, .int (iI l9)), (3, .int (iI i)), (0, .ref (q 0)), (1, .int (iI m9)), (2, .int (iI (bZ wo)))]) hx hb dX6_look_212 hl (k := 2) rfl (iI_add _ _) (by decide) rfl (fun ls hl => ?_)
                              refine lv_goto (tgt := 91) hx hb dX6_look_215 (by decide) ?_
                              exact ih_91 (c9 + 1) (uZ bs3 ((25 * i) + c9) l9) (by omega) (by omega) (fun x c g1 g2 g3 g4 => by rw [uZ_other (by omega)]; exact hq2 x c g1 g2 g3 g4) (fun c g1 g2 => by rcases (show c < c9 ∨ c = c9 by omega) with z | z; (rw [uZ_other (by omega)]; exact hq3 c g1 z); (rw [z, uZ_same]; rcases hl9 with w | w; (rw [w.1]; exact w.2.1); (rw [dp_s w.1, w.2.1, show b + 1 = min nK (i + m9) + 1 by omega]))) _ _ _ hP hD hS (lv_sub hl [0, 3, 4, 5, 6] rfl)
                            · refine lv_iload hx hb dX6_look_131 (lv_at hl 0 rfl) ?_
                              refine lv_iload_n hx hb dX6_look_133 rfl (lv_at hl 3 rfl) ?_
                              refine lv_iload_n hx hb dX6_look_134 rfl (lv_at hl 5 rfl) ?_
                              refine z_iadd hx hb dX6_look_135 ?_
                              refine z_icmp_ge (tgt := 198) hx hb dX6_look_136 (by decide) (by omega) (fun c_11 => ?_) (fun c_11 => ?_)
                              · refine lv_aload_n hx hb dX6_look_198 rfl (lv_at hl 4 rfl) ?_
                                refine va_get (D := D) (ci := 6) (v := .ref (q 13)) (C := RX6) (T := TX6) (N := 21) hx hb hts n_X6 hown hK hP 0 rfl rfl 18 (by decide) f_56 (fun _ h9 => h9) rfl dX6_look_199 ?_
                                refine lv_bipush (v := iI (25)) hx hb dX6_look_202 (by decide) ?_
                                refine lv_iload_n hx hb dX6_look_204 rfl (lv_at hl 3 rfl) ?_
                                refine z_imul hx hb dX6_look_205 ?_
                                refine lv_iload hx hb dX6_look_206 (lv_at hl 2 rfl) ?_
                                refine z_iadd hx hb dX6_look_208 ?_
                                refine lv_iload hx hb dX6_look_209 (lv_at hl 1 rfl) ?_
                                refine z_iast (v := l9) hx hb hK hP hD hS 13 0 rfl rfl (by omega) dX6_look_211 (fun H locs hP hD hS => ?_)
                                have hP : va_P D vwCl (wM q cy nK st le be te ab bl ka bg ln ns me sc pi re bk th co1 (uZ bs3 ((25 * i) + c9) l9) gr lo) H := hP
                                have hD : va_D A (wM q cy nK st le be te ab bl ka bg ln ns me sc pi re bk th co1 (uZ bs3 ((25 * i) + c9) l9) gr lo) := hD
                                refine lv_iinc (v := iI (c9 + 1)) (lv' := [(4, .int (iI (c9 + 1))), (6, .int (iI b)), (5, .int (iI l9)), (3, .int (iI i)), (0, .ref (q 0)), (1, .int (iI m9)), (2, .int (iI (bZ wo)))]) hx hb dX6_look_212 hl (k := 2) rfl (iI_add _ _) (by decide) rfl (fun ls hl => ?_)
                                refine lv_goto (tgt := 91) hx hb dX6_look_215 (by decide) ?_
                                exact ih_91 (c9 + 1) (uZ bs3 ((25 * i) + c9) l9) (by omega) (by omega) (fun x c g1 g2 g3 g4 => by rw [uZ_other (by omega)]; exact hq2 x c g1 g2 g3 g4) (fun c g1 g2 => by rcases (show c < c9 ∨ c = c9 by omega) with z | z; (rw [uZ_other (by omega)]; exact hq3 c g1 z); (rw [z, uZ_same]; rcases hl9 with w | w; (rw [w.1]; exact w.2.1); (rw [dp_s w.1, w.2.1, show b + 1 = min nK (i + m9) + 1 by omega]))) _ _ _ hP hD hS (lv_sub hl [0, 3, 4, 5, 6] rfl)
                              · refine lv_iload hx hb dX6_look_139 (lv_at hl 2 rfl) ?_
                                refine z_if_le (tgt := 198) hx hb dX6_look_141 (by decide) (by omega) (fun c_12 => ?_) (fun c_12 => ?_)
                                · refine lv_aload_n hx hb dX6_look_198 rfl (lv_at hl 4 rfl) ?_
                                  refine va_get (D := D) (ci := 6) (v := .ref (q 13)) (C := RX6) (T := TX6) (N := 21) hx hb hts n_X6 hown hK hP 0 rfl rfl 18 (by decide) f_56 (fun _ h9 => h9) rfl dX6_look_199 ?_
                                  refine lv_bipush (v := iI (25)) hx hb dX6_look_202 (by decide) ?_
                                  refine lv_iload_n hx hb dX6_look_204 rfl (lv_at hl 3 rfl) ?_
                                  refine z_imul hx hb dX6_look_205 ?_
                                  refine lv_iload hx hb dX6_look_206 (lv_at hl 2 rfl) ?_
                                  refine z_iadd hx hb dX6_look_208 ?_
                                  refine lv_iload hx hb dX6_look_209 (lv_at hl 1 rfl) ?_
                                  refine z_iast (v := l9) hx hb hK hP hD hS 13 0 rfl rfl (by omega) dX6_look_211 (fun H locs hP hD hS => ?_)
                                  have hP : va_P D vwCl (wM q cy nK st le be te ab bl ka bg ln ns me sc pi re bk th co1 (uZ bs3 ((25 * i) + c9) l9) gr lo) H := hP
                                  have hD : va_D A (wM q cy nK st le be te ab bl ka bg ln ns me sc pi re bk th co1 (uZ bs3 ((25 * i) + c9) l9) gr lo) := hD
                                  refine lv_iinc (v := iI (c9 + 1)) (lv' := [(4, .int (iI (c9 + 1))), (6, .int (iI b)), (5, .int (iI l9)), (3, .int (iI i)), (0, .ref (q 0)), (1, .int (iI m9)), (2, .int (iI (bZ wo)))]) hx hb dX6_look_212 hl (k := 2) rfl (iI_add _ _) (by decide) rfl (fun ls hl => ?_)
                                  refine lv_goto (tgt := 91) hx hb dX6_look_215 (by decide) ?_
                                  exact ih_91 (c9 + 1) (uZ bs3 ((25 * i) + c9) l9) (by omega) (by omega) (fun x c g1 g2 g3 g4 => by rw [uZ_other (by omega)]; exact hq2 x c g1 g2 g3 g4) (fun c g1 g2 => by rcases (show c < c9 ∨ c = c9 by omega) with z | z; (rw [uZ_other (by omega)]; exact hq3 c g1 z); (rw [z, uZ_same]; rcases hl9 with w | w; (rw [w.1]; exact w.2.1); (rw [dp_s w.1, w.2.1, show b + 1 = min nK (i + m9) + 1 by omega]))) _ _ _ hP hD hS (lv_sub hl [0, 3, 4, 5, 6] rfl)
                                · have e1 := hco i b (by omega) (by omega) (by omega) (by omega)
                                  have e2 := hq2 (b + 1) (c9 - 1) (by omega) (by omega) (by omega) (by omega)
                                  rw [show 25 * (b + 1) + (c9 - 1) = 25 * (b + 1) + c9 - 1 by omega] at e2
                                  have e3 := cb i b
                                  have e4 := db (c9 - 1) (b + 1)
                                  refine lv_aload_n hx hb dX6_look_144 rfl (lv_at hl 4 rfl) ?_
                                  refine va_get (D := D) (ci := 6) (v := .ref (q 12)) (C := RX6) (T := TX6) (N := 21) hx hb hts n_X6 hown hK hP 0 rfl rfl 17 (by decide) f_53 (fun _ h9 => h9) rfl dX6_look_145 ?_
                                  refine lv_bipush (v := iI (24)) hx hb dX6_look_148 (by decide) ?_
                                  refine lv_iload_n hx hb dX6_look_150 rfl (lv_at hl 3 rfl) ?_
                                  refine z_imul hx hb dX6_look_151 ?_
                                  refine lv_iload hx hb dX6_look_152 (lv_at hl 0 rfl) ?_
                                  refine z_iadd hx hb dX6_look_154 ?_
                                  refine z_iald hx hb hK hP 12 0 rfl rfl (by omega) dX6_look_155 ?_
                                  refine lv_aload_n hx hb dX6_look_156 rfl (lv_at hl 4 rfl) ?_
                                  refine va_get (D := D) (ci := 6) (v := .ref (q 13)) (C := RX6) (T := TX6) (N := 21) hx hb hts n_X6 hown hK hP 0 rfl rfl 18 (by decide) f_56 (fun _ h9 => h9) rfl dX6_look_157 ?_
                                  refine lv_bipush (v := iI (25)) hx hb dX6_look_160 (by decide) ?_
                                  refine lv_iload hx hb dX6_look_162 (lv_at hl 0 rfl) ?_
                                  refine lv_iconst (v := iI (1)) hx hb dX6_look_164 rfl ?_
                                  refine z_iadd hx hb dX6_look_165 ?_
                                  refine z_imul hx hb dX6_look_166 ?_
                                  refine lv_iload hx hb dX6_look_167 (lv_at hl 2 rfl) ?_
                                  refine z_iadd hx hb dX6_look_169 ?_
                                  refine lv_iconst (v := iI (1)) hx hb dX6_look_170 rfl ?_
                                  refine z_isub hx hb dX6_look_171 ?_
                                  refine z_iald hx hb hK hP 13 0 rfl rfl (by omega) dX6_look_172 ?_
                                  refine z_iadd hx hb dX6_look_173 ?_
                                  refine lv_istore (lv' := [(7, .int (iI ((co1 ((24 * i) + b)) + (bs3 (((25 * (b + 1)) + c9) - 1))))), (6, .int (iI b)), (5, .int (iI l9)), (4, .int (iI c9)), (3, .int (iI i)), (0, .ref (q 0)), (1, .int (iI m9)), (2, .int (iI (bZ wo)))]) hx hb dX6_look_174 hl (by decide) rfl (fun ls hl => ?_)
                                  refine lv_iload hx hb dX6_look_176 (lv_at hl 0 rfl) ?_
                                  refine lv_iload hx hb dX6_look_178 (lv_at hl 2 rfl) ?_
                                  refine z_icmp_ge (tgt := 188) hx hb dX6_look_180 (by decide) (by omega) (fun c_13 => ?_) (fun c_13 => ?_)
                                  · refine lv_iload hx hb dX6_look_188 (lv_at hl 2 rfl) ?_
                                    refine lv_istore (lv' := [(5, .int (iI l9)), (7, .int (iI ((co1 ((24 * i) + b)) + (bs3 (((25 * (b + 1)) + c9) - 1))))), (6, .int (iI b)), (4, .int (iI c9)), (3, .int (iI i)), (0, .ref (q 0)), (1, .int (iI m9)), (2, .int (iI (bZ wo)))]) hx hb dX6_look_190 hl (by decide) rfl (fun ls hl => ?_)
                                    refine lv_iinc (v := iI (b + 1)) (lv' := [(6, .int (iI (b + 1))), (5, .int (iI l9)), (7, .int (iI ((co1 ((24 * i) + b)) + (bs3 (((25 * (b + 1)) + c9) - 1))))), (4, .int (iI c9)), (3, .int (iI i)), (0, .ref (q 0)), (1, .int (iI m9)), (2, .int (iI (bZ wo)))]) hx hb dX6_look_192 hl (k := 2) rfl (iI_add _ _) (by decide) rfl (fun ls hl => ?_)
                                    refine lv_goto (tgt := 122) hx hb dX6_look_195 (by decide) ?_
                                    exact ih_122 l9 (b + 1) (by omega) (by omega) (by rcases hl9 with w | w; (exfalso; omega); exact Or.inr ⟨w.1, by rw [mnZ_s (i := b + 1) (by omega), ← w.2.1]; (try dsimp only); rw [show b + 1 - 1 = b by omega, ← e1, ← e2]; omega, by omega⟩) (by omega) _ _ _ hP hD hS (lv_sub hl [0, 1, 3, 4, 5, 6, 7] rfl)
                                  · refine lv_iload hx hb dX6_look_183 (lv_at hl 0 rfl) ?_
                                    refine lv_goto (tgt := 190) hx hb dX6_look_185 (by decide) ?_
                                    refine lv_istore (lv' := [(5, .int (iI ((co1 ((24 * i) + b)) + (bs3 (((25 * (b + 1)) + c9) - 1))))), (7, .int (iI ((co1 ((24 * i) + b)) + (bs3 (((25 * (b + 1)) + c9) - 1))))), (6, .int (iI b)), (4, .int (iI c9)), (3, .int (iI i)), (0, .ref (q 0)), (1, .int (iI m9)), (2, .int (iI (bZ wo)))]) hx hb dX6_look_190 hl (by decide) rfl (fun ls hl => ?_)
                                    refine lv_iinc (v := iI (b + 1)) (lv' := [(6, .int (iI (b + 1))), (5, .int (iI ((co1 ((24 * i) + b)) + (bs3 (((25 * (b + 1)) + c9) - 1))))), (7, .int (iI ((co1 ((24 * i) + b)) + (bs3 (((25 * (b + 1)) + c9) - 1))))), (4, .int (iI c9)), (3, .int (iI i)), (0, .ref (q 0)), (1, .int (iI m9)), (2, .int (iI (bZ wo)))]) hx hb dX6_look_192 hl (k := 2) rfl (iI_add _ _) (by decide) rfl (fun ls hl => ?_)
                                    refine lv_goto (tgt := 122) hx hb dX6_look_195 (by decide) ?_
                                    exact ih_122 ((co1 ((24 * i) + b)) + (bs3 (((25 * (b + 1)) + c9) - 1))) (b + 1) (by omega) (by omega) (by rcases hl9 with w | w; (exfalso; omega); exact Or.inr ⟨w.1, by rw [mnZ_s (i := b + 1) (by omega), ← w.2.1]; (try dsimp only); rw [show b + 1 - 1 = b by omega, ← e1, ← e2]; omega, by omega⟩) (by omega) _ _ _ hP hD hS (lv_sub hl [0, 1, 3, 4, 5, 6, 7] rfl)
                        exact L_122 27 1000000 i (by omega) (by omega) (by rcases (show c9 = 0 ∨ 1 ≤ c9 by omega) with w | w; (first | (exfalso; omega) | (refine Or.inl ⟨w, ?_, rfl⟩; rw [dp_0]; first | rw [if_pos (by omega)] | rw [if_neg (by omega)])); (first | exact Or.inr ⟨w, (mnZ_0 (by omega)).symm, by omega⟩ | (exfalso; omega))) (by omega) _ _ _ hP hD hS (lv_sub hl [0, 1, 2, 3, 4, 5, 6] rfl)
                      · refine lv_iconst (v := iI (0)) hx hb dX6_look_111 rfl ?_
                        refine lv_goto (tgt := 117) hx hb dX6_look_112 (by decide) ?_
                        refine lv_istore (lv' := [(5, .int (iI 0)), (4, .int (iI c9)), (3, .int (iI i)), (0, .ref (q 0)), (1, .int (iI m9)), (2, .int (iI (bZ wo)))]) hx hb dX6_look_117 hl (by decide) rfl (fun ls hl => ?_)
                        refine lv_iload_n hx hb dX6_look_119 rfl (lv_at hl 2 rfl) ?_
                        refine lv_istore (lv' := [(6, .int (iI i)), (5, .int (iI 0)), (4, .int (iI c9)), (3, .int (iI i)), (0, .ref (q 0)), (1, .int (iI m9)), (2, .int (iI (bZ wo)))]) hx hb dX6_look_120 hl (by decide) rfl (fun ls hl => ?_)
                        have L_122 : ∀ (n : Nat) (l9 : Int) (b : Int), (h6 : i ≤ b ∧ b ≤ nK) → (hf6 : 25 - b < n) → (hl9 : (c9 = 0 ∧ l9 = dp (cw wo (tog ka bg ln ns bk)) nK m9 0 i ∧ b = i) ∨ (1 ≤ c9 ∧ l9 = mnZ (fun x => (cw wo (tog ka bg ln ns bk)) i (x - 1) + dp (cw wo (tog ka bg ln ns bk)) nK m9 (c9 - 1) x) (i + 1) (b + 1) ∧ b ≤ min nK (i + m9))) → (hb9 : 0 ≤ l9 ∧ l9 ≤ 1000000) → ∀ (H : Heap) (locs : List Loc) (ls : Array Slot), va_P D vwCl (wM q cy nK st le be te ab bl ka bg ln ns me sc pi re bk th co1 bs3 gr lo) H → va_D A (wM q cy nK st le be te ab bl ka bg ln ns me sc pi re bk th co1 bs3 gr lo) → va_S A s.heap H locs → lv_has ls 8 [(6, .int (iI b)), (5, .int (iI l9)), (4, .int (iI c9)), (3, .int (iI i)), (0, .ref (q 0)), (1, .int (iI m9)), (2, .int (iI (bZ wo)))] → W p l e ({ frames := 2, cells := 0, slots := 0, locals := 52 } : Room) s m [.ref (q 0), .int (iI m9), .int (iI (bZ wo))].toArray below meth c H locs 0 0 (MQ below (zQw D cy A (fun w8 => ∃ co2 : Int → Int, ∃ bs2 : Int → Int, w8 = wM q cy nK st le be te ab bl ka bg ln ns me sc pi re bk th co2 bs2 gr lo ∧ ((∀ a b, 0 ≤ a → a ≤ b → b < nK → b < a + m9 → co2 (24 * a + b) = (cw wo (tog ka bg ln ns bk)) a b) ∧ (∀ a c, 0 ≤ a → a ≤ nK → 0 ≤ c → c ≤ 24 → bs2 (25 * a + c) = dp (cw wo (tog ka bg ln ns bk)) nK m9 c a)))) [.ref (q 0), .int (iI m9), .int (iI (bZ wo))].toArray s 0 0 A) (F0 m 122 ls []) := by
                          intro n
                          induction n with
                          | zero =>
                            intro l9 b h6 hf6 hl9 hb9
                            exfalso; omega
                          | succ n ih_122 =>
                            intro l9 b h6 hf6 hl9 hb9 H locs ls hP hD hS hl
                            refine lv_iload hx hb dX6_look_122 (lv_at hl 0 rfl) ?_
                            refine lv_aload_n hx hb dX6_look_124 rfl (lv_at hl 4 rfl) ?_
                            refine va_get (D := D) (ci := 6) (v := .int (iI nK)) (C := RX6) (T := TX6) (N := 21) hx hb hts n_X6 hown hK hP 0 rfl rfl 1 (by decide) f_7 (fun _ h9 => h9) rfl dX6_look_125 ?_
                            refine z_icmp_ge (tgt := 198) hx hb dX6_look_128 (by decide) (by omega) (fun c_14 => ?_) (fun c_14 => ?_)
                            · refine lv_aload_n hx hb dX6_look_198 rfl (lv_at hl 4 rfl) ?_
                              refine va_get (D := D) (ci := 6) (v := .ref (q 13)) (C := RX6) (T := TX6) (N := 21) hx hb hts n_X6 hown hK hP 0 rfl rfl 18 (by decide) f_56 (fun _ h9 => h9) rfl dX6_look_199 ?_
                              refine lv_bipush (v := iI (25)) hx hb dX6_look_202 (by decide) ?_
                              refine lv_iload_n hx hb dX6_look_204 rfl (lv_at hl 3 rfl) ?_
                              refine z_imul hx hb dX6_look_205 ?_
                              refine lv_iload hx hb dX6_look_206 (lv_at hl 2 rfl) ?_
                              refine z_iadd hx hb dX6_look_208 ?_
                              refine lv_iload hx hb dX6_look_209 (lv_at hl 1 rfl) ?_
                              refine z_iast (v := l9) hx hb hK hP hD hS 13 0 rfl rfl (by omega) dX6_look_211 (fun H locs hP hD hS => ?_)
                              have hP : va_P D vwCl (wM q cy nK st le be te ab bl ka bg ln ns me sc pi re bk th co1 (uZ bs3 ((25 * i) + c9) l9) gr lo) H := hP
                              have hD : va_D A (wM q cy nK st le be te ab bl ka bg ln ns me sc pi re bk th co1 (uZ bs3 ((25 * i) + c9) l9) gr lo) := hD
                              refine lv_iinc (v := iI (c9 + 1)) (lv' := [(4, .int (iI (c9 + 1))), (6, .int (iI b)), (5, .int (iI l9)), (3, .int (iI i)), (0, .ref (q 0)), (1, .int (iI m9)), (2, .int (iI (bZ wo)))]) hx hb dX6_look_212 hl (k := 2) rfl (iI_add _ _) (by decide) rfl (fun ls hl => ?_)
                              refine lv_goto (tgt := 91) hx hb dX6_look_215 (by decide) ?_
                              exact ih_91 (c9 + 1) (uZ bs3 ((25 * i) + c9) l9) (by omega) (by omega) (fun x c g1 g2 g3 g4 => by rw [uZ_other (by omega)]; exact hq2 x c g1 g2 g3 g4) (fun c g1 g2 => by rcases (show c < c9 ∨ c = c9 by omega) with z | z; (rw [uZ_other (by omega)]; exact hq3 c g1 z); (rw [z, uZ_same]; rcases hl9 with w | w; (rw [w.1]; exact w.2.1); (rw [dp_s w.1, w.2.1, show b + 1 = min nK (i + m9) + 1 by omega]))) _ _ _ hP hD hS (lv_sub hl [0, 3, 4, 5, 6] rfl)
                            · refine lv_iload hx hb dX6_look_131 (lv_at hl 0 rfl) ?_
                              refine lv_iload_n hx hb dX6_look_133 rfl (lv_at hl 3 rfl) ?_
                              refine lv_iload_n hx hb dX6_look_134 rfl (lv_at hl 5 rfl) ?_
                              refine z_iadd hx hb dX6_look_135 ?_
                              refine z_icmp_ge (tgt := 198) hx hb dX6_look_136 (by decide) (by omega) (fun c_15 => ?_) (fun c_15 => ?_)
                              · refine lv_aload_n hx hb dX6_look_198 rfl (lv_at hl 4 rfl) ?_
                                refine va_get (D := D) (ci := 6) (v := .ref (q 13)) (C := RX6) (T := TX6) (N := 21) hx hb hts n_X6 hown hK hP 0 rfl rfl 18 (by decide) f_56 (fun _ h9 => h9) rfl dX6_look_199 ?_
                                refine lv_bipush (v := iI (25)) hx hb dX6_look_202 (by decide) ?_
                                refine lv_iload_n hx hb dX6_look_204 rfl (lv_at hl 3 rfl) ?_
                                refine z_imul hx hb dX6_look_205 ?_
                                refine lv_iload hx hb dX6_look_206 (lv_at hl 2 rfl) ?_
                                refine z_iadd hx hb dX6_look_208 ?_
                                refine lv_iload hx hb dX6_look_209 (lv_at hl 1 rfl) ?_
                                refine z_iast (v := l9) hx hb hK hP hD hS 13 0 rfl rfl (by omega) dX6_look_211 (fun H locs hP hD hS => ?_)
                                have hP : va_P D vwCl (wM q cy nK st le be te ab bl ka bg ln ns me sc pi re bk th co1 (uZ bs3 ((25 * i) + c9) l9) gr lo) H := hP
                                have hD : va_D A (wM q cy nK st le be te ab bl ka bg ln ns me sc pi re bk th co1 (uZ bs3 ((25 * i) + c9) l9) gr lo) := hD
                                refine lv_iinc (v := iI (c9 + 1)) (lv' := [(4, .int (iI (c9 + 1))), (6, .int (iI b)), (5, .int (iI l9)), (3, .int (iI i)), (0, .ref (q 0)), (1, .int (iI m9)), (2, .int (iI (bZ wo)))]) hx hb dX6_look_212 hl (k := 2) rfl (iI_add _ _) (by decide) rfl (fun ls hl => ?_)
                                refine lv_goto (tgt := 91) hx hb dX6_look_215 (by decide) ?_
                                exact ih_91 (c9 + 1) (uZ bs3 ((25 * i) + c9) l9) (by omega) (by omega) (fun x c g1 g2 g3 g4 => by rw [uZ_other (by omega)]; exact hq2 x c g1 g2 g3 g4) (fun c g1 g2 => by rcases (show c < c9 ∨ c = c9 by omega) with z | z; (rw [uZ_other (by omega)]; exact hq3 c g1 z); (rw [z, uZ_same]; rcases hl9 with w | w; (rw [w.1]; exact w.2.1); (rw [dp_s w.1, w.2.1, show b + 1 = min nK (i + m9) + 1 by omega]))) _ _ _ hP hD hS (lv_sub hl [0, 3, 4, 5, 6] rfl)
                              · refine lv_iload hx hb dX6_look_139 (lv_at hl 2 rfl) ?_
                                refine z_if_le (tgt := 198) hx hb dX6_look_141 (by decide) (by omega) (fun c_16 => ?_) (fun c_16 => ?_)
                                · refine lv_aload_n hx hb dX6_look_198 rfl (lv_at hl 4 rfl) ?_
                                  refine va_get (D := D) (ci := 6) (v := .ref (q 13)) (C := RX6) (T := TX6) (N := 21) hx hb hts n_X6 hown hK hP 0 rfl rfl 18 (by decide) f_56 (fun _ h9 => h9) rfl dX6_look_199 ?_
                                  refine lv_bipush (v := iI (25)) hx hb dX6_look_202 (by decide) ?_
                                  refine lv_iload_n hx hb dX6_look_204 rfl (lv_at hl 3 rfl) ?_
                                  refine z_imul hx hb dX6_look_205 ?_
                                  refine lv_iload hx hb dX6_look_206 (lv_at hl 2 rfl) ?_
                                  refine z_iadd hx hb dX6_look_208 ?_
                                  refine lv_iload hx hb dX6_look_209 (lv_at hl 1 rfl) ?_
                                  refine z_iast (v := l9) hx hb hK hP hD hS 13 0 rfl rfl (by omega) dX6_look_211 (fun H locs hP hD hS => ?_)
                                  have hP : va_P D vwCl (wM q cy nK st le be te ab bl ka bg ln ns me sc pi re bk th co1 (uZ bs3 ((25 * i) + c9) l9) gr lo) H := hP
                                  have hD : va_D A (wM q cy nK st le be te ab bl ka bg ln ns me sc pi re bk th co1 (uZ bs3 ((25 * i) + c9) l9) gr lo) := hD
                                  refine lv_iinc (v := iI (c9 + 1)) (lv' := [(4, .int (iI (c9 + 1))), (6, .int (iI b)), (5, .int (iI l9)), (3, .int (iI i)), (0, .ref (q 0)), (1, .int (iI m9)), (2, .int (iI (bZ wo)))]) hx hb dX6_look_212 hl (k := 2) rfl (iI_add _ _) (by decide) rfl (fun ls hl => ?_)
                                  refine lv_goto (tgt := 91) hx hb dX6_look_215 (by decide) ?_
                                  exact ih_91 (c9 + 1) (uZ bs3 ((25 * i) + c9) l9) (by omega) (by omega) (fun x c g1 g2 g3 g4 => by rw [uZ_other (by omega)]; exact hq2 x c g1 g2 g3 g4) (fun c g1 g2 => by rcases (show c < c9 ∨ c = c9 by omega) with z | z; (rw [uZ_other (by omega)]; exact hq3 c g1 z); (rw [z, uZ_same]; rcases hl9 with w | w; (rw [w.1]; exact w.2.1); (rw [dp_s w.1, w.2.1, show b + 1 = min nK (i + m9) + 1 by omega]))) _ _ _ hP hD hS (lv_sub hl [0, 3, 4, 5, 6] rfl)
                                · have e1 := hco i b (by omega) (by omega) (by omega) (by omega)
                                  have e2 := hq2 (b + 1) (c9 - 1) (by omega) (by omega) (by omega) (by omega)
                                  rw [show 25 * (b + 1) + (c9 - 1) = 25 * (b + 1) + c9 - 1 by omega] at e2
                                  have e3 := cb i b
                                  have e4 := db (c9 - 1) (b + 1)
                                  refine lv_aload_n hx hb dX6_look_144 rfl (lv_at hl 4 rfl) ?_
                                  refine va_get (D := D) (ci := 6) (v := .ref (q 12)) (C := RX6) (T := TX6) (N := 21) hx hb hts n_X6 hown hK hP 0 rfl rfl 17 (by decide) f_53 (fun _ h9 => h9) rfl dX6_look_145 ?_
                                  refine lv_bipush (v := iI (24)) hx hb dX6_look_148 (by decide) ?_
                                  refine lv_iload_n hx hb dX6_look_150 rfl (lv_at hl 3 rfl) ?_
                                  refine z_imul hx hb dX6_look_151 ?_
                                  refine lv_iload hx hb dX6_look_152 (lv_at hl 0 rfl) ?_
                                  refine z_iadd hx hb dX6_look_154 ?_
                                  refine z_iald hx hb hK hP 12 0 rfl rfl (by omega) dX6_look_155 ?_
                                  refine lv_aload_n hx hb dX6_look_156 rfl (lv_at hl 4 rfl) ?_
                                  refine va_get (D := D) (ci := 6) (v := .ref (q 13)) (C := RX6) (T := TX6) (N := 21) hx hb hts n_X6 hown hK hP 0 rfl rfl 18 (by decide) f_56 (fun _ h9 => h9) rfl dX6_look_157 ?_
                                  refine lv_bipush (v := iI (25)) hx hb dX6_look_160 (by decide) ?_
                                  refine lv_iload hx hb dX6_look_162 (lv_at hl 0 rfl) ?_
                                  refine lv_iconst (v := iI (1)) hx hb dX6_look_164 rfl ?_
                                  refine z_iadd hx hb dX6_look_165 ?_
                                  refine z_imul hx hb dX6_look_166 ?_
                                  refine lv_iload hx hb dX6_look_167 (lv_at hl 2 rfl) ?_
                                  refine z_iadd hx hb dX6_look_169 ?_
                                  refine lv_iconst (v := iI (1)) hx hb dX6_look_170 rfl ?_
                                  refine z_isub hx hb dX6_look_171 ?_
                                  refine z_iald hx hb hK hP 13 0 rfl rfl (by omega) dX6_look_172 ?_
                                  refine z_iadd hx hb dX6_look_173 ?_
                                  refine lv_istore (lv' := [(7, .int (iI ((co1 ((24 * i) + b)) + (bs3 (((25 * (b + 1)) + c9) - 1))))), (6, .int (iI b)), (5, .int (iI l9)), (4, .int (iI c9)), (3, .int (iI i)), (0, .ref (q 0)), (1, .int (iI m9)), (2, .int (iI (bZ wo)))]) hx hb dX6_look_174 hl (by decide) rfl (fun ls hl => ?_)
                                  refine lv_iload hx hb dX6_look_176 (lv_at hl 0 rfl) ?_
                                  refine lv_iload hx hb dX6_look_178 (lv_at hl 2 rfl) ?_
                                  refine z_icmp_ge (tgt := 188) hx hb dX6_look_180 (by decide) (by omega) (fun c_17 => ?_) (fun c_17 => ?_)
                                  · refine lv_iload hx hb dX6_look_188 (lv_at hl 2 rfl) ?_
                                    refine lv_istore (lv' := [(5, .int (iI l9)), (7, .int (iI ((co1 ((24 * i) + b)) + (bs3 (((25 * (b + 1)) + c9) - 1))))), (6, .int (iI b)), (4, .int (iI c9)), (3, .int (iI i)), (0, .ref (q 0)), (1, .int (iI m9)), (2, .int (iI (bZ wo)))]) hx hb dX6_look_190 hl (by decide) rfl (fun ls hl => ?_)
                                    refine lv_iinc (v := iI (b + 1)) (lv' := [(6, .int (iI (b + 1))), (5, .int (iI l9)), (7, .int (iI ((co1 ((24 * i) + b)) + (bs3 (((25 * (b + 1)) + c9) - 1))))), (4, .int (iI c9)), (3, .int (iI i)), (0, .ref (q 0)), (1, .int (iI m9)), (2, .int (iI (bZ wo)))]) hx hb dX6_look_192 hl (k := 2) rfl (iI_add _ _) (by decide) rfl (fun ls hl => ?_)
                                    refine lv_goto (tgt := 122) hx hb dX6_look_195 (by decide) ?_
                                    exact ih_122 l9 (b + 1) (by omega) (by omega) (by rcases hl9 with w | w; (exfalso; omega); exact Or.inr ⟨w.1, by rw [mnZ_s (i := b + 1) (by omega), ← w.2.1]; (try dsimp only); rw [show b + 1 - 1 = b by omega, ← e1, ← e2]; omega, by omega⟩) (by omega) _ _ _ hP hD hS (lv_sub hl [0, 1, 3, 4, 5, 6, 7] rfl)
                                  · refine lv_iload hx hb dX6_look_183 (lv_at hl 0 rfl) ?_
                                    refine lv_goto (tgt := 190) hx hb dX6_look_185 (by decide) ?_
                                    refine lv_istore (lv' := [(5, .int (iI ((co1 ((24 * i) + b)) + (bs3 (((25 * (b + 1)) + c9) - 1))))), (7, .int (iI ((co1 ((24 * i) + b)) + (bs3 (((25 * (b + 1)) + c9) - 1))))), (6, .int (iI b)), (4, .int (iI c9)), (3, .int (iI i)), (0, .ref (q 0)), (1, .int (iI m9)), (2, .int (iI (bZ wo)))]) hx hb dX6_look_190 hl (by decide) rfl (fun ls hl => ?_)
                                    refine lv_iinc (v := iI (b + 1)) (lv' := [(6, .int (iI (b + 1))), (5, .int (iI ((co1 ((24 * i) + b)) + (bs3 (((25 * (b + 1)) + c9) - 1))))), (7, .int (iI ((co1 ((24 * i) + b)) + (bs3 (((25 * (b + 1)) + c9) - 1))))), (4, .int (iI c9)), (3, .int (iI i)), (0, .ref (q 0)), (1, .int (iI m9)), (2, .int (iI (bZ wo)))]) hx hb dX6_look_192 hl (k := 2) rfl (iI_add _ _) (by decide) rfl (fun ls hl => ?_)
                                    refine lv_goto (tgt := 122) hx hb dX6_look_195 (by decide) ?_
                                    exact ih_122 ((co1 ((24 * i) + b)) + (bs3 (((25 * (b + 1)) + c9) - 1))) (b + 1) (by omega) (by omega) (by rcases hl9 with w | w; (exfalso; omega); exact Or.inr ⟨w.1, by rw [mnZ_s (i := b + 1) (by omega), ← w.2.1]; (try dsimp only); rw [show b + 1 - 1 = b by omega, ← e1, ← e2]; omega, by omega⟩) (by omega) _ _ _ hP hD hS (lv_sub hl [0, 1, 3, 4, 5, 6, 7] rfl)
                        exact L_122 27 0 i (by omega) (by omega) (by rcases (show c9 = 0 ∨ 1 ≤ c9 by omega) with w | w; (first | (exfalso; omega) | (refine Or.inl ⟨w, ?_, rfl⟩; rw [dp_0]; first | rw [if_pos (by omega)] | rw [if_neg (by omega)])); (first | exact Or.inr ⟨w, (mnZ_0 (by omega)).symm, by omega⟩ | (exfalso; omega))) (by omega) _ _ _ hP hD hS (lv_sub hl [0, 1, 2, 3, 4, 5, 6] rfl)
              exact L_91 26 0 bs1 (by omega) (by omega) hq (fun c _ _ => by omega) _ _ _ hP hD hS (lv_sub hl [0, 1, 2, 3, 4] rfl)
        exact L_84 26 nK bs (by omega) (by omega) (fun x c _ _ => by omega) _ _ _ hP hD hS (lv_sub hl [0, 1, 2, 3] rfl)
      · refine lv_iload_n hx hb dX6_look_10 rfl (lv_at hl 0 rfl) ?_
        refine lv_istore (lv' := [(4, .int (iI a)), (3, .int (iI a)), (0, .ref (q 0)), (1, .int (iI m9)), (2, .int (iI (bZ wo)))]) hx hb dX6_look_11 hl (by decide) rfl (fun ls hl => ?_)
        have L_13 : ∀ (n : Nat) (b : Int) (co3 : Int → Int), (h2 : a ≤ b ∧ b ≤ min nK (a + m9)) → (hf2 : 25 - b < n) → (hr2 : ∀ x y, 0 ≤ x → x < a → x ≤ y → y < nK → y < x + m9 → co3 (24 * x + y) = (cw wo (tog ka bg ln ns bk)) x y) → (hr3 : ∀ y, a ≤ y → y < b → co3 (24 * a + y) = (cw wo (tog ka bg ln ns bk)) a y) → ∀ (H : Heap) (locs : List Loc) (ls : Array Slot), va_P D vwCl (wM q cy nK st le be te ab bl ka bg ln ns me sc pi re bk th co3 bs gr lo) H → va_D A (wM q cy nK st le be te ab bl ka bg ln ns me sc pi re bk th co3 bs gr lo) → va_S A s.heap H locs → lv_has ls 8 [(4, .int (iI b)), (3, .int (iI a)), (0, .ref (q 0)), (1, .int (iI m9)), (2, .int (iI (bZ wo)))] → W p l e ({ frames := 2, cells := 0, slots := 0, locals := 52 } : Room) s m [.ref (q 0), .int (iI m9), .int (iI (bZ wo))].toArray below meth c H locs 0 0 (MQ below (zQw D cy A (fun w8 => ∃ co2 : Int → Int, ∃ bs2 : Int → Int, w8 = wM q cy nK st le be te ab bl ka bg ln ns me sc pi re bk th co2 bs2 gr lo ∧ ((∀ a b, 0 ≤ a → a ≤ b → b < nK → b < a + m9 → co2 (24 * a + b) = (cw wo (tog ka bg ln ns bk)) a b) ∧ (∀ a c, 0 ≤ a → a ≤ nK → 0 ≤ c → c ≤ 24 → bs2 (25 * a + c) = dp (cw wo (tog ka bg ln ns bk)) nK m9 c a)))) [.ref (q 0), .int (iI m9), .int (iI (bZ wo))].toArray s 0 0 A) (F0 m 13 ls []) := by
          intro n
          induction n with
          | zero =>
            intro b co3 h2 hf2 hr2 hr3
            exfalso; omega
          | succ n ih_13 =>
            intro b co3 h2 hf2 hr2 hr3 H locs ls hP hD hS hl
            refine lv_iload hx hb dX6_look_13 (lv_at hl 0 rfl) ?_
            refine lv_aload_n hx hb dX6_look_15 rfl (lv_at hl 2 rfl) ?_
            refine va_get (D := D) (ci := 6) (v := .int (iI nK)) (C := RX6) (T := TX6) (N := 21) hx hb hts n_X6 hown hK hP 0 rfl rfl 1 (by decide) f_7 (fun _ h9 => h9) rfl dX6_look_16 ?_
            refine z_icmp_ge (tgt := 73) hx hb dX6_look_19 (by decide) (by omega) (fun c_18 => ?_) (fun c_18 => ?_)
            · refine lv_iinc (v := iI (a + 1)) (lv' := [(3, .int (iI (a + 1))), (4, .int (iI b)), (0, .ref (q 0)), (1, .int (iI m9)), (2, .int (iI (bZ wo)))]) hx hb dX6_look_73 hl (k := 1) rfl (iI_add _ _) (by decide) rfl (fun ls hl => ?_)
              refine lv_goto (tgt := 2) hx hb dX6_look_76 (by decide) ?_
              exact ih_2 (a + 1) co3 (by omega) (by omega) (fun x y g1 g2 g3 g4 g5 => by rcases (show x < a ∨ x = a by omega) with z | z; (exact hr2 x y g1 z g3 g4 g5); (rw [z]; exact hr3 y (by omega) (by omega))) _ _ _ hP hD hS (lv_sub hl [0, 2, 3, 4] rfl)
            · refine lv_iload hx hb dX6_look_22 (lv_at hl 0 rfl) ?_
              refine lv_iload_n hx hb dX6_look_24 rfl (lv_at hl 1 rfl) ?_
              refine lv_iload_n hx hb dX6_look_25 rfl (lv_at hl 3 rfl) ?_
              refine z_iadd hx hb dX6_look_26 ?_
              refine z_icmp_ge (tgt := 73) hx hb dX6_look_27 (by decide) (by omega) (fun c_19 => ?_) (fun c_19 => ?_)
              · refine lv_iinc (v := iI (a + 1)) (lv' := [(3, .int (iI (a + 1))), (4, .int (iI b)), (0, .ref (q 0)), (1, .int (iI m9)), (2, .int (iI (bZ wo)))]) hx hb dX6_look_73 hl (k := 1) rfl (iI_add _ _) (by decide) rfl (fun ls hl => ?_)
                refine lv_goto (tgt := 2) hx hb dX6_look_76 (by decide) ?_
                exact ih_2 (a + 1) co3 (by omega) (by omega) (fun x y g1 g2 g3 g4 g5 => by rcases (show x < a ∨ x = a by omega) with z | z; (exact hr2 x y g1 z g3 g4 g5); (rw [z]; exact hr3 y (by omega) (by omega))) _ _ _ hP hD hS (lv_sub hl [0, 2, 3, 4] rfl)
              · refine lv_aload_n hx hb dX6_look_30 rfl (lv_at hl 2 rfl) ?_
                refine lv_iload_n hx hb dX6_look_31 rfl (lv_at hl 1 rfl) ?_
                refine lv_iload hx hb dX6_look_32 (lv_at hl 0 rfl) ?_
                refine z_callVi (ci := 6) (q0 := 0) (As := [.int (iI a), .int (iI b)]) (rest := []) X hK hP hD hA hS hl.1 gX6_look_X6_togetherOf rfl ⟨rfl, rfl⟩ hd_X6_togetherOf ⟨Nat.le_of_ble_eq_true rfl, Nat.le_of_ble_eq_true rfl⟩ rfl rfl rfl (Nat.le_of_ble_eq_true rfl) ⟨Nat.zero_le _, Nat.zero_le _⟩ rfl dX6_look_34 (c_X6_togetherOf I a b (by omega)) (fun H locs hP hD hS => ?_)
                have tb8 := tb9 a b
                refine lv_istore (lv' := [(5, .int (iI ((tog ka bg ln ns bk) a b))), (4, .int (iI b)), (3, .int (iI a)), (0, .ref (q 0)), (1, .int (iI m9)), (2, .int (iI (bZ wo)))]) hx hb dX6_look_37 hl (by decide) rfl (fun ls hl => ?_)
                refine lv_aload_n hx hb dX6_look_39 rfl (lv_at hl 3 rfl) ?_
                refine va_get (D := D) (ci := 6) (v := .ref (q 12)) (C := RX6) (T := TX6) (N := 21) hx hb hts n_X6 hown hK hP 0 rfl rfl 17 (by decide) f_53 (fun _ h9 => h9) rfl dX6_look_40 ?_
                refine lv_bipush (v := iI (24)) hx hb dX6_look_43 (by decide) ?_
                refine lv_iload_n hx hb dX6_look_45 rfl (lv_at hl 2 rfl) ?_
                refine z_imul hx hb dX6_look_46 ?_
                refine lv_iload hx hb dX6_look_47 (lv_at hl 1 rfl) ?_
                refine z_iadd hx hb dX6_look_49 ?_
                refine lv_iload_n hx hb dX6_look_50 rfl (lv_at hl 5 rfl) ?_
                refine z_ifb_eq (tgt := 64) hx hb dX6_look_51 (by decide) (fun c_20 => ?_) (fun c_20 => ?_)
                · refine lv_iload hx hb dX6_look_64 (lv_at hl 0 rfl) ?_
                  refine z_iast (v := (tog ka bg ln ns bk) a b) hx hb hK hP hD hS 12 0 rfl rfl (by omega) dX6_look_66 (fun H locs hP hD hS => ?_)
                  have hP : va_P D vwCl (wM q cy nK st le be te ab bl ka bg ln ns me sc pi re bk th (uZ co3 ((24 * a) + b) ((tog ka bg ln ns bk) a b)) bs gr lo) H := hP
                  have hD : va_D A (wM q cy nK st le be te ab bl ka bg ln ns me sc pi re bk th (uZ co3 ((24 * a) + b) ((tog ka bg ln ns bk) a b)) bs gr lo) := hD
                  refine lv_iinc (v := iI (b + 1)) (lv' := [(4, .int (iI (b + 1))), (5, .int (iI ((tog ka bg ln ns bk) a b))), (3, .int (iI a)), (0, .ref (q 0)), (1, .int (iI m9)), (2, .int (iI (bZ wo)))]) hx hb dX6_look_67 hl (k := 1) rfl (iI_add _ _) (by decide) rfl (fun ls hl => ?_)
                  refine lv_goto (tgt := 13) hx hb dX6_look_70 (by decide) ?_
                  exact ih_13 (b + 1) (uZ co3 ((24 * a) + b) ((tog ka bg ln ns bk) a b)) (by omega) (by omega) (fun x y g1 g2 g3 g4 g5 => by rw [uZ_other (by omega)]; exact hr2 x y g1 g2 g3 g4 g5) (fun y g1 g2 => by rcases (show y < b ∨ y = b by omega) with z | z; (rw [uZ_other (by omega)]; exact hr3 y g1 z); (rw [z, uZ_same]; first | exact cw_f (by assumption) | exact cw_t (by assumption) (by assumption) | exact cw_z (by assumption))) _ _ _ hP hD hS (lv_sub hl [0, 2, 3, 4, 5] rfl)
                · refine lv_iload hx hb dX6_look_54 (lv_at hl 0 rfl) ?_
                  refine z_if_le (tgt := 64) hx hb dX6_look_56 (by decide) (by omega) (fun c_21 => ?_) (fun c_21 => ?_)
                  · refine lv_iload hx hb dX6_look_64 (lv_at hl 0 rfl) ?_
                    refine z_iast (v := (tog ka bg ln ns bk) a b) hx hb hK hP hD hS 12 0 rfl rfl (by omega) dX6_look_66 (fun H locs hP hD hS => ?_)
                    have hP : va_P D vwCl (wM q cy nK st le be te ab bl ka bg ln ns me sc pi re bk th (uZ co3 ((24 * a) + b) ((tog ka bg ln ns bk) a b)) bs gr lo) H := hP
                    have hD : va_D A (wM q cy nK st le be te ab bl ka bg ln ns me sc pi re bk th (uZ co3 ((24 * a) + b) ((tog ka bg ln ns bk) a b)) bs gr lo) := hD
                    refine lv_iinc (v := iI (b + 1)) (lv' := [(4, .int (iI (b + 1))), (5, .int (iI ((tog ka bg ln ns bk) a b))), (3, .int (iI a)), (0, .ref (q 0)), (1, .int (iI m9)), (2, .int (iI (bZ wo)))]) hx hb dX6_look_67 hl (k := 1) rfl (iI_add _ _) (by decide) rfl (fun ls hl => ?_)
                    refine lv_goto (tgt := 13) hx hb dX6_look_70 (by decide) ?_
                    exact ih_13 (b + 1) (uZ co3 ((24 * a) + b) ((tog ka bg ln ns bk) a b)) (by omega) (by omega) (fun x y g1 g2 g3 g4 g5 => by rw [uZ_other (by omega)]; exact hr2 x y g1 g2 g3 g4 g5) (fun y g1 g2 => by rcases (show y < b ∨ y = b by omega) with z | z; (rw [uZ_other (by omega)]; exact hr3 y g1 z); (rw [z, uZ_same]; first | exact cw_f (by assumption) | exact cw_t (by assumption) (by assumption) | exact cw_z (by assumption))) _ _ _ hP hD hS (lv_sub hl [0, 2, 3, 4, 5] rfl)
                  · refine z_ldc (n := 1000000) hx hb hown k_174 (by decide) dX6_look_59 ?_
                    refine lv_goto (tgt := 66) hx hb dX6_look_61 (by decide) ?_
                    refine z_iast (v := 1000000) hx hb hK hP hD hS 12 0 rfl rfl (by omega) dX6_look_66 (fun H locs hP hD hS => ?_)
                    have hP : va_P D vwCl (wM q cy nK st le be te ab bl ka bg ln ns me sc pi re bk th (uZ co3 ((24 * a) + b) 1000000) bs gr lo) H := hP
                    have hD : va_D A (wM q cy nK st le be te ab bl ka bg ln ns me sc pi re bk th (uZ co3 ((24 * a) + b) 1000000) bs gr lo) := hD
                    refine lv_iinc (v := iI (b + 1)) (lv' := [(4, .int (iI (b + 1))), (5, .int (iI ((tog ka bg ln ns bk) a b))), (3, .int (iI a)), (0, .ref (q 0)), (1, .int (iI m9)), (2, .int (iI (bZ wo)))]) hx hb dX6_look_67 hl (k := 1) rfl (iI_add _ _) (by decide) rfl (fun ls hl => ?_)
                    refine lv_goto (tgt := 13) hx hb dX6_look_70 (by decide) ?_
                    exact ih_13 (b + 1) (uZ co3 ((24 * a) + b) 1000000) (by omega) (by omega) (fun x y g1 g2 g3 g4 g5 => by rw [uZ_other (by omega)]; exact hr2 x y g1 g2 g3 g4 g5) (fun y g1 g2 => by rcases (show y < b ∨ y = b by omega) with z | z; (rw [uZ_other (by omega)]; exact hr3 y g1 z); (rw [z, uZ_same]; first | exact cw_f (by assumption) | exact cw_t (by assumption) (by assumption) | exact cw_z (by assumption))) _ _ _ hP hD hS (lv_sub hl [0, 2, 3, 4, 5] rfl)
        exact L_13 27 a co1 (by omega) (by omega) hr (fun y _ _ => by omega) _ _ _ hP hD hS (lv_sub hl [0, 1, 2, 3, 4] rfl)
  exact L_2 25 0 co (by omega) (by omega) (fun x y _ _ _ => by omega) _ _ _ hP hD hS (lv_sub hl [0, 1, 2, 3] rfl)

theorem hd_X6_badSharing : yX6_badSharing.cls ≠ "java/lang/invoke/MethodHandle" ∧ yX6_badSharing.cls ≠ "java/lang/invoke/VarHandle" ∧ (parseMethodDescriptor yX6_badSharing.desc).map (fun d => d.parameters.length) = some 2 := by decide +kernel
set_option maxHeartbeats 4000000 in
set_option maxRecDepth 100000 in
theorem c_X6_badSharing (m9 : Int) (s9 : Int) (h : -2147483648 ≤ m9 ∧ m9 ≤ 2147483647 ∧ -2147483648 ≤ s9 ∧ s9 ≤ 2147483647) : MI l D cy yX6_badSharing wsX6_badSharing ({ frames := 1, cells := 0, slots := 0, locals := 25 } : Room) [.int (iI m9), .int (iI s9)] (wM q cy nK st le be te ab bl ka bg ln ns me sc pi re bk th co bs gr lo) (bP (¬ ((1 ≤ m9 ∧ m9 ≤ 6) ∧ (0 ≤ s9 ∧ s9 ≤ 24)))) (wM q cy nK st le be te ab bl ka bg ln ns me sc pi re bk th co bs gr lo) := by
  refine MI.ofW (cc := cX6_badSharing) (maxL := 2) (ret := (some .boolean)) (by decide) rfl (Nat.le_of_ble_eq_true rfl) ?_
  intro p e s m below meth c A ls X hK hP hD hA hS hl
  obtain ⟨hx, hb, hml, hr, hts, hown, hlocks⟩ := id X
  have hl : lv_has ls 2 [(0, .int (iI m9)), (1, .int (iI s9))] := hl
  have K_182 := hts (Cond.constantLong RX6 182 (6)) (by decide +kernel)
  have K_76 := hts (Cond.constantLong RX6 76 (24)) (by decide +kernel)
  refine lv_iload_n hx hb dX6_badSharing_0 rfl (lv_at hl 0 rfl) ?_
  refine z_i2l hx hb dX6_badSharing_1 (by omega) ?_
  refine lv_lconst (v := lI (1)) hx hb dX6_badSharing_2 (by decide) ?_
  refine z_ldc2 (n := 6) hx hb hown K_182 (by decide) dX6_badSharing_3 ?_
  refine z_callSi (As := [.long (lI m9), .long (lI 1), .long (lI 6)]) (rest := []) X hK hP hD hA hS hl.1 gX6_badSharing_X6_in rfl ⟨rfl, rfl⟩ hd_X6_in ⟨Nat.le_of_ble_eq_true rfl, Nat.le_of_ble_eq_true rfl⟩ rfl (Nat.le_of_ble_eq_true rfl) ⟨Nat.zero_le _, Nat.zero_le _⟩ rfl dX6_badSharing_6 (c_X6_in m9 1 6 (by omega)) (fun H locs hP hD hS => ?_)
  refine z_ifp_eq (tgt := 24) hx hb dX6_badSharing_9 (by decide) (fun c_1 => ?_) (fun c_1 => ?_)
  · refine lv_iconst (v := iI (1)) hx hb dX6_badSharing_24 rfl ?_
    refine lv_goto (tgt := 29) hx hb dX6_badSharing_25 (by decide) ?_
    exact z_pret1 X hK hP hD hS dX6_badSharing_29 (by first | rfl | omega | grind)
  · refine lv_iload_n hx hb dX6_badSharing_12 rfl (lv_at hl 1 rfl) ?_
    refine z_i2l hx hb dX6_badSharing_13 (by omega) ?_
    refine lv_lconst (v := lI (0)) hx hb dX6_badSharing_14 (by decide) ?_
    refine z_ldc2 (n := 24) hx hb hown K_76 (by decide) dX6_badSharing_15 ?_
    refine z_callSi (As := [.long (lI s9), .long (lI 0), .long (lI 24)]) (rest := []) X hK hP hD hA hS hl.1 gX6_badSharing_X6_in rfl ⟨rfl, rfl⟩ hd_X6_in ⟨Nat.le_of_ble_eq_true rfl, Nat.le_of_ble_eq_true rfl⟩ rfl (Nat.le_of_ble_eq_true rfl) ⟨Nat.zero_le _, Nat.zero_le _⟩ rfl dX6_badSharing_18 (c_X6_in s9 0 24 (by omega)) (fun H locs hP hD hS => ?_)
    refine z_ifp_ne (tgt := 28) hx hb dX6_badSharing_21 (by decide) (fun c_2 => ?_) (fun c_2 => ?_)
    · refine lv_iconst (v := iI (0)) hx hb dX6_badSharing_28 rfl ?_
      exact z_pret0 X hK hP hD hS dX6_badSharing_29 (by first | rfl | omega | grind)
    · refine lv_iconst (v := iI (1)) hx hb dX6_badSharing_24 rfl ?_
      refine lv_goto (tgt := 29) hx hb dX6_badSharing_25 (by decide) ?_
      exact z_pret1 X hK hP hD hS dX6_badSharing_29 (by first | rfl | omega | grind)
