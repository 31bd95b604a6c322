variable {l : Launch} {D : va_G} {cy : ClassId} {q : Nat → Nat} {nK sc pi re bk ss sm pf mf th lo : Int} {st le be te ab bl ka bg ln ns me pa lz go co bs gr : Int → Int}
theorem hd_X6_shareBest : yX6_shareBest.cls = RX6 ∧ yX6_shareBest.cls ≠ "java/lang/invoke/MethodHandle" ∧ yX6_shareBest.cls ≠ "java/lang/invoke/VarHandle" ∧ (parseMethodDescriptor yX6_shareBest.desc).map (fun d => d.parameters.length) = some 2 := by decide +kernel
set_option maxHeartbeats 4000000 in
set_option maxRecDepth 100000 in
theorem c_X6_shareBest_z (I : okS nK st le be te ab bl ka bg ln ns me sc pi re bk) (m9 : Int) (s9 : Int) (h : (1 ≤ m9 ∧ m9 ≤ 6) ∧ (0 ≤ s9 ∧ s9 ≤ 24)) (hz : s9 = 0) : MR l D cy yX6_shareBest wsX6_shareBest ({ frames := 3, cells := 0, slots := 0, locals := 79 } : Room) [.ref (q 0), .int (iI m9), .int (iI s9)] (wM q cy nK st le be te ab bl ka bg ln ns me sc pi re bk th co bs gr lo) (fun r8 w8 => ∃ co2 : Int → Int, ∃ bs2 : Int → Int, ∃ gr2 : Int → Int, ∃ lo2 : Int, w8 = wM q cy nK st le be te ab bl ka bg ln ns me sc pi re bk th co2 bs2 gr2 lo2 ∧ r8 = stF (tog ka bg ln ns bk) nK m9 s9 ∧ ((s9 ≠ 0 → stF (tog ka bg ln ns bk) nK m9 s9 ≠ -100009 → lo2 = dp (tog ka bg ln ns bk) nK m9 (stF (tog ka bg ln ns bk) nK m9 s9) 0) ∧ (stF (tog ka bg ln ns bk) nK m9 s9 ≠ -100009 → ∀ k, 0 ≤ k → k < nK → gr2 k = gF (tog ka bg ln ns bk) nK m9 (stF (tog ka bg ln ns bk) nK m9 s9) k))) := by
  refine MR.ofW (cc := cX6_shareBest) (maxL := 9) (ret := (some .int)) (by decide) rfl (Nat.le_of_ble_eq_true rfl) ?_
  intro p e s m below meth c A ls X hK hP hD hA hS hl
  obtain ⟨hx, hb, hml, hr, hts, hown, hlocks⟩ := id X
  have hl : lv_has ls 9 [(0, .ref (q 0)), (1, .int (iI m9)), (2, .int (iI s9))] := hl
  have k_62 := hts (Cond.constant RX6 62 (-100009)) (by decide +kernel)
  have f_56 := hts (Cond.fieldLink RX6 56 "TwoKeysModel" "best" "[I") (by decide +kernel)
  have f_179 := hts (Cond.fieldLink RX6 179 "TwoKeysModel" "leastOf" "I") (by decide +kernel)
  have f_7 := hts (Cond.fieldLink RX6 7 "TwoKeysModel" "keys" "I") (by decide +kernel)
  have f_59 := hts (Cond.fieldLink RX6 59 "TwoKeysModel" "groups" "[I") (by decide +kernel)
  have f_53 := hts (Cond.fieldLink RX6 53 "TwoKeysModel" "cost" "[I") (by decide +kernel)
  have k_174 := hts (Cond.constant RX6 174 (1000000)) (by decide +kernel)
  have n_X6 : ∀ w ∈ u_ws RX6 TX6 21, w ∈ wsX6_shareBest := by decide +kernel
  have iK := I.nK
  have tb9 : ∀ x y, 0 ≤ (tog ka bg ln ns bk) x y ∧ (tog ka bg ln ns bk) x y ≤ 6400 := fun x y => tog_b I.ns
  have tP : ∀ x y, 0 ≤ (tog ka bg ln ns bk) x y := fun x y => (tog_b I.ns).1
  have tO : ∀ x, (tog ka bg ln ns bk) x x = 0 := fun x => tog_one
  have hP0 : ∀ x y, 0 ≤ (cw true (tog ka bg ln ns bk)) x y := fun x y => (cw_b (wo := true) tb9 x y).1
  have cb : ∀ x y, 0 ≤ (cw true (tog ka bg ln ns bk)) x y ∧ (cw true (tog ka bg ln ns bk)) x y ≤ 1000000 := cw_b (wo := true) tb9
  have db : ∀ t a, 0 ≤ dp (cw true (tog ka bg ln ns bk)) nK m9 t a ∧ dp (cw true (tog ka bg ln ns bk)) nK m9 t a ≤ 1000000 := fun t a => dp_b hP0
  refine lv_iload_n hx hb dX6_shareBest_0 rfl (lv_at hl 2 rfl) ?_
  refine z_if_ne (tgt := 8) hx hb dX6_shareBest_1 (by decide) (by omega) (fun c_1 => ?_) (fun c_1 => ?_)
  · exact absurd c_1 (by omega)
  · refine lv_iconst (v := iI (1)) hx hb dX6_shareBest_4 rfl ?_
    refine lv_goto (tgt := 9) hx hb dX6_shareBest_5 (by decide) ?_
    refine lv_istore_n (lv' := [(3, .int (iI 1)), (0, .ref (q 0)), (1, .int (iI m9)), (2, .int (iI s9))]) hx hb dX6_shareBest_9 rfl hl (by decide) rfl (fun ls hl => ?_)
    refine lv_aload_n hx hb dX6_shareBest_10 rfl (lv_at hl 1 rfl) ?_
    refine lv_iload_n hx hb dX6_shareBest_11 rfl (lv_at hl 2 rfl) ?_
    refine lv_iload_n hx hb dX6_shareBest_12 rfl (lv_at hl 0 rfl) ?_
    refine z_callVw (ci := 6) (q0 := 0) (As := [.int (iI m9), .int (iI 1)]) (rest := []) X hK hP hD hA hS hl.1 gX6_shareBest_X6_look rfl ⟨rfl, rfl⟩ hd_X6_look ⟨Nat.le_of_ble_eq_true rfl, Nat.le_of_ble_eq_true rfl⟩ rfl rfl rfl (Nat.le_of_ble_eq_true rfl) ⟨Nat.zero_le _, Nat.zero_le _⟩ rfl dX6_shareBest_13 (c_X6_look I m9 true (by omega)) (fun w8 H locs hΨ hP hD hS => ?_)
    obtain ⟨co2_2, bs2_2, rfl, hq_2⟩ := hΨ
    have hq9 := hq_2
    have hb0 : ∀ c, 0 ≤ c → c ≤ 24 → bs2_2 c = dp (cw true (tog ka bg ln ns bk)) nK m9 c 0 := fun c g1 g2 => by have z := hq9.2 0 c (by omega) (by omega) g1 g2; rw [show 25 * 0 + c = c by omega] at z; exact z
    refine z_ldc (n := -100009) hx hb hown k_62 (by decide) dX6_shareBest_16 ?_
    refine lv_istore (lv' := [(4, .int (iI (-100009))), (3, .int (iI 1)), (0, .ref (q 0)), (1, .int (iI m9)), (2, .int (iI s9))]) hx hb dX6_shareBest_18 hl (by decide) rfl (fun ls hl => ?_)
    refine lv_iconst (v := iI (1)) hx hb dX6_shareBest_20 rfl ?_
    refine lv_istore (lv' := [(5, .int (iI 1)), (4, .int (iI (-100009))), (3, .int (iI 1)), (0, .ref (q 0)), (1, .int (iI m9)), (2, .int (iI s9))]) hx hb dX6_shareBest_21 hl (by decide) rfl (fun ls hl => ?_)
    have L_23 : ∀ (n : Nat) (mn : Int) (c9 : Int), (h0 : 1 ≤ c9 ∧ c9 ≤ 24 + 1) → (hf : 24 + 1 - c9 < n) → (hr : ∃ v, bsI (fun c => dp (cw true (tog ka bg ln ns bk)) nK m9 c 0) c9 mn v) → ∀ (H : Heap) (locs : List Loc) (ls : Array Slot), va_P D vwCl (wM q cy nK st le be te ab bl ka bg ln ns me sc pi re bk th co2_2 bs2_2 gr lo) H → va_D A (wM q cy nK st le be te ab bl ka bg ln ns me sc pi re bk th co2_2 bs2_2 gr lo) → va_S A s.heap H locs → lv_has ls 9 [(5, .int (iI c9)), (4, .int (iI mn)), (3, .int (iI 1)), (0, .ref (q 0)), (1, .int (iI m9)), (2, .int (iI s9))] → W p l e ({ frames := 3, cells := 0, slots := 0, locals := 79 } : Room) s m [.ref (q 0), .int (iI m9), .int (iI s9)].toArray below meth c H locs 0 0 (MQ below (zQr D cy A (fun r8 w8 => ∃ co2 : Int → Int, ∃ bs2 : Int → Int, ∃ gr2 : Int → Int, ∃ lo2 : Int, w8 = wM q cy nK st le be te ab bl ka bg ln ns me sc pi re bk th co2 bs2 gr2 lo2 ∧ r8 = stF (tog ka bg ln ns bk) nK m9 s9 ∧ ((s9 ≠ 0 → stF (tog ka bg ln ns bk) nK m9 s9 ≠ -100009 → lo2 = dp (tog ka bg ln ns bk) nK m9 (stF (tog ka bg ln ns bk) nK m9 s9) 0) ∧ (stF (tog ka bg ln ns bk) nK m9 s9 ≠ -100009 → ∀ k, 0 ≤ k → k < nK → gr2 k = gF (tog ka bg ln ns bk) nK m9 (stF (tog ka bg ln ns bk) nK m9 s9) k)))) [.ref (q 0), .int (iI m9), .int (iI s9)].toArray s 0 0 A) (F0 m 23 ls []) := by
      intro n
      induction n with
      | zero =>
        intro mn c9 h0 hf hr
        exfalso; omega
      | succ n ih_23 =>
        intro mn c9 h0 hf hr H locs ls hP hD hS hl
        have mb := bm_b hr
        have d8 := db mn 0
        have d7 := db c9 0
        refine lv_iload hx hb dX6_shareBest_23 (lv_at hl 0 rfl) ?_
        refine lv_iload_n hx hb dX6_shareBest_25 rfl (lv_at hl 2 rfl) ?_
        refine z_if_eq (tgt := 34) hx hb dX6_shareBest_26 (by decide) (by omega) (fun c_3 => ?_) (fun c_3 => ?_)
        · exact absurd c_3 (by decide)
        · refine lv_bipush (v := iI (24)) hx hb dX6_shareBest_29 (by decide) ?_
          refine lv_goto (tgt := 35) hx hb dX6_shareBest_31 (by decide) ?_
          refine z_icmp_gt (tgt := 89) hx hb dX6_shareBest_35 (by decide) (by omega) (fun c_4 => ?_) (fun c_4 => ?_)
          · have eS : mn = bsF (fun c => dp (cw true (tog ka bg ln ns bk)) nK m9 c 0) 24 := by rw [show c9 = 24 + 1 by omega] at hr; exact bm_end hr
            have cE : (cw true (tog ka bg ln ns bk)) = noC (tog ka bg ln ns bk) := if_pos rfl
            have fn := fw_no (C := (tog ka bg ln ns bk)) (n := nK) (m := m9) tP tO (by omega) (by omega)
            have sE : mn = stF (tog ka bg ln ns bk) nK m9 s9 := by unfold stF; rw [if_pos hz, ← fn.1, ← cE]; exact eS
            have d0 : dp (tog ka bg ln ns bk) nK m9 mn 0 = 0 := by rw [sE]; unfold stF; rw [if_pos hz]; exact fn.2.1
            have dE : dp (cw true (tog ka bg ln ns bk)) nK m9 mn 0 = dp (tog ka bg ln ns bk) nK m9 mn 0 := by rw [d0, cE]; exact dp_no0 tP d0
            have kE : ∀ g, 0 ≤ g → g ≤ mn → kb (cw true (tog ka bg ln ns bk)) nK m9 mn g = kb (tog ka bg ln ns bk) nK m9 mn g := fun g g1 g2 => by rw [cE]; exact kb_no tP d0 g1 g2
            refine lv_iload hx hb dX6_shareBest_89 (lv_at hl 1 rfl) ?_
            refine z_ldc (n := -100009) hx hb hown k_62 (by decide) dX6_shareBest_91 ?_
            refine z_icmp_ne (tgt := 99) hx hb dX6_shareBest_93 (by decide) (by omega) (fun c_5 => ?_) (fun c_5 => ?_)
            · have b2 := hb0 mn (by omega) (by omega)
              have hd : dp (cw true (tog ka bg ln ns bk)) nK m9 mn 0 < 1000000 := by omega
              have en9 : mn ≤ nK := by have := dp_many (n := nK) (m := m9) (s := mn) (a := 0) hP0; omega
              refine lv_aload_n hx hb dX6_shareBest_99 rfl (lv_at hl 3 rfl) ?_
              refine lv_aload_n hx hb dX6_shareBest_100 rfl (lv_at hl 3 rfl) ?_
              refine va_get (D := D) (ci := 6) (v := .ref (q 13)) (C := RX6) (T := TX6) (N := 21) hx hb hts n_X6 hown hK hP 0 rfl rfl 18 (by decide) f_56 (fun _ h9 => h9) rfl dX6_shareBest_101 ?_
              refine lv_iload hx hb dX6_shareBest_104 (lv_at hl 1 rfl) ?_
              refine z_iald hx hb hK hP 13 0 rfl rfl (by omega) dX6_shareBest_106 ?_
              refine va_put (D := D) (ci := 6) (v := .int (iI (bs2_2 mn))) (ty := .int) (C := RX6) (T := TX6) (N := 21) hx hb hts n_X6 tyX6 tyX6_ok nmX6 hown hK hP hD hS 0 rfl rfl 20 (by decide) f_179 (fun _ h9 => h9) rfl (by decide +kernel) rfl rfl (Nat.le_of_ble_eq_true rfl) dX6_shareBest_107 (fun H locs hP hD hS => ?_)
              have hP : va_P D vwCl (wM q cy nK st le be te ab bl ka bg ln ns me sc pi re bk th co2_2 bs2_2 gr (bs2_2 mn)) H := hP
              have hD : va_D A (wM q cy nK st le be te ab bl ka bg ln ns me sc pi re bk th co2_2 bs2_2 gr (bs2_2 mn)) := hD
              refine lv_iconst (v := iI (0)) hx hb dX6_shareBest_110 rfl ?_
              refine lv_istore (lv' := [(5, .int (iI 0)), (4, .int (iI mn)), (3, .int (iI 1)), (0, .ref (q 0)), (1, .int (iI m9)), (2, .int (iI s9))]) hx hb dX6_shareBest_111 hl (by decide) rfl (fun ls hl => ?_)
              refine lv_iconst (v := iI (0)) hx hb dX6_shareBest_113 rfl ?_
              refine lv_istore (lv' := [(6, .int (iI 0)), (5, .int (iI 0)), (4, .int (iI mn)), (3, .int (iI 1)), (0, .ref (q 0)), (1, .int (iI m9)), (2, .int (iI s9))]) hx hb dX6_shareBest_114 hl (by decide) rfl (fun ls hl => ?_)
              have L_116 : ∀ (n : Nat) (a : Int) (g : Int) (gr1 : Int → Int), (h4 : 0 ≤ g ∧ g ≤ mn) → (hf4 : mn - g < n) → (ek : a = kb (cw true (tog ka bg ln ns bk)) nK m9 mn g) → (hr4 : ∀ t x, 0 ≤ t → t < g → kb (cw true (tog ka bg ln ns bk)) nK m9 mn t ≤ x → x < kb (cw true (tog ka bg ln ns bk)) nK m9 mn (t + 1) → gr1 x = t) → ∀ (H : Heap) (locs : List Loc) (ls : Array Slot), va_P D vwCl (wM q cy nK st le be te ab bl ka bg ln ns me sc pi re bk th co2_2 bs2_2 gr1 (bs2_2 mn)) H → va_D A (wM q cy nK st le be te ab bl ka bg ln ns me sc pi re bk th co2_2 bs2_2 gr1 (bs2_2 mn)) → va_S A s.heap H locs → lv_has ls 9 [(6, .int (iI g)), (5, .int (iI a)), (4, .int (iI mn)), (3, .int (iI 1)), (0, .ref (q 0)), (1, .int (iI m9)), (2, .int (iI s9))] → W p l e ({ frames := 3, cells := 0, slots := 0, locals := 79 } : Room) s m [.ref (q 0), .int (iI m9), .int (iI s9)].toArray below meth c H locs 0 0 (MQ below (zQr D cy A (fun r8 w8 => ∃ co2 : Int → Int, ∃ bs2 : Int → Int, ∃ gr2 : Int → Int, ∃ lo2 : Int, w8 = wM q cy nK st le be te ab bl ka bg ln ns me sc pi re bk th co2 bs2 gr2 lo2 ∧ r8 = stF (tog ka bg ln ns bk) nK m9 s9 ∧ ((s9 ≠ 0 → stF (tog ka bg ln ns bk) nK m9 s9 ≠ -100009 → lo2 = dp (tog ka bg ln ns bk) nK m9 (stF (tog ka bg ln ns bk) nK m9 s9) 0) ∧ (stF (tog ka bg ln ns bk) nK m9 s9 ≠ -100009 → ∀ k, 0 ≤ k → k < nK → gr2 k = gF (tog ka bg ln ns bk) nK m9 (stF (tog ka bg ln ns bk) nK m9 s9) k)))) [.ref (q 0), .int (iI m9), .int (iI s9)].toArray s 0 0 A) (F0 m 116 ls []) := by
                intro n
                induction n with
                | zero =>
                  intro a g gr1 h4 hf4 ek hr4
                  exfalso; omega
                | succ n ih_116 =>
                  intro a g gr1 h4 hf4 ek hr4 H locs ls hP hD hS hl
                  have kd := kb_dp (n := nK) (m := m9) hP0 hd (g := g) (by omega) (by omega)
                  refine lv_iload hx hb dX6_shareBest_116 (lv_at hl 0 rfl) ?_
                  refine lv_iload hx hb dX6_shareBest_118 (lv_at hl 2 rfl) ?_
                  refine z_icmp_ge (tgt := 255) hx hb dX6_shareBest_120 (by decide) (by omega) (fun c_6 => ?_) (fun c_6 => ?_)
                  · refine lv_iload hx hb dX6_shareBest_255 (lv_at hl 2 rfl) ?_
                    exact z_iretR X hK hP hD hS dX6_shareBest_257 (⟨_, _, _, _, rfl, by omega, fun z => absurd hz z, fun _ k g1 g2 => by rw [← sE]; exact gF_go tP (by rw [← dE]; exact hd) (by omega) g1 g2 (fun t x q1 q2 q3 q4 => hr4 t x q1 (by omega) (by rw [kE t (by omega) (by omega)]; exact q3) (by rw [kE (t + 1) (by omega) (by omega)]; exact q4))⟩)
                  · have ku := kb_up (n := nK) (m := m9) hP0 hd (g := g) (by omega) (by omega)
                    rw [← ek] at ku kd
                    rw [kb_s (by omega), ← ek] at ku
                    refine lv_iload hx hb dX6_shareBest_123 (lv_at hl 1 rfl) ?_
                    refine lv_istore (lv' := [(7, .int (iI a)), (6, .int (iI g)), (5, .int (iI a)), (4, .int (iI mn)), (3, .int (iI 1)), (0, .ref (q 0)), (1, .int (iI m9)), (2, .int (iI s9))]) hx hb dX6_shareBest_125 hl (by decide) rfl (fun ls hl => ?_)
                    refine lv_iload hx hb dX6_shareBest_127 (lv_at hl 2 rfl) ?_
                    refine lv_istore (lv' := [(8, .int (iI a)), (7, .int (iI a)), (6, .int (iI g)), (5, .int (iI a)), (4, .int (iI mn)), (3, .int (iI 1)), (0, .ref (q 0)), (1, .int (iI m9)), (2, .int (iI s9))]) hx hb dX6_shareBest_129 hl (by decide) rfl (fun ls hl => ?_)
                    have L_131 : ∀ (n : Nat) (en : Int) (b : Int), (h5 : a ≤ b ∧ b ≤ min nK (a + m9)) → (hf5 : 25 - b < n) → (hr5 : en = ge9 (cw true (tog ka bg ln ns bk)) nK m9 (mn - g) a b) → ∀ (H : Heap) (locs : List Loc) (ls : Array Slot), va_P D vwCl (wM q cy nK st le be te ab bl ka bg ln ns me sc pi re bk th co2_2 bs2_2 gr1 (bs2_2 mn)) H → va_D A (wM q cy nK st le be te ab bl ka bg ln ns me sc pi re bk th co2_2 bs2_2 gr1 (bs2_2 mn)) → va_S A s.heap H locs → lv_has ls 9 [(8, .int (iI b)), (7, .int (iI en)), (6, .int (iI g)), (5, .int (iI a)), (4, .int (iI mn)), (3, .int (iI 1)), (0, .ref (q 0)), (1, .int (iI m9)), (2, .int (iI s9))] → W p l e ({ frames := 3, cells := 0, slots := 0, locals := 79 } : Room) s m [.ref (q 0), .int (iI m9), .int (iI s9)].toArray below meth c H locs 0 0 (MQ below (zQr D cy A (fun r8 w8 => ∃ co2 : Int → Int, ∃ bs2 : Int → Int, ∃ gr2 : Int → Int, ∃ lo2 : Int, w8 = wM q cy nK st le be te ab bl ka bg ln ns me sc pi re bk th co2 bs2 gr2 lo2 ∧ r8 = stF (tog ka bg ln ns bk) nK m9 s9 ∧ ((s9 ≠ 0 → stF (tog ka bg ln ns bk) nK m9 s9 ≠ -100009 → lo2 = dp (tog ka bg ln ns bk) nK m9 (stF (tog ka bg ln ns bk) nK m9 s9) 0) ∧ (stF (tog ka bg ln ns bk) nK m9 s9 ≠ -100009 → ∀ k, 0 ≤ k → k < nK → gr2 k = gF (tog ka bg ln ns bk) nK m9 (stF (tog ka bg ln ns bk) nK m9 s9) k)))) [.ref (q 0), .int (iI m9), .int (iI s9)].toArray s 0 0 A) (F0 m 131 ls []) := by
                      intro n
                      induction n with
                      | zero =>
                        intro en b h5 hf5 hr5
                        exfalso; omega
                      | succ n ih_131 =>
                        intro en b h5 hf5 hr5 H locs ls hP hD hS hl
                        refine lv_iload hx hb dX6_shareBest_131 (lv_at hl 0 rfl) ?_
                        refine lv_aload_n hx hb dX6_shareBest_133 rfl (lv_at hl 6 rfl) ?_
                        refine va_get (D := D) (ci := 6) (v := .int (iI nK)) (C := RX6) (T := TX6) (N := 21) hx hb hts n_X6 hown hK hP 0 rfl rfl 1 (by decide) f_7 (fun _ h9 => h9) rfl dX6_shareBest_134 ?_
                        refine z_icmp_ge (tgt := 217) hx hb dX6_shareBest_137 (by decide) (by omega) (fun c_7 => ?_) (fun c_7 => ?_)
                        · have e7 : en + 1 = nx (cw true (tog ka bg ln ns bk)) nK m9 (mn - g) a := by rw [hr5, show b = min nK (a + m9) by omega]; exact ge9_nx hP0 (by omega) (by omega)
                          refine lv_iload hx hb dX6_shareBest_217 (lv_at hl 3 rfl) ?_
                          refine lv_istore (lv' := [(8, .int (iI a)), (7, .int (iI en)), (6, .int (iI g)), (5, .int (iI a)), (4, .int (iI mn)), (3, .int (iI 1)), (0, .ref (q 0)), (1, .int (iI m9)), (2, .int (iI s9))]) hx hb dX6_shareBest_219 hl (by decide) rfl (fun ls hl => ?_)
                          have L_221 : ∀ (n : Nat) (x : Int) (gr3 : Int → Int), (h6 : a ≤ x ∧ x ≤ en + 1) → (hf6 : en + 1 - x < n) → (hr6 : ∀ y, y < a → gr3 y = gr1 y) → (hr7 : ∀ y, a ≤ y → y < x → gr3 y = g) → ∀ (H : Heap) (locs : List Loc) (ls : Array Slot), va_P D vwCl (wM q cy nK st le be te ab bl ka bg ln ns me sc pi re bk th co2_2 bs2_2 gr3 (bs2_2 mn)) H → va_D A (wM q cy nK st le be te ab bl ka bg ln ns me sc pi re bk th co2_2 bs2_2 gr3 (bs2_2 mn)) → va_S A s.heap H locs → lv_has ls 9 [(8, .int (iI x)), (7, .int (iI en)), (6, .int (iI g)), (5, .int (iI a)), (4, .int (iI mn)), (3, .int (iI 1)), (0, .ref (q 0)), (1, .int (iI m9)), (2, .int (iI s9))] → W p l e ({ frames := 3, cells := 0, slots := 0, locals := 79 } : Room) s m [.ref (q 0), .int (iI m9), .int (iI s9)].toArray below meth c H locs 0 0 (MQ below (zQr D cy A (fun r8 w8 => ∃ co2 : Int → Int, ∃ bs2 : Int → Int, ∃ gr2 : Int → Int, ∃ lo2 : Int, w8 = wM q cy nK st le be te ab bl ka bg ln ns me sc pi re bk th co2 bs2 gr2 lo2 ∧ r8 = stF (tog ka bg ln ns bk) nK m9 s9 ∧ ((s9 ≠ 0 → stF (tog ka bg ln ns bk) nK m9 s9 ≠ -100009 → lo2 = dp (tog ka bg ln ns bk) nK m9 (stF (tog ka bg ln ns bk) nK m9 s9) 0) ∧ (stF (tog ka bg ln ns bk) nK m9 s9 ≠ -100009 → ∀ k, 0 ≤ k → k < nK → gr2 k = gF (tog ka bg ln ns bk) nK m9 (stF (tog ka bg ln ns bk) nK m9 s9) k)))) [.ref (q 0), .int (iI m9), .int (iI s9)].toArray s 0 0 A) (F0 m 221 ls []) := by
                            intro n
                            induction n with
                            | zero =>
                              intro x gr3 h6 hf6 hr6 hr7
                              exfalso; omega
                            | succ n ih_221 =>
                              intro x gr3 h6 hf6 hr6 hr7 H locs ls hP hD hS hl
                              refine lv_iload hx hb dX6_shareBest_221 (lv_at hl 0 rfl) ?_
                              refine lv_iload hx hb dX6_shareBest_223 (lv_at hl 1 rfl) ?_
                              refine z_icmp_gt (tgt := 243) hx hb dX6_shareBest_225 (by decide) (by omega) (fun c_8 => ?_) (fun c_8 => ?_)
                              · refine lv_iload hx hb dX6_shareBest_243 (lv_at hl 1 rfl) ?_
                                refine lv_iconst (v := iI (1)) hx hb dX6_shareBest_245 rfl ?_
                                refine z_iadd hx hb dX6_shareBest_246 ?_
                                refine lv_istore (lv' := [(5, .int (iI (en + 1))), (8, .int (iI x)), (7, .int (iI en)), (6, .int (iI g)), (4, .int (iI mn)), (3, .int (iI 1)), (0, .ref (q 0)), (1, .int (iI m9)), (2, .int (iI s9))]) hx hb dX6_shareBest_247 hl (by decide) rfl (fun ls hl => ?_)
                                refine lv_iinc (v := iI (g + 1)) (lv' := [(6, .int (iI (g + 1))), (5, .int (iI (en + 1))), (8, .int (iI x)), (7, .int (iI en)), (4, .int (iI mn)), (3, .int (iI 1)), (0, .ref (q 0)), (1, .int (iI m9)), (2, .int (iI s9))]) hx hb dX6_shareBest_249 hl (k := 3) rfl (iI_add _ _) (by decide) rfl (fun ls hl => ?_)
                                refine lv_goto (tgt := 116) hx hb dX6_shareBest_252 (by decide) ?_
                                exact ih_116 (en + 1) (g + 1) gr3 (by omega) (by omega) (by rw [kb_s (by omega), ← ek, ← e7]) (fun t x g1 g2 g3 g4 => by rcases (show t < g ∨ t = g by omega) with z | z; (rw [hr6 x (by have := kb_le (n := nK) (m := m9) hP0 hd (t := t + 1) (g := g) (by omega) (by omega) (by omega); omega)]; exact hr4 t x g1 z g3 g4); (rw [z] at g3 g4 ⊢; exact hr7 x (by omega) (by rw [kb_s (by omega), ← ek, ← e7] at g4; omega))) _ _ _ hP hD hS (lv_sub hl [0, 1, 4, 5, 6, 7, 8] rfl)
                              · refine lv_aload_n hx hb dX6_shareBest_228 rfl (lv_at hl 6 rfl) ?_
                                refine va_get (D := D) (ci := 6) (v := .ref (q 14)) (C := RX6) (T := TX6) (N := 21) hx hb hts n_X6 hown hK hP 0 rfl rfl 19 (by decide) f_59 (fun _ h9 => h9) rfl dX6_shareBest_229 ?_
                                refine lv_iload hx hb dX6_shareBest_232 (lv_at hl 0 rfl) ?_
                                refine lv_iload hx hb dX6_shareBest_234 (lv_at hl 2 rfl) ?_
                                refine z_iast (v := g) hx hb hK hP hD hS 14 0 rfl rfl (by omega) dX6_shareBest_236 (fun H locs hP hD hS => ?_)
                                have hP : va_P D vwCl (wM q cy nK st le be te ab bl ka bg ln ns me sc pi re bk th co2_2 bs2_2 (uZ gr3 x g) (bs2_2 mn)) H := hP
                                have hD : va_D A (wM q cy nK st le be te ab bl ka bg ln ns me sc pi re bk th co2_2 bs2_2 (uZ gr3 x g) (bs2_2 mn)) := hD
                                refine lv_iinc (v := iI (x + 1)) (lv' := [(8, .int (iI (x + 1))), (7, .int (iI en)), (6, .int (iI g)), (5, .int (iI a)), (4, .int (iI mn)), (3, .int (iI 1)), (0, .ref (q 0)), (1, .int (iI m9)), (2, .int (iI s9))]) hx hb dX6_shareBest_237 hl (k := 0) rfl (iI_add _ _) (by decide) rfl (fun ls hl => ?_)
                                refine lv_goto (tgt := 221) hx hb dX6_shareBest_240 (by decide) ?_
                                exact ih_221 (x + 1) (uZ gr3 x g) (by omega) (by omega) (fun y g1 => by rw [uZ_other (by omega)]; exact hr6 y g1) (fun y g1 g2 => by rcases (show y < x ∨ y = x by omega) with z | z; (rw [uZ_other (by omega)]; exact hr7 y g1 z); (rw [z, uZ_same])) _ _ _ hP hD hS (lv_sub hl [0, 1, 2, 3, 4, 5, 6, 7, 8] rfl)
                          exact L_221 25 a gr1 (by omega) (by omega) (fun y _ => rfl) (fun y _ _ => by omega) _ _ _ hP hD hS (lv_sub hl [0, 1, 2, 3, 4, 5, 6, 7, 8] rfl)
                        · refine lv_iload hx hb dX6_shareBest_140 (lv_at hl 0 rfl) ?_
                          refine lv_iload hx hb dX6_shareBest_142 (lv_at hl 3 rfl) ?_
                          refine lv_iload_n hx hb dX6_shareBest_144 rfl (lv_at hl 7 rfl) ?_
                          refine z_iadd hx hb dX6_shareBest_145 ?_
                          refine z_icmp_ge (tgt := 217) hx hb dX6_shareBest_146 (by decide) (by omega) (fun c_9 => ?_) (fun c_9 => ?_)
                          · have e7 : en + 1 = nx (cw true (tog ka bg ln ns bk)) nK m9 (mn - g) a := by rw [hr5, show b = min nK (a + m9) by omega]; exact ge9_nx hP0 (by omega) (by omega)
                            refine lv_iload hx hb dX6_shareBest_217 (lv_at hl 3 rfl) ?_
                            refine lv_istore (lv' := [(8, .int (iI a)), (7, .int (iI en)), (6, .int (iI g)), (5, .int (iI a)), (4, .int (iI mn)), (3, .int (iI 1)), (0, .ref (q 0)), (1, .int (iI m9)), (2, .int (iI s9))]) hx hb dX6_shareBest_219 hl (by decide) rfl (fun ls hl => ?_)
                            have L_221 : ∀ (n : Nat) (x : Int) (gr3 : Int → Int), (h6 : a ≤ x ∧ x ≤ en + 1) → (hf6 : en + 1 - x < n) → (hr6 : ∀ y, y < a → gr3 y = gr1 y) → (hr7 : ∀ y, a ≤ y → y < x → gr3 y = g) → ∀ (H : Heap) (locs : List Loc) (ls : Array Slot), va_P D vwCl (wM q cy nK st le be te ab bl ka bg ln ns me sc pi re bk th co2_2 bs2_2 gr3 (bs2_2 mn)) H → va_D A (wM q cy nK st le be te ab bl ka bg ln ns me sc pi re bk th co2_2 bs2_2 gr3 (bs2_2 mn)) → va_S A s.heap H locs → lv_has ls 9 [(8, .int (iI x)), (7, .int (iI en)), (6, .int (iI g)), (5, .int (iI a)), (4, .int (iI mn)), (3, .int (iI 1)), (0, .ref (q 0)), (1, .int (iI m9)), (2, .int (iI s9))] → W p l e ({ frames := 3, cells := 0, slots := 0, locals := 79 } : Room) s m [.ref (q 0), .int (iI m9), .int (iI s9)].toArray below meth c H locs 0 0 (MQ below (zQr D cy A (fun r8 w8 => ∃ co2 : Int → Int, ∃ bs2 : Int → Int, ∃ gr2 : Int → Int, ∃ lo2 : Int, w8 = wM q cy nK st le be te ab bl ka bg ln ns me sc pi re bk th co2 bs2 gr2 lo2 ∧ r8 = stF (tog ka bg ln ns bk) nK m9 s9 ∧ ((s9 ≠ 0 → stF (tog ka bg ln ns bk) nK m9 s9 ≠ -100009 → lo2 = dp (tog ka bg ln ns bk) nK m9 (stF (tog ka bg ln ns bk) nK m9 s9) 0) ∧ (stF (tog ka bg ln ns bk) nK m9 s9 ≠ -100009 → ∀ k, 0 ≤ k → k < nK → gr2 k = gF (tog ka bg ln ns bk) nK m9 (stF (tog ka bg ln ns bk) nK m9 s9) k)))) [.ref (q 0), .int (iI m9), .int (iI s9)].toArray s 0 0 A) (F0 m 221 ls []) := by
                              intro n
                              induction n with
                              | zero =>
                                intro x gr3 h6 hf6 hr6 hr7
                                exfalso; omega
                              | succ n ih_221 =>
                                intro x gr3 h6 hf6 hr6 hr7 H locs ls hP hD hS hl
                                refine lv_iload hx hb dX6_shareBest_221 (lv_at hl 0 rfl) ?_
                                refine lv_iload hx hb dX6_shareBest_223 (lv_at hl 1 rfl) ?_
                                refine z_icmp_gt (tgt := 243) hx hb dX6_shareBest_225 (by decide) (by omega) (fun c_10 => ?_) (fun c_10 => ?_)
                                · refine lv_iload hx hb dX6_shareBest_243 (lv_at hl 1 rfl) ?_
                                  refine lv_iconst (v := iI (1)) hx hb dX6_shareBest_245 rfl ?_
                                  refine z_iadd hx hb dX6_shareBest_246 ?_
                                  refine lv_istore (lv' := [(5, .int (iI (en + 1))), (8, .int (iI x)), (7, .int (iI en)), (6, .int (iI g)), (4, .int (iI mn)), (3, .int (iI 1)), (0, .ref (q 0)), (1, .int (iI m9)), (2, .int (iI s9))]) hx hb dX6_shareBest_247 hl (by decide) rfl (fun ls hl => ?_)
                                  refine lv_iinc (v := iI (g + 1)) (lv' := [(6, .int (iI (g + 1))), (5, .int (iI (en + 1))), (8, .int (iI x)), (7, .int (iI en)), (4, .int (iI mn)), (3, .int (iI 1)), (0, .ref (q 0)), (1, .int (iI m9)), (2, .int (iI s9))]) hx hb dX6_shareBest_249 hl (k := 3) rfl (iI_add _ _) (by decide) rfl (fun ls hl => ?_)
                                  refine lv_goto (tgt := 116) hx hb dX6_shareBest_252 (by decide) ?_
                                  exact ih_116 (en + 1) (g + 1) gr3 (by omega) (by omega) (by rw [kb_s (by omega), ← ek, ← e7]) (fun t x g1 g2 g3 g4 => by rcases (show t < g ∨ t = g by omega) with z | z; (rw [hr6 x (by have := kb_le (n := nK) (m := m9) hP0 hd (t := t + 1) (g := g) (by omega) (by omega) (by omega); omega)]; exact hr4 t x g1 z g3 g4); (rw [z] at g3 g4 ⊢; exact hr7 x (by omega) (by rw [kb_s (by omega), ← ek, ← e7] at g4; omega))) _ _ _ hP hD hS (lv_sub hl [0, 1, 4, 5, 6, 7, 8] rfl)
                                · refine lv_aload_n hx hb dX6_shareBest_228 rfl (lv_at hl 6 rfl) ?_
                                  refine va_get (D := D) (ci := 6) (v := .ref (q 14)) (C := RX6) (T := TX6) (N := 21) hx hb hts n_X6 hown hK hP 0 rfl rfl 19 (by decide) f_59 (fun _ h9 => h9) rfl dX6_shareBest_229 ?_
                                  refine lv_iload hx hb dX6_shareBest_232 (lv_at hl 0 rfl) ?_
                                  refine lv_iload hx hb dX6_shareBest_234 (lv_at hl 2 rfl) ?_
                                  refine z_iast (v := g) hx hb hK hP hD hS 14 0 rfl rfl (by omega) dX6_shareBest_236 (fun H locs hP hD hS => ?_)
                                  have hP : va_P D vwCl (wM q cy nK st le be te ab bl ka bg ln ns me sc pi re bk th co2_2 bs2_2 (uZ gr3 x g) (bs2_2 mn)) H := hP
                                  have hD : va_D A (wM q cy nK st le be te ab bl ka bg ln ns me sc pi re bk th co2_2 bs2_2 (uZ gr3 x g) (bs2_2 mn)) := hD
                                  refine lv_iinc (v := iI (x + 1)) (lv' := [(8, .int (iI (x + 1))), (7, .int (iI en)), (6, .int (iI g)), (5, .int (iI a)), (4, .int (iI mn)), (3, .int (iI 1)), (0, .ref (q 0)), (1, .int (iI m9)), (2, .int (iI s9))]) hx hb dX6_shareBest_237 hl (k := 0) rfl (iI_add _ _) (by decide) rfl (fun ls hl => ?_)
                                  refine lv_goto (tgt := 221) hx hb dX6_shareBest_240 (by decide) ?_
                                  exact ih_221 (x + 1) (uZ gr3 x g) (by omega) (by omega) (fun y g1 => by rw [uZ_other (by omega)]; exact hr6 y g1) (fun y g1 g2 => by rcases (show y < x ∨ y = x by omega) with z | z; (rw [uZ_other (by omega)]; exact hr7 y g1 z); (rw [z, uZ_same])) _ _ _ hP hD hS (lv_sub hl [0, 1, 2, 3, 4, 5, 6, 7, 8] rfl)
                            exact L_221 25 a gr1 (by omega) (by omega) (fun y _ => rfl) (fun y _ _ => by omega) _ _ _ hP hD hS (lv_sub hl [0, 1, 2, 3, 4, 5, 6, 7, 8] rfl)
                          · have e1 := hq9.1 a b (by omega) (by omega) (by omega) (by omega)
                            have e2 := hq9.2 (b + 1) (mn - g - 1) (by omega) (by omega) (by omega) (by omega)
                            rw [show 25 * (b + 1) + (mn - g - 1) = 25 * (b + 1) + mn - g - 1 by omega] at e2
                            have e3 := cb a b
                            have e4 := db (mn - g - 1) (b + 1)
                            have e5 := hq9.2 a (mn - g) (by omega) (by omega) (by omega) (by omega)
                            rw [show 25 * a + (mn - g) = 25 * a + mn - g by omega] at e5
                            have e6 := db (mn - g) a
                            refine lv_aload_n hx hb dX6_shareBest_149 rfl (lv_at hl 6 rfl) ?_
                            refine va_get (D := D) (ci := 6) (v := .ref (q 12)) (C := RX6) (T := TX6) (N := 21) hx hb hts n_X6 hown hK hP 0 rfl rfl 17 (by decide) f_53 (fun _ h9 => h9) rfl dX6_shareBest_150 ?_
                            refine lv_bipush (v := iI (24)) hx hb dX6_shareBest_153 (by decide) ?_
                            refine lv_iload hx hb dX6_shareBest_155 (lv_at hl 3 rfl) ?_
                            refine z_imul hx hb dX6_shareBest_157 ?_
                            refine lv_iload hx hb dX6_shareBest_158 (lv_at hl 0 rfl) ?_
                            refine z_iadd hx hb dX6_shareBest_160 ?_
                            refine z_iald hx hb hK hP 12 0 rfl rfl (by omega) dX6_shareBest_161 ?_
                            refine lv_aload_n hx hb dX6_shareBest_162 rfl (lv_at hl 6 rfl) ?_
                            refine va_get (D := D) (ci := 6) (v := .ref (q 13)) (C := RX6) (T := TX6) (N := 21) hx hb hts n_X6 hown hK hP 0 rfl rfl 18 (by decide) f_56 (fun _ h9 => h9) rfl dX6_shareBest_163 ?_
                            refine lv_bipush (v := iI (25)) hx hb dX6_shareBest_166 (by decide) ?_
                            refine lv_iload hx hb dX6_shareBest_168 (lv_at hl 0 rfl) ?_
                            refine lv_iconst (v := iI (1)) hx hb dX6_shareBest_170 rfl ?_
                            refine z_iadd hx hb dX6_shareBest_171 ?_
                            refine z_imul hx hb dX6_shareBest_172 ?_
                            refine lv_iload hx hb dX6_shareBest_173 (lv_at hl 4 rfl) ?_
                            refine z_iadd hx hb dX6_shareBest_175 ?_
                            refine lv_iload hx hb dX6_shareBest_176 (lv_at hl 2 rfl) ?_
                            refine z_isub hx hb dX6_shareBest_178 ?_
                            refine lv_iconst (v := iI (1)) hx hb dX6_shareBest_179 rfl ?_
                            refine z_isub hx hb dX6_shareBest_180 ?_
                            refine z_iald hx hb hK hP 13 0 rfl rfl (by omega) dX6_shareBest_181 ?_
                            refine z_iadd hx hb dX6_shareBest_182 ?_
                            refine lv_aload_n hx hb dX6_shareBest_183 rfl (lv_at hl 6 rfl) ?_
                            refine va_get (D := D) (ci := 6) (v := .ref (q 13)) (C := RX6) (T := TX6) (N := 21) hx hb hts n_X6 hown hK hP 0 rfl rfl 18 (by decide) f_56 (fun _ h9 => h9) rfl dX6_shareBest_184 ?_
                            refine lv_bipush (v := iI (25)) hx hb dX6_shareBest_187 (by decide) ?_
                            refine lv_iload hx hb dX6_shareBest_189 (lv_at hl 3 rfl) ?_
                            refine z_imul hx hb dX6_shareBest_191 ?_
                            refine lv_iload hx hb dX6_shareBest_192 (lv_at hl 4 rfl) ?_
                            refine z_iadd hx hb dX6_shareBest_194 ?_
                            refine lv_iload hx hb dX6_shareBest_195 (lv_at hl 2 rfl) ?_
                            refine z_isub hx hb dX6_shareBest_197 ?_
                            refine z_iald hx hb hK hP 13 0 rfl rfl (by omega) dX6_shareBest_198 ?_
                            refine z_icmp_ne (tgt := 207) hx hb dX6_shareBest_199 (by decide) (by omega) (fun c_11 => ?_) (fun c_11 => ?_)
                            · refine lv_iload hx hb dX6_shareBest_207 (lv_at hl 1 rfl) ?_
                              refine lv_istore (lv' := [(7, .int (iI en)), (8, .int (iI b)), (6, .int (iI g)), (5, .int (iI a)), (4, .int (iI mn)), (3, .int (iI 1)), (0, .ref (q 0)), (1, .int (iI m9)), (2, .int (iI s9))]) hx hb dX6_shareBest_209 hl (by decide) rfl (fun ls hl => ?_)
                              refine lv_iinc (v := iI (b + 1)) (lv' := [(8, .int (iI (b + 1))), (7, .int (iI en)), (6, .int (iI g)), (5, .int (iI a)), (4, .int (iI mn)), (3, .int (iI 1)), (0, .ref (q 0)), (1, .int (iI m9)), (2, .int (iI s9))]) hx hb dX6_shareBest_211 hl (k := 1) rfl (iI_add _ _) (by decide) rfl (fun ls hl => ?_)
                              refine lv_goto (tgt := 131) hx hb dX6_shareBest_214 (by decide) ?_
                              exact ih_131 en (b + 1) (by omega) (by omega) (by rw [ge9_s (by omega)]; first | (rw [if_pos (by omega)]; done) | (rw [if_neg (by omega)]; exact hr5)) _ _ _ hP hD hS (lv_sub hl [0, 1, 2, 3, 4, 5, 6, 7, 8] rfl)
                            · refine lv_iload hx hb dX6_shareBest_202 (lv_at hl 0 rfl) ?_
                              refine lv_goto (tgt := 209) hx hb dX6_shareBest_204 (by decide) ?_
                              refine lv_istore (lv' := [(7, .int (iI b)), (8, .int (iI b)), (6, .int (iI g)), (5, .int (iI a)), (4, .int (iI mn)), (3, .int (iI 1)), (0, .ref (q 0)), (1, .int (iI m9)), (2, .int (iI s9))]) hx hb dX6_shareBest_209 hl (by decide) rfl (fun ls hl => ?_)
                              refine lv_iinc (v := iI (b + 1)) (lv' := [(8, .int (iI (b + 1))), (7, .int (iI b)), (6, .int (iI g)), (5, .int (iI a)), (4, .int (iI mn)), (3, .int (iI 1)), (0, .ref (q 0)), (1, .int (iI m9)), (2, .int (iI s9))]) hx hb dX6_shareBest_211 hl (k := 1) rfl (iI_add _ _) (by decide) rfl (fun ls hl => ?_)
                              refine lv_goto (tgt := 131) hx hb dX6_shareBest_214 (by decide) ?_
                              exact ih_131 b (b + 1) (by omega) (by omega) (by rw [ge9_s (by omega)]; first | (rw [if_pos (by omega)]; done) | (rw [if_neg (by omega)]; exact hr5)) _ _ _ hP hD hS (lv_sub hl [0, 1, 2, 3, 4, 5, 6, 7, 8] rfl)
                    exact L_131 27 a a (by omega) (by omega) ge9_0.symm _ _ _ hP hD hS (lv_sub hl [0, 1, 2, 3, 4, 5, 6, 7, 8] rfl)
              exact L_116 25 0 0 gr (by omega) (by omega) kb_0.symm (fun t x _ _ => by omega) _ _ _ hP hD hS (lv_sub hl [0, 1, 2, 3, 4, 5, 6] rfl)
            · refine z_ldc (n := -100009) hx hb hown k_62 (by decide) dX6_shareBest_96 ?_
              exact z_iretR X hK hP hD hS dX6_shareBest_98 (⟨_, _, _, _, rfl, by omega, fun _ z => absurd (by omega) z, fun z => absurd (by omega) z⟩)
          · have b1 := hb0 c9 (by omega) (by omega)
            refine lv_aload_n hx hb dX6_shareBest_38 rfl (lv_at hl 3 rfl) ?_
            refine va_get (D := D) (ci := 6) (v := .ref (q 13)) (C := RX6) (T := TX6) (N := 21) hx hb hts n_X6 hown hK hP 0 rfl rfl 18 (by decide) f_56 (fun _ h9 => h9) rfl dX6_shareBest_39 ?_
            refine lv_iload hx hb dX6_shareBest_42 (lv_at hl 0 rfl) ?_
            refine z_iald hx hb hK hP 13 0 rfl rfl (by omega) dX6_shareBest_44 ?_
            refine z_ldc (n := 1000000) hx hb hown k_174 (by decide) dX6_shareBest_45 ?_
            refine z_icmp_ge (tgt := 79) hx hb dX6_shareBest_47 (by decide) (by omega) (fun c_12 => ?_) (fun c_12 => ?_)
            · refine lv_iload hx hb dX6_shareBest_79 (lv_at hl 1 rfl) ?_
              refine lv_istore (lv' := [(4, .int (iI mn)), (5, .int (iI c9)), (3, .int (iI 1)), (0, .ref (q 0)), (1, .int (iI m9)), (2, .int (iI s9))]) hx hb dX6_shareBest_81 hl (by decide) rfl (fun ls hl => ?_)
              refine lv_iinc (v := iI (c9 + 1)) (lv' := [(5, .int (iI (c9 + 1))), (4, .int (iI mn)), (3, .int (iI 1)), (0, .ref (q 0)), (1, .int (iI m9)), (2, .int (iI s9))]) hx hb dX6_shareBest_83 hl (k := 1) rfl (iI_add _ _) (by decide) rfl (fun ls hl => ?_)
              refine lv_goto (tgt := 23) hx hb dX6_shareBest_86 (by decide) ?_
              exact ih_23 mn (c9 + 1) (by omega) (by omega) (by first | exact bm_far hr (by show 1000000 ≤ dp (cw true (tog ka bg ln ns bk)) nK m9 c9 0; omega) | exact bm_new hr (by omega) (by assumption) (by show dp (cw true (tog ka bg ln ns bk)) nK m9 c9 0 < 1000000; omega) | exact bm_lt hr (by omega) (by assumption) (by show dp (cw true (tog ka bg ln ns bk)) nK m9 c9 0 < dp (cw true (tog ka bg ln ns bk)) nK m9 mn 0; omega) | exact bm_ge hr (by assumption) (by show dp (cw true (tog ka bg ln ns bk)) nK m9 mn 0 ≤ dp (cw true (tog ka bg ln ns bk)) nK m9 c9 0; omega)) _ _ _ hP hD hS (lv_sub hl [0, 1, 2, 3, 4, 5] rfl)
            · refine lv_iload hx hb dX6_shareBest_50 (lv_at hl 1 rfl) ?_
              refine z_ldc (n := -100009) hx hb hown k_62 (by decide) dX6_shareBest_52 ?_
              refine z_icmp_eq (tgt := 74) hx hb dX6_shareBest_54 (by decide) (by omega) (fun c_13 => ?_) (fun c_13 => ?_)
              · refine lv_iload hx hb dX6_shareBest_74 (lv_at hl 0 rfl) ?_
                refine lv_goto (tgt := 81) hx hb dX6_shareBest_76 (by decide) ?_
                refine lv_istore (lv' := [(4, .int (iI c9)), (5, .int (iI c9)), (3, .int (iI 1)), (0, .ref (q 0)), (1, .int (iI m9)), (2, .int (iI s9))]) hx hb dX6_shareBest_81 hl (by decide) rfl (fun ls hl => ?_)
                refine lv_iinc (v := iI (c9 + 1)) (lv' := [(5, .int (iI (c9 + 1))), (4, .int (iI c9)), (3, .int (iI 1)), (0, .ref (q 0)), (1, .int (iI m9)), (2, .int (iI s9))]) hx hb dX6_shareBest_83 hl (k := 1) rfl (iI_add _ _) (by decide) rfl (fun ls hl => ?_)
                refine lv_goto (tgt := 23) hx hb dX6_shareBest_86 (by decide) ?_
                exact ih_23 c9 (c9 + 1) (by omega) (by omega) (by first | exact bm_far hr (by show 1000000 ≤ dp (cw true (tog ka bg ln ns bk)) nK m9 c9 0; omega) | exact bm_new hr (by omega) (by assumption) (by show dp (cw true (tog ka bg ln ns bk)) nK m9 c9 0 < 1000000; omega) | exact bm_lt hr (by omega) (by assumption) (by show dp (cw true (tog ka bg ln ns bk)) nK m9 c9 0 < dp (cw true (tog ka bg ln ns bk)) nK m9 mn 0; omega) | exact bm_ge hr (by assumption) (by show dp (cw true (tog ka bg ln ns bk)) nK m9 mn 0 ≤ dp (cw true (tog ka bg ln ns bk)) nK m9 c9 0; omega)) _ _ _ hP hD hS (lv_sub hl [0, 1, 2, 3, 4, 5] rfl)
              · have b2 := hb0 mn (by omega) (by omega)
                refine lv_aload_n hx hb dX6_shareBest_57 rfl (lv_at hl 3 rfl) ?_
                refine va_get (D := D) (ci := 6) (v := .ref (q 13)) (C := RX6) (T := TX6) (N := 21) hx hb hts n_X6 hown hK hP 0 rfl rfl 18 (by decide) f_56 (fun _ h9 => h9) rfl dX6_shareBest_58 ?_
                refine lv_iload hx hb dX6_shareBest_61 (lv_at hl 0 rfl) ?_
                refine z_iald hx hb hK hP 13 0 rfl rfl (by omega) dX6_shareBest_63 ?_
                refine lv_aload_n hx hb dX6_shareBest_64 rfl (lv_at hl 3 rfl) ?_
                refine va_get (D := D) (ci := 6) (v := .ref (q 13)) (C := RX6) (T := TX6) (N := 21) hx hb hts n_X6 hown hK hP 0 rfl rfl 18 (by decide) f_56 (fun _ h9 => h9) rfl dX6_shareBest_65 ?_
                refine lv_iload hx hb dX6_shareBest_68 (lv_at hl 1 rfl) ?_
                refine z_iald hx hb hK hP 13 0 rfl rfl (by omega) dX6_shareBest_70 ?_
                refine z_icmp_ge (tgt := 79) hx hb dX6_shareBest_71 (by decide) (by omega) (fun c_14 => ?_) (fun c_14 => ?_)
                · refine lv_iload hx hb dX6_shareBest_79 (lv_at hl 1 rfl) ?_
                  refine lv_istore (lv' := [(4, .int (iI mn)), (5, .int (iI c9)), (3, .int (iI 1)), (0, .ref (q 0)), (1, .int (iI m9)), (2, .int (iI s9))]) hx hb dX6_shareBest_81 hl (by decide) rfl (fun ls hl => ?_)
                  refine lv_iinc (v := iI (c9 + 1)) (lv' := [(5, .int (iI (c9 + 1))), (4, .int (iI mn)), (3, .int (iI 1)), (0, .ref (q 0)), (1, .int (iI m9)), (2, .int (iI s9))]) hx hb dX6_shareBest_83 hl (k := 1) rfl (iI_add _ _) (by decide) rfl (fun ls hl => ?_)
                  refine lv_goto (tgt := 23) hx hb dX6_shareBest_86 (by decide) ?_
                  exact ih_23 mn (c9 + 1) (by omega) (by omega) (by first | exact bm_far hr (by show 1000000 ≤ dp (cw true (tog ka bg ln ns bk)) nK m9 c9 0; omega) | exact bm_new hr (by omega) (by assumption) (by show dp (cw true (tog ka bg ln ns bk)) nK m9 c9 0 < 1000000; omega) | exact bm_lt hr (by omega) (by assumption) (by show dp (cw true (tog ka bg ln ns bk)) nK m9 c9 0 < dp (cw true (tog ka bg ln ns bk)) nK m9 mn 0; omega) | exact bm_ge hr (by assumption) (by show dp (cw true (tog ka bg ln ns bk)) nK m9 mn 0 ≤ dp (cw true (tog ka bg ln ns bk)) nK m9 c9 0; omega)) _ _ _ hP hD hS (lv_sub hl [0, 1, 2, 3, 4, 5] rfl)
                · refine lv_iload hx hb dX6_shareBest_74 (lv_at hl 0 rfl) ?_
                  refine lv_goto (tgt := 81) hx hb dX6_shareBest_76 (by decide) ?_
                  refine lv_istore (lv' := [(4, .int (iI c9)), (5, .int (iI c9)), (3, .int (iI 1)), (0, .ref (q 0)), (1, .int (iI m9)), (2, .int (iI s9))]) hx hb dX6_shareBest_81 hl (by decide) rfl (fun ls hl => ?_)
                  refine lv_iinc (v := iI (c9 + 1)) (lv' := [(5, .int (iI (c9 + 1))), (4, .int (iI c9)), (3, .int (iI 1)), (0, .ref (q 0)), (1, .int (iI m9)), (2, .int (iI s9))]) hx hb dX6_shareBest_83 hl (k := 1) rfl (iI_add _ _) (by decide) rfl (fun ls hl => ?_)
                  refine lv_goto (tgt := 23) hx hb dX6_shareBest_86 (by decide) ?_
                  exact ih_23 c9 (c9 + 1) (by omega) (by omega) (by first | exact bm_far hr (by show 1000000 ≤ dp (cw true (tog ka bg ln ns bk)) nK m9 c9 0; omega) | exact bm_new hr (by omega) (by assumption) (by show dp (cw true (tog ka bg ln ns bk)) nK m9 c9 0 < 1000000; omega) | exact bm_lt hr (by omega) (by assumption) (by show dp (cw true (tog ka bg ln ns bk)) nK m9 c9 0 < dp (cw true (tog ka bg ln ns bk)) nK m9 mn 0; omega) | exact bm_ge hr (by assumption) (by show dp (cw true (tog ka bg ln ns bk)) nK m9 mn 0 ≤ dp (cw true (tog ka bg ln ns bk)) nK m9 c9 0; omega)) _ _ _ hP hD hS (lv_sub hl [0, 1, 2, 3, 4, 5] rfl)
    exact L_23 26 (-100009) 1 (by omega) (by omega) bm_0 _ _ _ hP hD hS (lv_sub hl [0, 1, 2, 3, 4, 5] rfl)

set_option maxHeartbeats 4000000 in
set_option maxRecDepth 100000 in
theorem c_X6_shareBest_p (I : okS nK st le be te ab bl ka bg ln ns me sc pi re bk) (m9 : Int) (s9 : Int) (h : (1 ≤ m9 ∧ m9 ≤ 6) ∧ (0 ≤ s9 ∧ s9 ≤ 24)) (hz : s9 ≠ 0) : MR l D cy yX6_shareBest wsX6_shareBest ({ frames := 3, cells := 0, slots := 0, locals := 79 } : Room) [.ref (q 0), .int (iI m9), .int (iI s9)] (wM q cy nK st le be te ab bl ka bg ln ns me sc pi re bk th co bs gr lo) (fun r8 w8 => ∃ co2 : Int → Int, ∃ bs2 : Int → Int, ∃ gr2 : Int → Int, ∃ lo2 : Int, w8 = wM q cy nK st le be te ab bl ka bg ln ns me sc pi re bk th co2 bs2 gr2 lo2 ∧ r8 = stF (tog ka bg ln ns bk) nK m9 s9 ∧ ((s9 ≠ 0 → stF (tog ka bg ln ns bk) nK m9 s9 ≠ -100009 → lo2 = dp (tog ka bg ln ns bk) nK m9 (stF (tog ka bg ln ns bk) nK m9 s9) 0) ∧ (stF (tog ka bg ln ns bk) nK m9 s9 ≠ -100009 → ∀ k, 0 ≤ k → k < nK → gr2 k = gF (tog ka bg ln ns bk) nK m9 (stF (tog ka bg ln ns bk) nK m9 s9) k))) := by
  refine MR.ofW (cc := cX6_shareBest) (maxL := 9) (ret := (some .int)) (by decide) rfl (Nat.le_of_ble_eq_true rfl) ?_
  intro p e s m below meth c A ls X hK hP hD hA hS hl
  obtain ⟨hx, hb, hml, hr, hts, hown, hlocks⟩ := id X
  have hl : lv_has ls 9 [(0, .ref (q 0)), (1, .int (iI m9)), (2, .int (iI s9))] := hl
  have k_62 := hts (Cond.constant RX6 62 (-100009)) (by decide +kernel)
  have f_56 := hts (Cond.fieldLink RX6 56 "TwoKeysModel" "best" "[I") (by decide +kernel)
  have f_179 := hts (Cond.fieldLink RX6 179 "TwoKeysModel" "leastOf" "I") (by decide +kernel)
  have f_7 := hts (Cond.fieldLink RX6 7 "TwoKeysModel" "keys" "I") (by decide +kernel)
  have f_59 := hts (Cond.fieldLink RX6 59 "TwoKeysModel" "groups" "[I") (by decide +kernel)
  have f_53 := hts (Cond.fieldLink RX6 53 "TwoKeysModel" "cost" "[I") (by decide +kernel)
  have k_174 := hts (Cond.constant RX6 174 (1000000)) (by decide +kernel)
  have n_X6 : ∀ w ∈ u_ws RX6 TX6 21, w ∈ wsX6_shareBest := by decide +kernel
  have iK := I.nK
  have tb9 : ∀ x y, 0 ≤ (tog ka bg ln ns bk) x y ∧ (tog ka bg ln ns bk) x y ≤ 6400 := fun x y => tog_b I.ns
  have tP : ∀ x y, 0 ≤ (tog ka bg ln ns bk) x y := fun x y => (tog_b I.ns).1
  have tO : ∀ x, (tog ka bg ln ns bk) x x = 0 := fun x => tog_one
  have hP0 : ∀ x y, 0 ≤ (cw false (tog ka bg ln ns bk)) x y := fun x y => (cw_b (wo := false) tb9 x y).1
  have cb : ∀ x y, 0 ≤ (cw false (tog ka bg ln ns bk)) x y ∧ (cw false (tog ka bg ln ns bk)) x y ≤ 1000000 := cw_b (wo := false) tb9
  have db : ∀ t a, 0 ≤ dp (cw false (tog ka bg ln ns bk)) nK m9 t a ∧ dp (cw false (tog ka bg ln ns bk)) nK m9 t a ≤ 1000000 := fun t a => dp_b hP0
  refine lv_iload_n hx hb dX6_shareBest_0 rfl (lv_at hl 2 rfl) ?_
  refine z_if_ne (tgt := 8) hx hb dX6_shareBest_1 (by decide) (by omega) (fun c_1 => ?_) (fun c_1 => ?_)
  · refine lv_iconst (v := iI (0)) hx hb dX6_shareBest_8 rfl ?_
    refine lv_istore_n (lv' := [(3, .int (iI 0)), (0, .ref (q 0)), (1, .int (iI m9)), (2, .int (iI s9))]) hx hb dX6_shareBest_9 rfl hl (by decide) rfl (fun ls hl => ?_)
    refine lv_aload_n hx hb dX6_shareBest_10 rfl (lv_at hl 1 rfl) ?_
    refine lv_iload_n hx hb dX6_shareBest_11 rfl (lv_at hl 2 rfl) ?_
    refine lv_iload_n hx hb dX6_shareBest_12 rfl (lv_at hl 0 rfl) ?_
    refine z_callVw (ci := 6) (q0 := 0) (As := [.int (iI m9), .int (iI 0)]) (rest := []) X hK hP hD hA hS hl.1 gX6_shareBest_X6_look rfl ⟨rfl, rfl⟩ hd_X6_look ⟨Nat.le_of_ble_eq_true rfl, Nat.le_of_ble_eq_true rfl⟩ rfl rfl rfl (Nat.le_of_ble_eq_true rfl) ⟨Nat.zero_le _, Nat.zero_le _⟩ rfl dX6_shareBest_13 (c_X6_look I m9 false (by omega)) (fun w8 H locs hΨ hP hD hS => ?_)
    obtain ⟨co2_2, bs2_2, rfl, hq_2⟩ := hΨ
    have hq9 := hq_2
    have hb0 : ∀ c, 0 ≤ c → c ≤ 24 → bs2_2 c = dp (cw false (tog ka bg ln ns bk)) nK m9 c 0 := fun c g1 g2 => by have z := hq9.2 0 c (by omega) (by omega) g1 g2; rw [show 25 * 0 + c = c by omega] at z; exact z
    refine z_ldc (n := -100009) hx hb hown k_62 (by decide) dX6_shareBest_16 ?_
    refine lv_istore (lv' := [(4, .int (iI (-100009))), (3, .int (iI 0)), (0, .ref (q 0)), (1, .int (iI m9)), (2, .int (iI s9))]) hx hb dX6_shareBest_18 hl (by decide) rfl (fun ls hl => ?_)
    refine lv_iconst (v := iI (1)) hx hb dX6_shareBest_20 rfl ?_
    refine lv_istore (lv' := [(5, .int (iI 1)), (4, .int (iI (-100009))), (3, .int (iI 0)), (0, .ref (q 0)), (1, .int (iI m9)), (2, .int (iI s9))]) hx hb dX6_shareBest_21 hl (by decide) rfl (fun ls hl => ?_)
    have L_23 : ∀ (n : Nat) (mn : Int) (c9 : Int), (h0 : 1 ≤ c9 ∧ c9 ≤ s9 + 1) → (hf : s9 + 1 - c9 < n) → (hr : ∃ v, bsI (fun c => dp (cw false (tog ka bg ln ns bk)) nK m9 c 0) c9 mn v) → ∀ (H : Heap) (locs : List Loc) (ls : Array Slot), va_P D vwCl (wM q cy nK st le be te ab bl ka bg ln ns me sc pi re bk th co2_2 bs2_2 gr lo) H → va_D A (wM q cy nK st le be te ab bl ka bg ln ns me sc pi re bk th co2_2 bs2_2 gr lo) → va_S A s.heap H locs → lv_has ls 9 [(5, .int (iI c9)), (4, .int (iI mn)), (3, .int (iI 0)), (0, .ref (q 0)), (1, .int (iI m9)), (2, .int (iI s9))] → W p l e ({ frames := 3, cells := 0, slots := 0, locals := 79 } : Room) s m [.ref (q 0), .int (iI m9), .int (iI s9)].toArray below meth c H locs 0 0 (MQ below (zQr D cy A (fun r8 w8 => ∃ co2 : Int → Int, ∃ bs2 : Int → Int, ∃ gr2 : Int → Int, ∃ lo2 : Int, w8 = wM q cy nK st le be te ab bl ka bg ln ns me sc pi re bk th co2 bs2 gr2 lo2 ∧ r8 = stF (tog ka bg ln ns bk) nK m9 s9 ∧ ((s9 ≠ 0 → stF (tog ka bg ln ns bk) nK m9 s9 ≠ -100009 → lo2 = dp (tog ka bg ln ns bk) nK m9 (stF (tog ka bg ln ns bk) nK m9 s9) 0) ∧ (stF (tog ka bg ln ns bk) nK m9 s9 ≠ -100009 → ∀ k, 0 ≤ k → k < nK → gr2 k = gF (tog ka bg ln ns bk) nK m9 (stF (tog ka bg ln ns bk) nK m9 s9) k)))) [.ref (q 0), .int (iI m9), .int (iI s9)].toArray s 0 0 A) (F0 m 23 ls []) := by
      intro n
      induction n with
      | zero =>
        intro mn c9 h0 hf hr
        exfalso; omega
      | succ n ih_23 =>
        intro mn c9 h0 hf hr H locs ls hP hD hS hl
        have mb := bm_b hr
        have d8 := db mn 0
        have d7 := db c9 0
        refine lv_iload hx hb dX6_shareBest_23 (lv_at hl 0 rfl) ?_
        refine lv_iload_n hx hb dX6_shareBest_25 rfl (lv_at hl 2 rfl) ?_
        refine z_if_eq (tgt := 34) hx hb dX6_shareBest_26 (by decide) (by omega) (fun c_3 => ?_) (fun c_3 => ?_)
        · refine lv_iload_n hx hb dX6_shareBest_34 rfl (lv_at hl 5 rfl) ?_
          refine z_icmp_gt (tgt := 89) hx hb dX6_shareBest_35 (by decide) (by omega) (fun c_4 => ?_) (fun c_4 => ?_)
          · have eS : mn = bsF (fun c => dp (cw false (tog ka bg ln ns bk)) nK m9 c 0) s9 := by rw [show c9 = s9 + 1 by omega] at hr; exact bm_end hr
            have cE : (cw false (tog ka bg ln ns bk)) = (tog ka bg ln ns bk) := if_neg Bool.false_ne_true
            have sE : mn = stF (tog ka bg ln ns bk) nK m9 s9 := by unfold stF; rw [if_neg hz, bsF_min (by omega) (by omega) (fun t g => dp_many tP (by omega) (by omega)), ← cE]; exact eS
            have dE : dp (cw false (tog ka bg ln ns bk)) nK m9 mn 0 = dp (tog ka bg ln ns bk) nK m9 mn 0 := by rw [cE]
            have kE : ∀ g, 0 ≤ g → g ≤ mn → kb (cw false (tog ka bg ln ns bk)) nK m9 mn g = kb (tog ka bg ln ns bk) nK m9 mn g := fun g g1 g2 => by rw [cE]
            refine lv_iload hx hb dX6_shareBest_89 (lv_at hl 1 rfl) ?_
            refine z_ldc (n := -100009) hx hb hown k_62 (by decide) dX6_shareBest_91 ?_
            refine z_icmp_ne (tgt := 99) hx hb dX6_shareBest_93 (by decide) (by omega) (fun c_5 => ?_) (fun c_5 => ?_)
            · have b2 := hb0 mn (by omega) (by omega)
              have hd : dp (cw false (tog ka bg ln ns bk)) nK m9 mn 0 < 1000000 := by omega
              have en9 : mn ≤ nK := by have := dp_many (n := nK) (m := m9) (s := mn) (a := 0) hP0; omega
              refine lv_aload_n hx hb dX6_shareBest_99 rfl (lv_at hl 3 rfl) ?_
              refine lv_aload_n hx hb dX6_shareBest_100 rfl (lv_at hl 3 rfl) ?_
              refine va_get (D := D) (ci := 6) (v := .ref (q 13)) (C := RX6) (T := TX6) (N := 21) hx hb hts n_X6 hown hK hP 0 rfl rfl 18 (by decide) f_56 (fun _ h9 => h9) rfl dX6_shareBest_101 ?_
              refine lv_iload hx hb dX6_shareBest_104 (lv_at hl 1 rfl) ?_
              refine z_iald hx hb hK hP 13 0 rfl rfl (by omega) dX6_shareBest_106 ?_
              refine va_put (D := D) (ci := 6) (v := .int (iI (bs2_2 mn))) (ty := .int) (C := RX6) (T := TX6) (N := 21) hx hb hts n_X6 tyX6 tyX6_ok nmX6 hown hK hP hD hS 0 rfl rfl 20 (by decide) f_179 (fun _ h9 => h9) rfl (by decide +kernel) rfl rfl (Nat.le_of_ble_eq_true rfl) dX6_shareBest_107 (fun H locs hP hD hS => ?_)
              have hP : va_P D vwCl (wM q cy nK st le be te ab bl ka bg ln ns me sc pi re bk th co2_2 bs2_2 gr (bs2_2 mn)) H := hP
              have hD : va_D A (wM q cy nK st le be te ab bl ka bg ln ns me sc pi re bk th co2_2 bs2_2 gr (bs2_2 mn)) := hD
              refine lv_iconst (v := iI (0)) hx hb dX6_shareBest_110 rfl ?_
              refine lv_istore (lv' := [(5, .int (iI 0)), (4, .int (iI mn)), (3, .int (iI 0)), (0, .ref (q 0)), (1, .int (iI m9)), (2, .int (iI s9))]) hx hb dX6_shareBest_111 hl (by decide) rfl (fun ls hl => ?_)
              refine lv_iconst (v := iI (0)) hx hb dX6_shareBest_113 rfl ?_
              refine lv_istore (lv' := [(6, .int (iI 0)), (5, .int (iI 0)), (4, .int (iI mn)), (3, .int (iI 0)), (0, .ref (q 0)), (1, .int (iI m9)), (2, .int (iI s9))]) hx hb dX6_shareBest_114 hl (by decide) rfl (fun ls hl => ?_)
              have L_116 : ∀ (n : Nat) (a : Int) (g : Int) (gr1 : Int → Int), (h4 : 0 ≤ g ∧ g ≤ mn) → (hf4 : mn - g < n) → (ek : a = kb (cw false (tog ka bg ln ns bk)) nK m9 mn g) → (hr4 : ∀ t x, 0 ≤ t → t < g → kb (cw false (tog ka bg ln ns bk)) nK m9 mn t ≤ x → x < kb (cw false (tog ka bg ln ns bk)) nK m9 mn (t + 1) → gr1 x = t) → ∀ (H : Heap) (locs : List Loc) (ls : Array Slot), va_P D vwCl (wM q cy nK st le be te ab bl ka bg ln ns me sc pi re bk th co2_2 bs2_2 gr1 (bs2_2 mn)) H → va_D A (wM q cy nK st le be te ab bl ka bg ln ns me sc pi re bk th co2_2 bs2_2 gr1 (bs2_2 mn)) → va_S A s.heap H locs → lv_has ls 9 [(6, .int (iI g)), (5, .int (iI a)), (4, .int (iI mn)), (3, .int (iI 0)), (0, .ref (q 0)), (1, .int (iI m9)), (2, .int (iI s9))] → W p l e ({ frames := 3, cells := 0, slots := 0, locals := 79 } : Room) s m [.ref (q 0), .int (iI m9), .int (iI s9)].toArray below meth c H locs 0 0 (MQ below (zQr D cy A (fun r8 w8 => ∃ co2 : Int → Int, ∃ bs2 : Int → Int, ∃ gr2 : Int → Int, ∃ lo2 : Int, w8 = wM q cy nK st le be te ab bl ka bg ln ns me sc pi re bk th co2 bs2 gr2 lo2 ∧ r8 = stF (tog ka bg ln ns bk) nK m9 s9 ∧ ((s9 ≠ 0 → stF (tog ka bg ln ns bk) nK m9 s9 ≠ -100009 → lo2 = dp (tog ka bg ln ns bk) nK m9 (stF (tog ka bg ln ns bk) nK m9 s9) 0) ∧ (stF (tog ka bg ln ns bk) nK m9 s9 ≠ -100009 → ∀ k, 0 ≤ k → k < nK → gr2 k = gF (tog ka bg ln ns bk) nK m9 (stF (tog ka bg ln ns bk) nK m9 s9) k)))) [.ref (q 0), .int (iI m9), .int (iI s9)].toArray s 0 0 A) (F0 m 116 ls []) := by
                intro n
                induction n with
                | zero =>
                  intro a g gr1 h4 hf4 ek hr4
                  exfalso; omega
                | succ n ih_116 =>
                  intro a g gr1 h4 hf4 ek hr4 H locs ls hP hD hS hl
                  have kd := kb_dp (n := nK) (m := m9) hP0 hd (g := g) (by omega) (by omega)
                  refine lv_iload hx hb dX6_shareBest_116 (lv_at hl 0 rfl) ?_
                  refine lv_iload hx hb dX6_shareBest_118 (lv_at hl 2 rfl) ?_
                  refine z_icmp_ge (tgt := 255) hx hb dX6_shareBest_120 (by decide) (by omega) (fun c_6 => ?_) (fun c_6 => ?_)
                  · refine lv_iload hx hb dX6_shareBest_255 (lv_at hl 2 rfl) ?_
                    exact z_iretR X hK hP hD hS dX6_shareBest_257 (⟨_, _, _, _, rfl, by omega, fun _ _ => by rw [← sE, ← dE]; exact b2, fun _ k g1 g2 => by rw [← sE]; exact gF_go tP (by rw [← dE]; exact hd) (by omega) g1 g2 (fun t x q1 q2 q3 q4 => hr4 t x q1 (by omega) (by rw [kE t (by omega) (by omega)]; exact q3) (by rw [kE (t + 1) (by omega) (by omega)]; exact q4))⟩)
                  · have ku := kb_up (n := nK) (m := m9) hP0 hd (g := g) (by omega) (by omega)
                    rw [← ek] at ku kd
                    rw [kb_s (by omega), ← ek] at ku
                    refine lv_iload hx hb dX6_shareBest_123 (lv_at hl 1 rfl) ?_
                    refine lv_istore (lv' := [(7, .int (iI a)), (6, .int (iI g)), (5, .int (iI a)), (4, .int (iI mn)), (3, .int (iI 0)), (0, .ref (q 0)), (1, .int (iI m9)), (2, .int (iI s9))]) hx hb dX6_shareBest_125 hl (by decide) rfl (fun ls hl => ?_)
                    refine lv_iload hx hb dX6_shareBest_127 (lv_at hl 2 rfl) ?_
                    refine lv_istore (lv' := [(8, .int (iI a)), (7, .int (iI a)), (6, .int (iI g)), (5, .int (iI a)), (4, .int (iI mn)), (3, .int (iI 0)), (0, .ref (q 0)), (1, .int (iI m9)), (2, .int (iI s9))]) hx hb dX6_shareBest_129 hl (by decide) rfl (fun ls hl => ?_)
                    have L_131 : ∀ (n : Nat) (en : Int) (b : Int), (h5 : a ≤ b ∧ b ≤ min nK (a + m9)) → (hf5 : 25 - b < n) → (hr5 : en = ge9 (cw false (tog ka bg ln ns bk)) nK m9 (mn - g) a b) → ∀ (H : Heap) (locs : List Loc) (ls : Array Slot), va_P D vwCl (wM q cy nK st le be te ab bl ka bg ln ns me sc pi re bk th co2_2 bs2_2 gr1 (bs2_2 mn)) H → va_D A (wM q cy nK st le be te ab bl ka bg ln ns me sc pi re bk th co2_2 bs2_2 gr1 (bs2_2 mn)) → va_S A s.heap H locs → lv_has ls 9 [(8, .int (iI b)), (7, .int (iI en)), (6, .int (iI g)), (5, .int (iI a)), (4, .int (iI mn)), (3, .int (iI 0)), (0, .ref (q 0)), (1, .int (iI m9)), (2, .int (iI s9))] → W p l e ({ frames := 3, cells := 0, slots := 0, locals := 79 } : Room) s m [.ref (q 0), .int (iI m9), .int (iI s9)].toArray below meth c H locs 0 0 (MQ below (zQr D cy A (fun r8 w8 => ∃ co2 : Int → Int, ∃ bs2 : Int → Int, ∃ gr2 : Int → Int, ∃ lo2 : Int, w8 = wM q cy nK st le be te ab bl ka bg ln ns me sc pi re bk th co2 bs2 gr2 lo2 ∧ r8 = stF (tog ka bg ln ns bk) nK m9 s9 ∧ ((s9 ≠ 0 → stF (tog ka bg ln ns bk) nK m9 s9 ≠ -100009 → lo2 = dp (tog ka bg ln ns bk) nK m9 (stF (tog ka bg ln ns bk) nK m9 s9) 0) ∧ (stF (tog ka bg ln ns bk) nK m9 s9 ≠ -100009 → ∀ k, 0 ≤ k → k < nK → gr2 k = gF (tog ka bg ln ns bk) nK m9 (stF (tog ka bg ln ns bk) nK m9 s9) k)))) [.ref (q 0), .int (iI m9), .int (iI s9)].toArray s 0 0 A) (F0 m 131 ls []) := by
                      intro n
                      induction n with
                      | zero =>
                        intro en b h5 hf5 hr5
                        exfalso; omega
                      | succ n ih_131 =>
                        intro en b h5 hf5 hr5 H locs ls hP hD hS hl
                        refine lv_iload hx hb dX6_shareBest_131 (lv_at hl 0 rfl) ?_
                        refine lv_aload_n hx hb dX6_shareBest_133 rfl (lv_at hl 6 rfl) ?_
                        refine va_get (D := D) (ci := 6) (v := .int (iI nK)) (C := RX6) (T := TX6) (N := 21) hx hb hts n_X6 hown hK hP 0 rfl rfl 1 (by decide) f_7 (fun _ h9 => h9) rfl dX6_shareBest_134 ?_
                        refine z_icmp_ge (tgt := 217) hx hb dX6_shareBest_137 (by decide) (by omega) (fun c_7 => ?_) (fun c_7 => ?_)
                        · have e7 : en + 1 = nx (cw false (tog ka bg ln ns bk)) nK m9 (mn - g) a := by rw [hr5, show b = min nK (a + m9) by omega]; exact ge9_nx hP0 (by omega) (by omega)
                          refine lv_iload hx hb dX6_shareBest_217 (lv_at hl 3 rfl) ?_
                          refine lv_istore (lv' := [(8, .int (iI a)), (7, .int (iI en)), (6, .int (iI g)), (5, .int (iI a)), (4, .int (iI mn)), (3, .int (iI 0)), (0, .ref (q 0)), (1, .int (iI m9)), (2, .int (iI s9))]) hx hb dX6_shareBest_219 hl (by decide) rfl (fun ls hl => ?_)
                          have L_221 : ∀ (n : Nat) (x : Int) (gr3 : Int → Int), (h6 : a ≤ x ∧ x ≤ en + 1) → (hf6 : en + 1 - x < n) → (hr6 : ∀ y, y < a → gr3 y = gr1 y) → (hr7 : ∀ y, a ≤ y → y < x → gr3 y = g) → ∀ (H : Heap) (locs : List Loc) (ls : Array Slot), va_P D vwCl (wM q cy nK st le be te ab bl ka bg ln ns me sc pi re bk th co2_2 bs2_2 gr3 (bs2_2 mn)) H → va_D A (wM q cy nK st le be te ab bl ka bg ln ns me sc pi re bk th co2_2 bs2_2 gr3 (bs2_2 mn)) → va_S A s.heap H locs → lv_has ls 9 [(8, .int (iI x)), (7, .int (iI en)), (6, .int (iI g)), (5, .int (iI a)), (4, .int (iI mn)), (3, .int (iI 0)), (0, .ref (q 0)), (1, .int (iI m9)), (2, .int (iI s9))] → W p l e ({ frames := 3, cells := 0, slots := 0, locals := 79 } : Room) s m [.ref (q 0), .int (iI m9), .int (iI s9)].toArray below meth c H locs 0 0 (MQ below (zQr D cy A (fun r8 w8 => ∃ co2 : Int → Int, ∃ bs2 : Int → Int, ∃ gr2 : Int → Int, ∃ lo2 : Int, w8 = wM q cy nK st le be te ab bl ka bg ln ns me sc pi re bk th co2 bs2 gr2 lo2 ∧ r8 = stF (tog ka bg ln ns bk) nK m9 s9 ∧ ((s9 ≠ 0 → stF (tog ka bg ln ns bk) nK m9 s9 ≠ -100009 → lo2 = dp (tog ka bg ln ns bk) nK m9 (stF (tog ka bg ln ns bk) nK m9 s9) 0) ∧ (stF (tog ka bg ln ns bk) nK m9 s9 ≠ -100009 → ∀ k, 0 ≤ k → k < nK → gr2 k = gF (tog ka bg ln ns bk) nK m9 (stF (tog ka bg ln ns bk) nK m9 s9) k)))) [.ref (q 0), .int (iI m9), .int (iI s9)].toArray s 0 0 A) (F0 m 221 ls []) := by
                            intro n
                            induction n with
                            | zero =>
                              intro x gr3 h6 hf6 hr6 hr7
                              exfalso; omega
                            | succ n ih_221 =>
                              intro x gr3 h6 hf6 hr6 hr7 H locs ls hP hD hS hl
                              refine lv_iload hx hb dX6_shareBest_221 (lv_at hl 0 rfl) ?_
                              refine lv_iload hx hb dX6_shareBest_223 (lv_at hl 1 rfl) ?_
                              refine z_icmp_gt (tgt := 243) hx hb dX6_shareBest_225 (by decide) (by omega) (fun c_8 => ?_) (fun c_8 => ?_)
                              · refine lv_iload hx hb dX6_shareBest_243 (lv_at hl 1 rfl) ?_
                                refine lv_iconst (v := iI (1)) hx hb dX6_shareBest_245 rfl ?_
                                refine z_iadd hx hb dX6_shareBest_246 ?_
                                refine lv_istore (lv' := [(5, .int (iI (en + 1))), (8, .int (iI x)), (7, .int (iI en)), (6, .int (iI g)), (4, .int (iI mn)), (3, .int (iI 0)), (0, .ref (q 0)), (1, .int (iI m9)), (2, .int (iI s9))]) hx hb dX6_shareBest_247 hl (by decide) rfl (fun ls hl => ?_)
                                refine lv_iinc (v := iI (g + 1)) (lv' := [(6, .int (iI (g + 1))), (5, .int (iI (en + 1))), (8, .int (iI x)), (7, .int (iI en)), (4, .int (iI mn)), (3, .int (iI 0)), (0, .ref (q 0)), (1, .int (iI m9)), (2, .int (iI s9))]) hx hb dX6_shareBest_249 hl (k := 3) rfl (iI_add _ _) (by decide) rfl (fun ls hl => ?_)
                                refine lv_goto (tgt := 116) hx hb dX6_shareBest_252 (by decide) ?_
                                exact ih_116 (en + 1) (g + 1) gr3 (by omega) (by omega) (by rw [kb_s (by omega), ← ek, ← e7]) (fun t x g1 g2 g3 g4 => by rcases (show t < g ∨ t = g by omega) with z | z; (rw [hr6 x (by have := kb_le (n := nK) (m := m9) hP0 hd (t := t + 1) (g := g) (by omega) (by omega) (by omega); omega)]; exact hr4 t x g1 z g3 g4); (rw [z] at g3 g4 ⊢; exact hr7 x (by omega) (by rw [kb_s (by omega), ← ek, ← e7] at g4; omega))) _ _ _ hP hD hS (lv_sub hl [0, 1, 4, 5, 6, 7, 8] rfl)
                              · refine lv_aload_n hx hb dX6_shareBest_228 rfl (lv_at hl 6 rfl) ?_
                                refine va_get (D := D) (ci := 6) (v := .ref (q 14)) (C := RX6) (T := TX6) (N := 21) hx hb hts n_X6 hown hK hP 0 rfl rfl 19 (by decide) f_59 (fun _ h9 => h9) rfl dX6_shareBest_229 ?_
                                refine lv_iload hx hb dX6_shareBest_232 (lv_at hl 0 rfl) ?_
                                refine lv_iload hx hb dX6_shareBest_234 (lv_at hl 2 rfl) ?_
                                refine z_iast (v := g) hx hb hK hP hD hS 14 0 rfl rfl (by omega) dX6_shareBest_236 (fun H locs hP hD hS => ?_)
                                have hP : va_P D vwCl (wM q cy nK st le be te ab bl ka bg ln ns me sc pi re bk th co2_2 bs2_2 (uZ gr3 x g) (bs2_2 mn)) H := hP
                                have hD : va_D A (wM q cy nK st le be te ab bl ka bg ln ns me sc pi re bk th co2_2 bs2_2 (uZ gr3 x g) (bs2_2 mn)) := hD
                                refine lv_iinc (v := iI (x + 1)) (lv' := [(8, .int (iI (x + 1))), (7, .int (iI en)), (6, .int (iI g)), (5, .int (iI a)), (4, .int (iI mn)), (3, .int (iI 0)), (0, .ref (q 0)), (1, .int (iI m9)), (2, .int (iI s9))]) hx hb dX6_shareBest_237 hl (k := 0) rfl (iI_add _ _) (by decide) rfl (fun ls hl => ?_)
                                refine lv_goto (tgt := 221) hx hb dX6_shareBest_240 (by decide) ?_
                                exact ih_221 (x + 1) (uZ gr3 x g) (by omega) (by omega) (fun y g1 => by rw [uZ_other (by omega)]; exact hr6 y g1) (fun y g1 g2 => by rcases (show y < x ∨ y = x by omega) with z | z; (rw [uZ_other (by omega)]; exact hr7 y g1 z); (rw [z, uZ_same])) _ _ _ hP hD hS (lv_sub hl [0, 1, 2, 3, 4, 5, 6, 7, 8] rfl)
                          exact L_221 25 a gr1 (by omega) (by omega) (fun y _ => rfl) (fun y _ _ => by omega) _ _ _ hP hD hS (lv_sub hl [0, 1, 2, 3, 4, 5, 6, 7, 8] rfl)
                        · refine lv_iload hx hb dX6_shareBest_140 (lv_at hl 0 rfl) ?_
                          refine lv_iload hx hb dX6_shareBest_142 (lv_at hl 3 rfl) ?_
                          refine lv_iload_n hx hb dX6_shareBest_144 rfl (lv_at hl 7 rfl) ?_
                          refine z_iadd hx hb dX6_shareBest_145 ?_
                          refine z_icmp_ge (tgt := 217) hx hb dX6_shareBest_146 (by decide) (by omega) (fun c_9 => ?_) (fun c_9 => ?_)
                          · have e7 : en + 1 = nx (cw false (tog ka bg ln ns bk)) nK m9 (mn - g) a := by rw [hr5, show b = min nK (a + m9) by omega]; exact ge9_nx hP0 (by omega) (by omega)
                            refine lv_iload hx hb dX6_shareBest_217 (lv_at hl 3 rfl) ?_
                            refine lv_istore (lv' := [(8, .int (iI a)), (7, .int (iI en)), (6, .int (iI g)), (5, .int (iI a)), (4, .int (iI mn)), (3, .int (iI 0)), (0, .ref (q 0)), (1, .int (iI m9)), (2, .int (iI s9))]) hx hb dX6_shareBest_219 hl (by decide) rfl (fun ls hl => ?_)
                            have L_221 : ∀ (n : Nat) (x : Int) (gr3 : Int → Int), (h6 : a ≤ x ∧ x ≤ en + 1) → (hf6 : en + 1 - x < n) → (hr6 : ∀ y, y < a → gr3 y = gr1 y) → (hr7 : ∀ y, a ≤ y → y < x → gr3 y = g) → ∀ (H : Heap) (locs : List Loc) (ls : Array Slot), va_P D vwCl (wM q cy nK st le be te ab bl ka bg ln ns me sc pi re bk th co2_2 bs2_2 gr3 (bs2_2 mn)) H → va_D A (wM q cy nK st le be te ab bl ka bg ln ns me sc pi re bk th co2_2 bs2_2 gr3 (bs2_2 mn)) → va_S A s.heap H locs → lv_has ls 9 [(8, .int (iI x)), (7, .int (iI en)), (6, .int (iI g)), (5, .int (iI a)), (4, .int (iI mn)), (3, .int (iI 0)), (0, .ref (q 0)), (1, .int (iI m9)), (2, .int (iI s9))] → W p l e ({ frames := 3, cells := 0, slots := 0, locals := 79 } : Room) s m [.ref (q 0), .int (iI m9), .int (iI s9)].toArray below meth c H locs 0 0 (MQ below (zQr D cy A (fun r8 w8 => ∃ co2 : Int → Int, ∃ bs2 : Int → Int, ∃ gr2 : Int → Int, ∃ lo2 : Int, w8 = wM q cy nK st le be te ab bl ka bg ln ns me sc pi re bk th co2 bs2 gr2 lo2 ∧ r8 = stF (tog ka bg ln ns bk) nK m9 s9 ∧ ((s9 ≠ 0 → stF (tog ka bg ln ns bk) nK m9 s9 ≠ -100009 → lo2 = dp (tog ka bg ln ns bk) nK m9 (stF (tog ka bg ln ns bk) nK m9 s9) 0) ∧ (stF (tog ka bg ln ns bk) nK m9 s9 ≠ -100009 → ∀ k, 0 ≤ k → k < nK → gr2 k = gF (tog ka bg ln ns bk) nK m9 (stF (tog ka bg ln ns bk) nK m9 s9) k)))) [.ref (q 0), .int (iI m9), .int (iI s9)].toArray s 0 0 A) (F0 m 221 ls []) := by
                              intro n
                              induction n with
                              | zero =>
                                intro x gr3 h6 hf6 hr6 hr7
                                exfalso; omega
                              | succ n ih_221 =>
                                intro x gr3 h6 hf6 hr6 hr7 H locs ls hP hD hS hl
                                refine lv_iload hx hb dX6_shareBest_221 (lv_at hl 0 rfl) ?_
                                refine lv_iload hx hb dX6_shareBest_223 (lv_at hl 1 rfl) ?_
                                refine z_icmp_gt (tgt := 243) hx hb dX6_shareBest_225 (by decide) (by omega) (fun c_10 => ?_) (fun c_10 => ?_)
                                · refine lv_iload hx hb dX6_shareBest_243 (lv_at hl 1 rfl) ?_
                                  refine lv_iconst (v := iI (1)) hx hb dX6_shareBest_245 rfl ?_
                                  refine z_iadd hx hb dX6_shareBest_246 ?_
                                  refine lv_istore (lv' := [(5, .int (iI (en + 1))), (8, .int (iI x)), (7, .int (iI en)), (6, .int (iI g)), (4, .int (iI mn)), (3, .int (iI 0)), (0, .ref (q 0)), (1, .int (iI m9)), (2, .int (iI s9))]) hx hb dX6_shareBest_247 hl (by decide) rfl (fun ls hl => ?_)
                                  refine lv_iinc (v := iI (g + 1)) (lv' := [(6, .int (iI (g + 1))), (5, .int (iI (en + 1))), (8, .int (iI x)), (7, .int (iI en)), (4, .int (iI mn)), (3, .int (iI 0)), (0, .ref (q 0)), (1, .int (iI m9)), (2, .int (iI s9))]) hx hb dX6_shareBest_249 hl (k := 3) rfl (iI_add _ _) (by decide) rfl (fun ls hl => ?_)
                                  refine lv_goto (tgt := 116) hx hb dX6_shareBest_252 (by decide) ?_
                                  exact ih_116 (en + 1) (g + 1) gr3 (by omega) (by omega) (by rw [kb_s (by omega), ← ek, ← e7]) (fun t x g1 g2 g3 g4 => by rcases (show t < g ∨ t = g by omega) with z | z; (rw [hr6 x (by have := kb_le (n := nK) (m := m9) hP0 hd (t := t + 1) (g := g) (by omega) (by omega) (by omega); omega)]; exact hr4 t x g1 z g3 g4); (rw [z] at g3 g4 ⊢; exact hr7 x (by omega) (by rw [kb_s (by omega), ← ek, ← e7] at g4; omega))) _ _ _ hP hD hS (lv_sub hl [0, 1, 4, 5, 6, 7, 8] rfl)
                                · refine lv_aload_n hx hb dX6_shareBest_228 rfl (lv_at hl 6 rfl) ?_
                                  refine va_get (D := D) (ci := 6) (v := .ref (q 14)) (C := RX6) (T := TX6) (N := 21) hx hb hts n_X6 hown hK hP 0 rfl rfl 19 (by decide) f_59 (fun _ h9 => h9) rfl dX6_shareBest_229 ?_
                                  refine lv_iload hx hb dX6_shareBest_232 (lv_at hl 0 rfl) ?_
                                  refine lv_iload hx hb dX6_shareBest_234 (lv_at hl 2 rfl) ?_
                                  refine z_iast (v := g) hx hb hK hP hD hS 14 0 rfl rfl (by omega) dX6_shareBest_236 (fun H locs hP hD hS => ?_)
                                  have hP : va_P D vwCl (wM q cy nK st le be te ab bl ka bg ln ns me sc pi re bk th co2_2 bs2_2 (uZ gr3 x g) (bs2_2 mn)) H := hP
                                  have hD : va_D A (wM q cy nK st le be te ab bl ka bg ln ns me sc pi re bk th co2_2 bs2_2 (uZ gr3 x g) (bs2_2 mn)) := hD
                                  refine lv_iinc (v := iI (x + 1)) (lv' := [(8, .int (iI (x + 1))), (7, .int (iI en)), (6, .int (iI g)), (5, .int (iI a)), (4, .int (iI mn)), (3, .int (iI 0)), (0, .ref (q 0)), (1, .int (iI m9)), (2, .int (iI s9))]) hx hb dX6_shareBest_237 hl (k := 0) rfl (iI_add _ _) (by decide) rfl (fun ls hl => ?_)
                                  refine lv_goto (tgt := 221) hx hb dX6_shareBest_240 (by decide) ?_
                                  exact ih_221 (x + 1) (uZ gr3 x g) (by omega) (by omega) (fun y g1 => by rw [uZ_other (by omega)]; exact hr6 y g1) (fun y g1 g2 => by rcases (show y < x ∨ y = x by omega) with z | z; (rw [uZ_other (by omega)]; exact hr7 y g1 z); (rw [z, uZ_same])) _ _ _ hP hD hS (lv_sub hl [0, 1, 2, 3, 4, 5, 6, 7, 8] rfl)
                            exact L_221 25 a gr1 (by omega) (by omega) (fun y _ => rfl) (fun y _ _ => by omega) _ _ _ hP hD hS (lv_sub hl [0, 1, 2, 3, 4, 5, 6, 7, 8] rfl)
                          · have e1 := hq9.1 a b (by omega) (by omega) (by omega) (by omega)
                            have e2 := hq9.2 (b + 1) (mn - g - 1) (by omega) (by omega) (by omega) (by omega)
                            rw [show 25 * (b + 1) + (mn - g - 1) = 25 * (b + 1) + mn - g - 1 by omega] at e2
                            have e3 := cb a b
                            have e4 := db (mn - g - 1) (b + 1)
                            have e5 := hq9.2 a (mn - g) (by omega) (by omega) (by omega) (by omega)
                            rw [show 25 * a + (mn - g) = 25 * a + mn - g by omega] at e5
                            have e6 := db (mn - g) a
                            refine lv_aload_n hx hb dX6_shareBest_149 rfl (lv_at hl 6 rfl) ?_
                            refine va_get (D := D) (ci := 6) (v := .ref (q 12)) (C := RX6) (T := TX6) (N := 21) hx hb hts n_X6 hown hK hP 0 rfl rfl 17 (by decide) f_53 (fun _ h9 => h9) rfl dX6_shareBest_150 ?_
                            refine lv_bipush (v := iI (24)) hx hb dX6_shareBest_153 (by decide) ?_
                            refine lv_iload hx hb dX6_shareBest_155 (lv_at hl 3 rfl) ?_
                            refine z_imul hx hb dX6_shareBest_157 ?_
                            refine lv_iload hx hb dX6_shareBest_158 (lv_at hl 0 rfl) ?_
                            refine z_iadd hx hb dX6_shareBest_160 ?_
                            refine z_iald hx hb hK hP 12 0 rfl rfl (by omega) dX6_shareBest_161 ?_
                            refine lv_aload_n hx hb dX6_shareBest_162 rfl (lv_at hl 6 rfl) ?_
                            refine va_get (D := D) (ci := 6) (v := .ref (q 13)) (C := RX6) (T := TX6) (N := 21) hx hb hts n_X6 hown hK hP 0 rfl rfl 18 (by decide) f_56 (fun _ h9 => h9) rfl dX6_shareBest_163 ?_
                            refine lv_bipush (v := iI (25)) hx hb dX6_shareBest_166 (by decide) ?_
                            refine lv_iload hx hb dX6_shareBest_168 (lv_at hl 0 rfl) ?_
                            refine lv_iconst (v := iI (1)) hx hb dX6_shareBest_170 rfl ?_
                            refine z_iadd hx hb dX6_shareBest_171 ?_
                            refine z_imul hx hb dX6_shareBest_172 ?_
                            refine lv_iload hx hb dX6_shareBest_173 (lv_at hl 4 rfl) ?_
                            refine z_iadd hx hb dX6_shareBest_175 ?_
                            refine lv_iload hx hb dX6_shareBest_176 (lv_at hl 2 rfl) ?_
                            refine z_isub hx hb dX6_shareBest_178 ?_
                            refine lv_iconst (v := iI (1)) hx hb dX6_shareBest_179 rfl ?_
                            refine z_isub hx hb dX6_shareBest_180 ?_
                            refine z_iald hx hb hK hP 13 0 rfl rfl (by omega) dX6_shareBest_181 ?_
                            refine z_iadd hx hb dX6_shareBest_182 ?_
                            refine lv_aload_n hx hb dX6_shareBest_183 rfl (lv_at hl 6 rfl) ?_
                            refine va_get (D := D) (ci := 6) (v := .ref (q 13)) (C := RX6) (T := TX6) (N := 21) hx hb hts n_X6 hown hK hP 0 rfl rfl 18 (by decide) f_56 (fun _ h9 => h9) rfl dX6_shareBest_184 ?_
                            refine lv_bipush (v := iI (25)) hx hb dX6_shareBest_187 (by decide) ?_
                            refine lv_iload hx hb dX6_shareBest_189 (lv_at hl 3 rfl) ?_
                            refine z_imul hx hb dX6_shareBest_191 ?_
                            refine lv_iload hx hb dX6_shareBest_192 (lv_at hl 4 rfl) ?_
                            refine z_iadd hx hb dX6_shareBest_194 ?_
                            refine lv_iload hx hb dX6_shareBest_195 (lv_at hl 2 rfl) ?_
                            refine z_isub hx hb dX6_shareBest_197 ?_
                            refine z_iald hx hb hK hP 13 0 rfl rfl (by omega) dX6_shareBest_198 ?_
                            refine z_icmp_ne (tgt := 207) hx hb dX6_shareBest_199 (by decide) (by omega) (fun c_11 => ?_) (fun c_11 => ?_)
                            · refine lv_iload hx hb dX6_shareBest_207 (lv_at hl 1 rfl) ?_
                              refine lv_istore (lv' := [(7, .int (iI en)), (8, .int (iI b)), (6, .int (iI g)), (5, .int (iI a)), (4, .int (iI mn)), (3, .int (iI 0)), (0, .ref (q 0)), (1, .int (iI m9)), (2, .int (iI s9))]) hx hb dX6_shareBest_209 hl (by decide) rfl (fun ls hl => ?_)
                              refine lv_iinc (v := iI (b + 1)) (lv' := [(8, .int (iI (b + 1))), (7, .int (iI en)), (6, .int (iI g)), (5, .int (iI a)), (4, .int (iI mn)), (3, .int (iI 0)), (0, .ref (q 0)), (1, .int (iI m9)), (2, .int (iI s9))]) hx hb dX6_shareBest_211 hl (k := 1) rfl (iI_add _ _) (by decide) rfl (fun ls hl => ?_)
                              refine lv_goto (tgt := 131) hx hb dX6_shareBest_214 (by decide) ?_
                              exact ih_131 en (b + 1) (by omega) (by omega) (by rw [ge9_s (by omega)]; first | (rw [if_pos (by omega)]; done) | (rw [if_neg (by omega)]; exact hr5)) _ _ _ hP hD hS (lv_sub hl [0, 1, 2, 3, 4, 5, 6, 7, 8] rfl)
                            · refine lv_iload hx hb dX6_shareBest_202 (lv_at hl 0 rfl) ?_
                              refine lv_goto (tgt := 209) hx hb dX6_shareBest_204 (by decide) ?_
                              refine lv_istore (lv' := [(7, .int (iI b)), (8, .int (iI b)), (6, .int (iI g)), (5, .int (iI a)), (4, .int (iI mn)), (3, .int (iI 0)), (0, .ref (q 0)), (1, .int (iI m9)), (2, .int (iI s9))]) hx hb dX6_shareBest_209 hl (by decide) rfl (fun ls hl => ?_)
                              refine lv_iinc (v := iI (b + 1)) (lv' := [(8, .int (iI (b + 1))), (7, .int (iI b)), (6, .int (iI g)), (5, .int (iI a)), (4, .int (iI mn)), (3, .int (iI 0)), (0, .ref (q 0)), (1, .int (iI m9)), (2, .int (iI s9))]) hx hb dX6_shareBest_211 hl (k := 1) rfl (iI_add _ _) (by decide) rfl (fun ls hl => ?_)
                              refine lv_goto (tgt := 131) hx hb dX6_shareBest_214 (by decide) ?_
                              exact ih_131 b (b + 1) (by omega) (by omega) (by rw [ge9_s (by omega)]; first | (rw [if_pos (by omega)]; done) | (rw [if_neg (by omega)]; exact hr5)) _ _ _ hP hD hS (lv_sub hl [0, 1, 2, 3, 4, 5, 6, 7, 8] rfl)
                    exact L_131 27 a a (by omega) (by omega) ge9_0.symm _ _ _ hP hD hS (lv_sub hl [0, 1, 2, 3, 4, 5, 6, 7, 8] rfl)
              exact L_116 25 0 0 gr (by omega) (by omega) kb_0.symm (fun t x _ _ => by omega) _ _ _ hP hD hS (lv_sub hl [0, 1, 2, 3, 4, 5, 6] rfl)
            · refine z_ldc (n := -100009) hx hb hown k_62 (by decide) dX6_shareBest_96 ?_
              exact z_iretR X hK hP hD hS dX6_shareBest_98 (⟨_, _, _, _, rfl, by omega, fun _ z => absurd (by omega) z, fun z => absurd (by omega) z⟩)
          · have b1 := hb0 c9 (by omega) (by omega)
            refine lv_aload_n hx hb dX6_shareBest_38 rfl (lv_at hl 3 rfl) ?_
            refine va_get (D := D) (ci := 6) (v := .ref (q 13)) (C := RX6) (T := TX6) (N := 21) hx hb hts n_X6 hown hK hP 0 rfl rfl 18 (by decide) f_56 (fun _ h9 => h9) rfl dX6_shareBest_39 ?_
            refine lv_iload hx hb dX6_shareBest_42 (lv_at hl 0 rfl) ?_
            refine z_iald hx hb hK hP 13 0 rfl rfl (by omega) dX6_shareBest_44 ?_
            refine z_ldc (n := 1000000) hx hb hown k_174 (by decide) dX6_shareBest_45 ?_
            refine z_icmp_ge (tgt := 79) hx hb dX6_shareBest_47 (by decide) (by omega) (fun c_12 => ?_) (fun c_12 => ?_)
            · refine lv_iload hx hb dX6_shareBest_79 (lv_at hl 1 rfl) ?_
              refine lv_istore (lv' := [(4, .int (iI mn)), (5, .int (iI c9)), (3, .int (iI 0)), (0, .ref (q 0)), (1, .int (iI m9)), (2, .int (iI s9))]) hx hb dX6_shareBest_81 hl (by decide) rfl (fun ls hl => ?_)
              refine lv_iinc (v := iI (c9 + 1)) (lv' := [(5, .int (iI (c9 + 1))), (4, .int (iI mn)), (3, .int (iI 0)), (0, .ref (q 0)), (1, .int (iI m9)), (2, .int (iI s9))]) hx hb dX6_shareBest_83 hl (k := 1) rfl (iI_add _ _) (by decide) rfl (fun ls hl => ?_)
              refine lv_goto (tgt := 23) hx hb dX6_shareBest_86 (by decide) ?_
              exact ih_23 mn (c9 + 1) (by omega) (by omega) (by first | exact bm_far hr (by show 1000000 ≤ dp (cw false (tog ka bg ln ns bk)) nK m9 c9 0; omega) | exact bm_new hr (by omega) (by assumption) (by show dp (cw false (tog ka bg ln ns bk)) nK m9 c9 0 < 1000000; omega) | exact bm_lt hr (by omega) (by assumption) (by show dp (cw false (tog ka bg ln ns bk)) nK m9 c9 0 < dp (cw false (tog ka bg ln ns bk)) nK m9 mn 0; omega) | exact bm_ge hr (by assumption) (by show dp (cw false (tog ka bg ln ns bk)) nK m9 mn 0 ≤ dp (cw false (tog ka bg ln ns bk)) nK m9 c9 0; omega)) _ _ _ hP hD hS (lv_sub hl [0, 1, 2, 3, 4, 5] rfl)
            · refine lv_iload hx hb dX6_shareBest_50 (lv_at hl 1 rfl) ?_
              refine z_ldc (n := -100009) hx hb hown k_62 (by decide) dX6_shareBest_52 ?_
              refine z_icmp_eq (tgt := 74) hx hb dX6_shareBest_54 (by decide) (by omega) (fun c_13 => ?_) (fun c_13 => ?_)
              · refine lv_iload hx hb dX6_shareBest_74 (lv_at hl 0 rfl) ?_
                refine lv_goto (tgt := 81) hx hb dX6_shareBest_76 (by decide) ?_
                refine lv_istore (lv' := [(4, .int (iI c9)), (5, .int (iI c9)), (3, .int (iI 0)), (0, .ref (q 0)), (1, .int (iI m9)), (2, .int (iI s9))]) hx hb dX6_shareBest_81 hl (by decide) rfl (fun ls hl => ?_)
                refine lv_iinc (v := iI (c9 + 1)) (lv' := [(5, .int (iI (c9 + 1))), (4, .int (iI c9)), (3, .int (iI 0)), (0, .ref (q 0)), (1, .int (iI m9)), (2, .int (iI s9))]) hx hb dX6_shareBest_83 hl (k := 1) rfl (iI_add _ _) (by decide) rfl (fun ls hl => ?_)
                refine lv_goto (tgt := 23) hx hb dX6_shareBest_86 (by decide) ?_
                exact ih_23 c9 (c9 + 1) (by omega) (by omega) (by first | exact bm_far hr (by show 1000000 ≤ dp (cw false (tog ka bg ln ns bk)) nK m9 c9 0; omega) | exact bm_new hr (by omega) (by assumption) (by show dp (cw false (tog ka bg ln ns bk)) nK m9 c9 0 < 1000000; omega) | exact bm_lt hr (by omega) (by assumption) (by show dp (cw false (tog ka bg ln ns bk)) nK m9 c9 0 < dp (cw false (tog ka bg ln ns bk)) nK m9 mn 0; omega) | exact bm_ge hr (by assumption) (by show dp (cw false (tog ka bg ln ns bk)) nK m9 mn 0 ≤ dp (cw false (tog ka bg ln ns bk)) nK m9 c9 0; omega)) _ _ _ hP hD hS (lv_sub hl [0, 1, 2, 3, 4, 5] rfl)
              · have b2 := hb0 mn (by omega) (by omega)
                refine lv_aload_n hx hb dX6_shareBest_57 rfl (lv_at hl 3 rfl) ?_
                refine va_get (D := D) (ci := 6) (v := .ref (q 13)) (C := RX6) (T := TX6) (N := 21) hx hb hts n_X6 hown hK hP 0 rfl rfl 18 (by decide) f_56 (fun _ h9 => h9) rfl dX6_shareBest_58 ?_
                refine lv_iload hx hb dX6_shareBest_61 (lv_at hl 0 rfl) ?_
                refine z_iald hx hb hK hP 13 0 rfl rfl (by omega) dX6_shareBest_63 ?_
                refine lv_aload_n hx hb dX6_shareBest_64 rfl (lv_at hl 3 rfl) ?_
                refine va_get (D := D) (ci := 6) (v := .ref (q 13)) (C := RX6) (T := TX6) (N := 21) hx hb hts n_X6 hown hK hP 0 rfl rfl 18 (by decide) f_56 (fun _ h9 => h9) rfl dX6_shareBest_65 ?_
                refine lv_iload hx hb dX6_shareBest_68 (lv_at hl 1 rfl) ?_
                refine z_iald hx hb hK hP 13 0 rfl rfl (by omega) dX6_shareBest_70 ?_
                refine z_icmp_ge (tgt := 79) hx hb dX6_shareBest_71 (by decide) (by omega) (fun c_14 => ?_) (fun c_14 => ?_)
                · refine lv_iload hx hb dX6_shareBest_79 (lv_at hl 1 rfl) ?_
                  refine lv_istore (lv' := [(4, .int (iI mn)), (5, .int (iI c9)), (3, .int (iI 0)), (0, .ref (q 0)), (1, .int (iI m9)), (2, .int (iI s9))]) hx hb dX6_shareBest_81 hl (by decide) rfl (fun ls hl => ?_)
                  refine lv_iinc (v := iI (c9 + 1)) (lv' := [(5, .int (iI (c9 + 1))), (4, .int (iI mn)), (3, .int (iI 0)), (0, .ref (q 0)), (1, .int (iI m9)), (2, .int (iI s9))]) hx hb dX6_shareBest_83 hl (k := 1) rfl (iI_add _ _) (by decide) rfl (fun ls hl => ?_)
                  refine lv_goto (tgt := 23) hx hb dX6_shareBest_86 (by decide) ?_
                  exact ih_23 mn (c9 + 1) (by omega) (by omega) (by first | exact bm_far hr (by show 1000000 ≤ dp (cw false (tog ka bg ln ns bk)) nK m9 c9 0; omega) | exact bm_new hr (by omega) (by assumption) (by show dp (cw false (tog ka bg ln ns bk)) nK m9 c9 0 < 1000000; omega) | exact bm_lt hr (by omega) (by assumption) (by show dp (cw false (tog ka bg ln ns bk)) nK m9 c9 0 < dp (cw false (tog ka bg ln ns bk)) nK m9 mn 0; omega) | exact bm_ge hr (by assumption) (by show dp (cw false (tog ka bg ln ns bk)) nK m9 mn 0 ≤ dp (cw false (tog ka bg ln ns bk)) nK m9 c9 0; omega)) _ _ _ hP hD hS (lv_sub hl [0, 1, 2, 3, 4, 5] rfl)
                · refine lv_iload hx hb dX6_shareBest_74 (lv_at hl 0 rfl) ?_
                  refine lv_goto (tgt := 81) hx hb dX6_shareBest_76 (by decide) ?_
                  refine lv_istore (lv' := [(4, .int (iI c9)), (5, .int (iI c9)), (3, .int (iI 0)), (0, .ref (q 0)), (1, .int (iI m9)), (2, .int (iI s9))]) hx hb dX6_shareBest_81 hl (by decide) rfl (fun ls hl => ?_)
                  refine lv_iinc (v := iI (c9 + 1)) (lv' := [(5, .int (iI (c9 + 1))), (4, .int (iI c9)), (3, .int (iI 0)), (0, .ref (q 0)), (1, .int (iI m9)), (2, .int (iI s9))]) hx hb dX6_shareBest_83 hl (k := 1) rfl (iI_add _ _) (by decide) rfl (fun ls hl => ?_)
                  refine lv_goto (tgt := 23) hx hb dX6_shareBest_86 (by decide) ?_
                  exact ih_23 c9 (c9 + 1) (by omega) (by omega) (by first | exact bm_far hr (by show 1000000 ≤ dp (cw false (tog ka bg ln ns bk)) nK m9 c9 0; omega) | exact bm_new hr (by omega) (by assumption) (by show dp (cw false (tog ka bg ln ns bk)) nK m9 c9 0 < 1000000; omega) | exact bm_lt hr (by omega) (by assumption) (by show dp (cw false (tog ka bg ln ns bk)) nK m9 c9 0 < dp (cw false (tog ka bg ln ns bk)) nK m9 mn 0; omega) | exact bm_ge hr (by assumption) (by show dp (cw false (tog ka bg ln ns bk)) nK m9 mn 0 ≤ dp (cw false (tog ka bg ln ns bk)) nK m9 c9 0; omega)) _ _ _ hP hD hS (lv_sub hl [0, 1, 2, 3, 4, 5] rfl)
        · exact absurd c_3 (by decide)
    exact L_23 26 (-100009) 1 (by omega) (by omega) bm_0 _ _ _ hP hD hS (lv_sub hl [0, 1, 2, 3, 4, 5] rfl)
  · exact absurd c_1 (by omega)
