variable {l : Launch} {D : va_G} {cy : ClassId} {q : Nat → Nat} {nK sc pi re bk ss sm pf mf th lo : Int} {st le be te ab bl ka bg ln ns me pa lz go co bs gr : Int → Int}
theorem hd_X5_tuneOne : yX5_tuneOne.cls = RX5 ∧ yX5_tuneOne.cls ≠ "java/lang/invoke/MethodHandle" ∧ yX5_tuneOne.cls ≠ "java/lang/invoke/VarHandle" ∧ (parseMethodDescriptor yX5_tuneOne.desc).map (fun d => d.parameters.length) = some 1 := by decide +kernel
set_option maxHeartbeats 4000000 in
set_option maxRecDepth 100000 in
theorem c_X5_tuneOne (I : okS nK st le be te ab bl ka bg ln ns me sc pi re bk) (k : Int) (h : 0 ≤ k ∧ k < 24) : MV l D cy yX5_tuneOne wsX5_tuneOne ({ frames := 2, cells := 0, slots := 0, locals := 47 } : Room) [.ref (q 0), .int (iI k)] (wT q cy nK st le be te ab bl ka bg ln ns me sc pi re bk pa lz go ss sm pf mf) (wT q cy nK st le (uZ be k (tb (fun v => aZ (te (st k) * 10000 / (le k + v) - gl ab bl sc pi k)))) te ab bl ka bg ln ns me sc pi re bk pa lz go ss sm pf mf) := by
  refine MV.ofW (cc := cX5_tuneOne) (maxL := 8) (ret := none) (by decide) rfl (Nat.le_of_ble_eq_true rfl) ?_
  intro p e s m below meth c A ls X hK hP hD hA hS hl
  obtain ⟨hx, hb, hml, hr, hts, hown, hlocks⟩ := id X
  have hl : lv_has ls 8 [(0, .ref (q 0)), (1, .int (iI k))] := hl
  have f_25 := hts (Cond.fieldLink RX5 25 "TwoKeys" "board" "LTwoKeys$Board;") (by decide +kernel)
  have k_X5_136_Lib_Math_abs_name := hts (Cond.methodLink RX5 136 Lib.Math.abs.name) (by decide +kernel)
  have k_static_Lib_Math_abs_name := hts (Cond.static Lib.Math.abs.name) (by decide +kernel)
  have k_ialized__java_lang_Math_ := hts (Cond.initialized "java/lang/Math") (by decide +kernel)
  have k_h_abs_code_1__some__int_ := hts (Cond.code Lib.Math.abs.name Lib.Math.abs.code 1 (some .int)) (by decide +kernel)
  have f_84 := hts (Cond.fieldLink RX5 84 "TwoKeys$Board" "bends" "[I") (by decide +kernel)
  have n_X0 : ∀ w ∈ u_ws RX0 TX0 5, w ∈ wsX5_tuneOne := by decide +kernel
  have n_X5 : ∀ w ∈ u_ws RX5 TX5 9, w ∈ wsX5_tuneOne := by decide +kernel
  have iK := I.nK
  have i2 := I.pi
  have g9 := gl_b (s := sc) (p := pi) (k := k) I.ab I.bl (by omega) (by omega)
  refine lv_aload_n hx hb dX5_tuneOne_0 rfl (lv_at hl 0 rfl) ?_
  refine lv_iload_n hx hb dX5_tuneOne_1 rfl (lv_at hl 1 rfl) ?_
  refine z_callVi (ci := 5) (q0 := 0) (As := [.int (iI k)]) (rest := []) X hK hP hD hA hS hl.1 gX5_tuneOne_X5_goalOf rfl ⟨rfl, rfl⟩ hd_X5_goalOf ⟨Nat.le_of_ble_eq_true rfl, Nat.le_of_ble_eq_true rfl⟩ rfl rfl rfl (Nat.le_of_ble_eq_true rfl) ⟨Nat.zero_le _, Nat.zero_le _⟩ rfl dX5_tuneOne_2 (c_X5_goalOf I k (by omega)) (fun H locs hP hD hS => ?_)
  refine lv_istore_n (lv' := [(2, .int (iI (gl ab bl sc pi k))), (0, .ref (q 0)), (1, .int (iI k))]) hx hb dX5_tuneOne_5 rfl hl (by decide) rfl (fun ls hl => ?_)
  refine lv_iconst (v := iI (0)) hx hb dX5_tuneOne_6 rfl ?_
  refine lv_istore_n (lv' := [(3, .int (iI 0)), (2, .int (iI (gl ab bl sc pi k))), (0, .ref (q 0)), (1, .int (iI k))]) hx hb dX5_tuneOne_7 rfl hl (by decide) rfl (fun ls hl => ?_)
  refine lv_aload_n hx hb dX5_tuneOne_8 rfl (lv_at hl 2 rfl) ?_
  refine va_get (D := D) (ci := 5) (v := .ref (q 1)) (C := RX5) (T := TX5) (N := 9) hx hb hts n_X5 hown hK hP 0 rfl rfl 0 (by decide) f_25 (fun _ h9 => h9) rfl dX5_tuneOne_9 ?_
  refine lv_iload_n hx hb dX5_tuneOne_12 rfl (lv_at hl 3 rfl) ?_
  refine lv_iconst (v := iI (0)) hx hb dX5_tuneOne_13 rfl ?_
  refine z_callVi (ci := 0) (q0 := 1) (As := [.int (iI k), .int (iI 0)]) (rest := []) X hK hP hD hA hS hl.1 gX5_tuneOne_X0_toneBent rfl ⟨rfl, rfl⟩ hd_X0_toneBent ⟨Nat.le_of_ble_eq_true rfl, Nat.le_of_ble_eq_true rfl⟩ rfl rfl rfl (Nat.le_of_ble_eq_true rfl) ⟨Nat.zero_le _, Nat.zero_le _⟩ rfl dX5_tuneOne_14 (c_X0_toneBent I k 0 (by omega) (by omega)) (fun H locs hP hD hS => ?_)
  have t1 := tn_b (st := st) (k := k) (b := 0) I.le I.te (by omega)
  have u1 := aZ_b (te (st k) * 10000 / (le k + 0) - gl ab bl sc pi k)
  refine lv_iload_n hx hb dX5_tuneOne_17 rfl (lv_at hl 1 rfl) ?_
  refine z_isub hx hb dX5_tuneOne_18 ?_
  refine z_abs hx hb (by rw [hml]; exact hl.1.symm) hown k_X5_136_Lib_Math_abs_name k_static_Lib_Math_abs_name k_ialized__java_lang_Math_ k_h_abs_code_1__some__int_ (Nat.le_of_ble_eq_true rfl) (Nat.le_of_ble_eq_true rfl) (Nat.zero_le _) (Nat.zero_le _) (by omega) dX5_tuneOne_19 ?_
  refine lv_istore (lv' := [(4, .int (iI (aZ ((te (st k) * 10000 / (le k + 0)) - (gl ab bl sc pi k))))), (3, .int (iI 0)), (2, .int (iI (gl ab bl sc pi k))), (0, .ref (q 0)), (1, .int (iI k))]) hx hb dX5_tuneOne_22 hl (by decide) rfl (fun ls hl => ?_)
  refine lv_iconst (v := iI (1)) hx hb dX5_tuneOne_24 rfl ?_
  refine lv_istore (lv' := [(5, .int (iI 1)), (4, .int (iI (aZ ((te (st k) * 10000 / (le k + 0)) - (gl ab bl sc pi k))))), (3, .int (iI 0)), (2, .int (iI (gl ab bl sc pi k))), (0, .ref (q 0)), (1, .int (iI k))]) hx hb dX5_tuneOne_25 hl (by decide) rfl (fun ls hl => ?_)
  have L_27 : ∀ (n : Nat) (b : Int) (z : Int) (i : Int), (h0 : 1 ≤ i ∧ i ≤ 41) → (hf : 41 - i < n) → (ht : isTB (fun v => aZ (te (st k) * 10000 / (le k + v) - gl ab bl sc pi k)) (-(i - 1)) (i - 1) b) → (hs : z = aZ (te (st k) * 10000 / (le k + b) - gl ab bl sc pi k)) → ∀ (H : Heap) (locs : List Loc) (ls : Array Slot), va_P D vwCl (wT q cy nK st le be te ab bl ka bg ln ns me sc pi re bk pa lz go ss sm pf mf) H → va_D A (wT q cy nK st le be te ab bl ka bg ln ns me sc pi re bk pa lz go ss sm pf mf) → va_S A s.heap H locs → lv_has ls 8 [(5, .int (iI i)), (4, .int (iI z)), (3, .int (iI b)), (2, .int (iI (gl ab bl sc pi k))), (0, .ref (q 0)), (1, .int (iI k))] → W p l e ({ frames := 2, cells := 0, slots := 0, locals := 47 } : Room) s m [.ref (q 0), .int (iI k)].toArray below meth c H locs 0 0 (MQ below (zQv D cy (wT q cy nK st le (uZ be k (tb (fun v => aZ (te (st k) * 10000 / (le k + v) - gl ab bl sc pi k)))) te ab bl ka bg ln ns me sc pi re bk pa lz go ss sm pf mf) A) [.ref (q 0), .int (iI k)].toArray s 0 0 A) (F0 m 27 ls []) := by
    intro n
    induction n with
    | zero =>
      intro b z i h0 hf ht hs
      exfalso; omega
    | succ n ih_27 =>
      intro b z i h0 hf ht hs H locs ls hP hD hS hl
      have q1 := ht.1
      have q2 := ht.2.1
      have t4 := tn_b (st := st) (k := k) (b := b) I.le I.te (by omega)
      have u4 := aZ_b (te (st k) * 10000 / (le k + b) - gl ab bl sc pi k)
      refine lv_iload hx hb dX5_tuneOne_27 (lv_at hl 0 rfl) ?_
      refine lv_bipush (v := iI (40)) hx hb dX5_tuneOne_29 (by decide) ?_
      refine z_icmp_gt (tgt := 104) hx hb dX5_tuneOne_31 (by decide) (by omega) (fun c_1 => ?_) (fun c_1 => ?_)
      · refine lv_aload_n hx hb dX5_tuneOne_104 rfl (lv_at hl 4 rfl) ?_
        refine va_get (D := D) (ci := 5) (v := .ref (q 1)) (C := RX5) (T := TX5) (N := 9) hx hb hts n_X5 hown hK hP 0 rfl rfl 0 (by decide) f_25 (fun _ h9 => h9) rfl dX5_tuneOne_105 ?_
        refine va_get (D := D) (ci := 0) (v := .ref (q 4)) (C := RX0) (T := TX0) (N := 5) hx hb hts n_X0 hown hK hP 1 rfl rfl 3 (by decide) f_84 (fun _ h9 => h9) rfl dX5_tuneOne_108 ?_
        refine lv_iload_n hx hb dX5_tuneOne_111 rfl (lv_at hl 5 rfl) ?_
        refine lv_iload_n hx hb dX5_tuneOne_112 rfl (lv_at hl 2 rfl) ?_
        refine z_iast (v := b) hx hb hK hP hD hS 4 0 rfl rfl (by omega) dX5_tuneOne_113 (fun H locs hP hD hS => ?_)
        have hP : va_P D vwCl (wT q cy nK st le (uZ be k b) te ab bl ka bg ln ns me sc pi re bk pa lz go ss sm pf mf) H := hP
        have hD : va_D A (wT q cy nK st le (uZ be k b) te ab bl ka bg ln ns me sc pi re bk pa lz go ss sm pf mf) := hD
        have hw9 : wT q cy nK st le (uZ be k b) te ab bl ka bg ln ns me sc pi re bk pa lz go ss sm pf mf = wT q cy nK st le (uZ be k (tb (fun v => aZ (te (st k) * 10000 / (le k + v) - gl ab bl sc pi k)))) te ab bl ka bg ln ns me sc pi re bk pa lz go ss sm pf mf := by rw [show i = 41 by omega] at ht; rw [tb_eq ht]
        rw [hw9] at hP hD
        exact z_vret X hK hP hD hS dX5_tuneOne_114
      · refine lv_aload_n hx hb dX5_tuneOne_34 rfl (lv_at hl 4 rfl) ?_
        refine va_get (D := D) (ci := 5) (v := .ref (q 1)) (C := RX5) (T := TX5) (N := 9) hx hb hts n_X5 hown hK hP 0 rfl rfl 0 (by decide) f_25 (fun _ h9 => h9) rfl dX5_tuneOne_35 ?_
        refine lv_iload_n hx hb dX5_tuneOne_38 rfl (lv_at hl 5 rfl) ?_
        refine lv_iload hx hb dX5_tuneOne_39 (lv_at hl 0 rfl) ?_
        refine z_ineg hx hb dX5_tuneOne_41 ?_
        refine z_callVi (ci := 0) (q0 := 1) (As := [.int (iI k), .int (iI (-i))]) (rest := []) X hK hP hD hA hS hl.1 gX5_tuneOne_X0_toneBent rfl ⟨rfl, rfl⟩ hd_X0_toneBent ⟨Nat.le_of_ble_eq_true rfl, Nat.le_of_ble_eq_true rfl⟩ rfl rfl rfl (Nat.le_of_ble_eq_true rfl) ⟨Nat.zero_le _, Nat.zero_le _⟩ rfl dX5_tuneOne_42 (c_X0_toneBent I k (-i) (by omega) (by omega)) (fun H locs hP hD hS => ?_)
        have t2 := tn_b (st := st) (k := k) (b := (-i)) I.le I.te (by omega)
        have u2 := aZ_b (te (st k) * 10000 / (le k + (-i)) - gl ab bl sc pi k)
        refine lv_iload_n hx hb dX5_tuneOne_45 rfl (lv_at hl 3 rfl) ?_
        refine z_isub hx hb dX5_tuneOne_46 ?_
        refine z_abs hx hb (by rw [hml]; exact hl.1.symm) hown k_X5_136_Lib_Math_abs_name k_static_Lib_Math_abs_name k_ialized__java_lang_Math_ k_h_abs_code_1__some__int_ (Nat.le_of_ble_eq_true rfl) (Nat.le_of_ble_eq_true rfl) (Nat.zero_le _) (Nat.zero_le _) (by omega) dX5_tuneOne_47 ?_
        refine lv_istore (lv' := [(6, .int (iI (aZ ((te (st k) * 10000 / (le k + (-i))) - (gl ab bl sc pi k))))), (5, .int (iI i)), (4, .int (iI z)), (3, .int (iI b)), (2, .int (iI (gl ab bl sc pi k))), (0, .ref (q 0)), (1, .int (iI k))]) hx hb dX5_tuneOne_50 hl (by decide) rfl (fun ls hl => ?_)
        refine lv_iload hx hb dX5_tuneOne_52 (lv_at hl 0 rfl) ?_
        refine lv_iload hx hb dX5_tuneOne_54 (lv_at hl 2 rfl) ?_
        refine z_icmp_ge (tgt := 67) hx hb dX5_tuneOne_56 (by decide) (by omega) (fun c_2 => ?_) (fun c_2 => ?_)
        · refine lv_aload_n hx hb dX5_tuneOne_67 rfl (lv_at hl 5 rfl) ?_
          refine va_get (D := D) (ci := 5) (v := .ref (q 1)) (C := RX5) (T := TX5) (N := 9) hx hb hts n_X5 hown hK hP 0 rfl rfl 0 (by decide) f_25 (fun _ h9 => h9) rfl dX5_tuneOne_68 ?_
          refine lv_iload_n hx hb dX5_tuneOne_71 rfl (lv_at hl 6 rfl) ?_
          refine lv_iload hx hb dX5_tuneOne_72 (lv_at hl 1 rfl) ?_
          refine z_callVi (ci := 0) (q0 := 1) (As := [.int (iI k), .int (iI i)]) (rest := []) X hK hP hD hA hS hl.1 gX5_tuneOne_X0_toneBent rfl ⟨rfl, rfl⟩ hd_X0_toneBent ⟨Nat.le_of_ble_eq_true rfl, Nat.le_of_ble_eq_true rfl⟩ rfl rfl rfl (Nat.le_of_ble_eq_true rfl) ⟨Nat.zero_le _, Nat.zero_le _⟩ rfl dX5_tuneOne_74 (c_X0_toneBent I k i (by omega) (by omega)) (fun H locs hP hD hS => ?_)
          have t3 := tn_b (st := st) (k := k) (b := i) I.le I.te (by omega)
          have u3 := aZ_b (te (st k) * 10000 / (le k + i) - gl ab bl sc pi k)
          refine lv_iload_n hx hb dX5_tuneOne_77 rfl (lv_at hl 4 rfl) ?_
          refine z_isub hx hb dX5_tuneOne_78 ?_
          refine z_abs hx hb (by rw [hml]; exact hl.1.symm) hown k_X5_136_Lib_Math_abs_name k_static_Lib_Math_abs_name k_ialized__java_lang_Math_ k_h_abs_code_1__some__int_ (Nat.le_of_ble_eq_true rfl) (Nat.le_of_ble_eq_true rfl) (Nat.zero_le _) (Nat.zero_le _) (by omega) dX5_tuneOne_79 ?_
          refine lv_istore (lv' := [(7, .int (iI (aZ ((te (st k) * 10000 / (le k + i)) - (gl ab bl sc pi k))))), (6, .int (iI (aZ ((te (st k) * 10000 / (le k + (-i))) - (gl ab bl sc pi k))))), (5, .int (iI i)), (4, .int (iI z)), (3, .int (iI b)), (2, .int (iI (gl ab bl sc pi k))), (0, .ref (q 0)), (1, .int (iI k))]) hx hb dX5_tuneOne_82 hl (by decide) rfl (fun ls hl => ?_)
          refine lv_iload hx hb dX5_tuneOne_84 (lv_at hl 0 rfl) ?_
          refine lv_iload hx hb dX5_tuneOne_86 (lv_at hl 3 rfl) ?_
          refine z_icmp_ge (tgt := 98) hx hb dX5_tuneOne_88 (by decide) (by omega) (fun c_3 => ?_) (fun c_3 => ?_)
          · refine lv_iinc (v := iI (i + 1)) (lv' := [(5, .int (iI (i + 1))), (7, .int (iI (aZ ((te (st k) * 10000 / (le k + i)) - (gl ab bl sc pi k))))), (6, .int (iI (aZ ((te (st k) * 10000 / (le k + (-i))) - (gl ab bl sc pi k))))), (4, .int (iI z)), (3, .int (iI b)), (2, .int (iI (gl ab bl sc pi k))), (0, .ref (q 0)), (1, .int (iI k))]) hx hb dX5_tuneOne_98 hl (k := 2) rfl (iI_add _ _) (by decide) rfl (fun ls hl => ?_)
            refine lv_goto (tgt := 27) hx hb dX5_tuneOne_101 (by decide) ?_
            exact ih_27 b z (i + 1) (by omega) (by omega) (by first | exact tune_s3 (tune_s1 (f := fun v => aZ (te (st k) * 10000 / (le k + v) - gl ab bl sc pi k)) ht (by omega) (by show aZ (te (st k) * 10000 / (le k + (-i)) - gl ab bl sc pi k) < _; omega)) (by omega) (by show aZ (te (st k) * 10000 / (le k + i) - gl ab bl sc pi k) < aZ (te (st k) * 10000 / (le k + (-i)) - gl ab bl sc pi k); omega) | exact tune_s4 (tune_s1 (f := fun v => aZ (te (st k) * 10000 / (le k + v) - gl ab bl sc pi k)) ht (by omega) (by show aZ (te (st k) * 10000 / (le k + (-i)) - gl ab bl sc pi k) < aZ (te (st k) * 10000 / (le k + b) - gl ab bl sc pi k); omega)) (by omega) (by show aZ (te (st k) * 10000 / (le k + (-i)) - gl ab bl sc pi k) ≤ aZ (te (st k) * 10000 / (le k + i) - gl ab bl sc pi k); omega) | exact tune_s3 (tune_s2 (f := fun v => aZ (te (st k) * 10000 / (le k + v) - gl ab bl sc pi k)) ht (by omega) (by show aZ (te (st k) * 10000 / (le k + b) - gl ab bl sc pi k) ≤ aZ (te (st k) * 10000 / (le k + (-i)) - gl ab bl sc pi k); omega)) (by omega) (by show aZ (te (st k) * 10000 / (le k + i) - gl ab bl sc pi k) < aZ (te (st k) * 10000 / (le k + b) - gl ab bl sc pi k); omega) | exact tune_s4 (tune_s2 (f := fun v => aZ (te (st k) * 10000 / (le k + v) - gl ab bl sc pi k)) ht (by omega) (by show aZ (te (st k) * 10000 / (le k + b) - gl ab bl sc pi k) ≤ aZ (te (st k) * 10000 / (le k + (-i)) - gl ab bl sc pi k); omega)) (by omega) (by show aZ (te (st k) * 10000 / (le k + b) - gl ab bl sc pi k) ≤ aZ (te (st k) * 10000 / (le k + i) - gl ab bl sc pi k); omega)) (by first | rfl | exact hs) _ _ _ hP hD hS (lv_sub hl [0, 3, 4, 5, 6, 7] rfl)
          · refine lv_iload hx hb dX5_tuneOne_91 (lv_at hl 2 rfl) ?_
            refine lv_istore_n (lv' := [(3, .int (iI i)), (7, .int (iI (aZ ((te (st k) * 10000 / (le k + i)) - (gl ab bl sc pi k))))), (6, .int (iI (aZ ((te (st k) * 10000 / (le k + (-i))) - (gl ab bl sc pi k))))), (5, .int (iI i)), (4, .int (iI z)), (2, .int (iI (gl ab bl sc pi k))), (0, .ref (q 0)), (1, .int (iI k))]) hx hb dX5_tuneOne_93 rfl hl (by decide) rfl (fun ls hl => ?_)
            refine lv_iload hx hb dX5_tuneOne_94 (lv_at hl 1 rfl) ?_
            refine lv_istore (lv' := [(4, .int (iI (aZ ((te (st k) * 10000 / (le k + i)) - (gl ab bl sc pi k))))), (3, .int (iI i)), (7, .int (iI (aZ ((te (st k) * 10000 / (le k + i)) - (gl ab bl sc pi k))))), (6, .int (iI (aZ ((te (st k) * 10000 / (le k + (-i))) - (gl ab bl sc pi k))))), (5, .int (iI i)), (2, .int (iI (gl ab bl sc pi k))), (0, .ref (q 0)), (1, .int (iI k))]) hx hb dX5_tuneOne_96 hl (by decide) rfl (fun ls hl => ?_)
            refine lv_iinc (v := iI (i + 1)) (lv' := [(5, .int (iI (i + 1))), (4, .int (iI (aZ ((te (st k) * 10000 / (le k + i)) - (gl ab bl sc pi k))))), (3, .int (iI i)), (7, .int (iI (aZ ((te (st k) * 10000 / (le k + i)) - (gl ab bl sc pi k))))), (6, .int (iI (aZ ((te (st k) * 10000 / (le k + (-i))) - (gl ab bl sc pi k))))), (2, .int (iI (gl ab bl sc pi k))), (0, .ref (q 0)), (1, .int (iI k))]) hx hb dX5_tuneOne_98 hl (k := 4) rfl (iI_add _ _) (by decide) rfl (fun ls hl => ?_)
            refine lv_goto (tgt := 27) hx hb dX5_tuneOne_101 (by decide) ?_
            exact ih_27 i (aZ ((te (st k) * 10000 / (le k + i)) - (gl ab bl sc pi k))) (i + 1) (by omega) (by omega) (by first | exact tune_s3 (tune_s1 (f := fun v => aZ (te (st k) * 10000 / (le k + v) - gl ab bl sc pi k)) ht (by omega) (by show aZ (te (st k) * 10000 / (le k + (-i)) - gl ab bl sc pi k) < _; omega)) (by omega) (by show aZ (te (st k) * 10000 / (le k + i) - gl ab bl sc pi k) < aZ (te (st k) * 10000 / (le k + (-i)) - gl ab bl sc pi k); omega) | exact tune_s4 (tune_s1 (f := fun v => aZ (te (st k) * 10000 / (le k + v) - gl ab bl sc pi k)) ht (by omega) (by show aZ (te (st k) * 10000 / (le k + (-i)) - gl ab bl sc pi k) < aZ (te (st k) * 10000 / (le k + b) - gl ab bl sc pi k); omega)) (by omega) (by show aZ (te (st k) * 10000 / (le k + (-i)) - gl ab bl sc pi k) ≤ aZ (te (st k) * 10000 / (le k + i) - gl ab bl sc pi k); omega) | exact tune_s3 (tune_s2 (f := fun v => aZ (te (st k) * 10000 / (le k + v) - gl ab bl sc pi k)) ht (by omega) (by show aZ (te (st k) * 10000 / (le k + b) - gl ab bl sc pi k) ≤ aZ (te (st k) * 10000 / (le k + (-i)) - gl ab bl sc pi k); omega)) (by omega) (by show aZ (te (st k) * 10000 / (le k + i) - gl ab bl sc pi k) < aZ (te (st k) * 10000 / (le k + b) - gl ab bl sc pi k); omega) | exact tune_s4 (tune_s2 (f := fun v => aZ (te (st k) * 10000 / (le k + v) - gl ab bl sc pi k)) ht (by omega) (by show aZ (te (st k) * 10000 / (le k + b) - gl ab bl sc pi k) ≤ aZ (te (st k) * 10000 / (le k + (-i)) - gl ab bl sc pi k); omega)) (by omega) (by show aZ (te (st k) * 10000 / (le k + b) - gl ab bl sc pi k) ≤ aZ (te (st k) * 10000 / (le k + i) - gl ab bl sc pi k); omega)) (by first | rfl | exact hs) _ _ _ hP hD hS (lv_sub hl [0, 1, 2, 5, 6, 7] rfl)
        · refine lv_iload hx hb dX5_tuneOne_59 (lv_at hl 1 rfl) ?_
          refine z_ineg hx hb dX5_tuneOne_61 ?_
          refine lv_istore_n (lv' := [(3, .int (iI (-i))), (6, .int (iI (aZ ((te (st k) * 10000 / (le k + (-i))) - (gl ab bl sc pi k))))), (5, .int (iI i)), (4, .int (iI z)), (2, .int (iI (gl ab bl sc pi k))), (0, .ref (q 0)), (1, .int (iI k))]) hx hb dX5_tuneOne_62 rfl hl (by decide) rfl (fun ls hl => ?_)
          refine lv_iload hx hb dX5_tuneOne_63 (lv_at hl 1 rfl) ?_
          refine lv_istore (lv' := [(4, .int (iI (aZ ((te (st k) * 10000 / (le k + (-i))) - (gl ab bl sc pi k))))), (3, .int (iI (-i))), (6, .int (iI (aZ ((te (st k) * 10000 / (le k + (-i))) - (gl ab bl sc pi k))))), (5, .int (iI i)), (2, .int (iI (gl ab bl sc pi k))), (0, .ref (q 0)), (1, .int (iI k))]) hx hb dX5_tuneOne_65 hl (by decide) rfl (fun ls hl => ?_)
          refine lv_aload_n hx hb dX5_tuneOne_67 rfl (lv_at hl 5 rfl) ?_
          refine va_get (D := D) (ci := 5) (v := .ref (q 1)) (C := RX5) (T := TX5) (N := 9) hx hb hts n_X5 hown hK hP 0 rfl rfl 0 (by decide) f_25 (fun _ h9 => h9) rfl dX5_tuneOne_68 ?_
          refine lv_iload_n hx hb dX5_tuneOne_71 rfl (lv_at hl 6 rfl) ?_
          refine lv_iload hx hb dX5_tuneOne_72 (lv_at hl 3 rfl) ?_
          refine z_callVi (ci := 0) (q0 := 1) (As := [.int (iI k), .int (iI i)]) (rest := []) X hK hP hD hA hS hl.1 gX5_tuneOne_X0_toneBent rfl ⟨rfl, rfl⟩ hd_X0_toneBent ⟨Nat.le_of_ble_eq_true rfl, Nat.le_of_ble_eq_true rfl⟩ rfl rfl rfl (Nat.le_of_ble_eq_true rfl) ⟨Nat.zero_le _, Nat.zero_le _⟩ rfl dX5_tuneOne_74 (c_X0_toneBent I k i (by omega) (by omega)) (fun H locs hP hD hS => ?_)
          have t3 := tn_b (st := st) (k := k) (b := i) I.le I.te (by omega)
          have u3 := aZ_b (te (st k) * 10000 / (le k + i) - gl ab bl sc pi k)
          refine lv_iload_n hx hb dX5_tuneOne_77 rfl (lv_at hl 4 rfl) ?_
          refine z_isub hx hb dX5_tuneOne_78 ?_
          refine z_abs hx hb (by rw [hml]; exact hl.1.symm) hown k_X5_136_Lib_Math_abs_name k_static_Lib_Math_abs_name k_ialized__java_lang_Math_ k_h_abs_code_1__some__int_ (Nat.le_of_ble_eq_true rfl) (Nat.le_of_ble_eq_true rfl) (Nat.zero_le _) (Nat.zero_le _) (by omega) dX5_tuneOne_79 ?_
          refine lv_istore (lv' := [(7, .int (iI (aZ ((te (st k) * 10000 / (le k + i)) - (gl ab bl sc pi k))))), (4, .int (iI (aZ ((te (st k) * 10000 / (le k + (-i))) - (gl ab bl sc pi k))))), (3, .int (iI (-i))), (6, .int (iI (aZ ((te (st k) * 10000 / (le k + (-i))) - (gl ab bl sc pi k))))), (5, .int (iI i)), (2, .int (iI (gl ab bl sc pi k))), (0, .ref (q 0)), (1, .int (iI k))]) hx hb dX5_tuneOne_82 hl (by decide) rfl (fun ls hl => ?_)
          refine lv_iload hx hb dX5_tuneOne_84 (lv_at hl 0 rfl) ?_
          refine lv_iload hx hb dX5_tuneOne_86 (lv_at hl 1 rfl) ?_
          refine z_icmp_ge (tgt := 98) hx hb dX5_tuneOne_88 (by decide) (by omega) (fun c_4 => ?_) (fun c_4 => ?_)
          · refine lv_iinc (v := iI (i + 1)) (lv' := [(5, .int (iI (i + 1))), (7, .int (iI (aZ ((te (st k) * 10000 / (le k + i)) - (gl ab bl sc pi k))))), (4, .int (iI (aZ ((te (st k) * 10000 / (le k + (-i))) - (gl ab bl sc pi k))))), (3, .int (iI (-i))), (6, .int (iI (aZ ((te (st k) * 10000 / (le k + (-i))) - (gl ab bl sc pi k))))), (2, .int (iI (gl ab bl sc pi k))), (0, .ref (q 0)), (1, .int (iI k))]) hx hb dX5_tuneOne_98 hl (k := 4) rfl (iI_add _ _) (by decide) rfl (fun ls hl => ?_)
            refine lv_goto (tgt := 27) hx hb dX5_tuneOne_101 (by decide) ?_
            exact ih_27 (-i) (aZ ((te (st k) * 10000 / (le k + (-i))) - (gl ab bl sc pi k))) (i + 1) (by omega) (by omega) (by first | exact tune_s3 (tune_s1 (f := fun v => aZ (te (st k) * 10000 / (le k + v) - gl ab bl sc pi k)) ht (by omega) (by show aZ (te (st k) * 10000 / (le k + (-i)) - gl ab bl sc pi k) < _; omega)) (by omega) (by show aZ (te (st k) * 10000 / (le k + i) - gl ab bl sc pi k) < aZ (te (st k) * 10000 / (le k + (-i)) - gl ab bl sc pi k); omega) | exact tune_s4 (tune_s1 (f := fun v => aZ (te (st k) * 10000 / (le k + v) - gl ab bl sc pi k)) ht (by omega) (by show aZ (te (st k) * 10000 / (le k + (-i)) - gl ab bl sc pi k) < aZ (te (st k) * 10000 / (le k + b) - gl ab bl sc pi k); omega)) (by omega) (by show aZ (te (st k) * 10000 / (le k + (-i)) - gl ab bl sc pi k) ≤ aZ (te (st k) * 10000 / (le k + i) - gl ab bl sc pi k); omega) | exact tune_s3 (tune_s2 (f := fun v => aZ (te (st k) * 10000 / (le k + v) - gl ab bl sc pi k)) ht (by omega) (by show aZ (te (st k) * 10000 / (le k + b) - gl ab bl sc pi k) ≤ aZ (te (st k) * 10000 / (le k + (-i)) - gl ab bl sc pi k); omega)) (by omega) (by show aZ (te (st k) * 10000 / (le k + i) - gl ab bl sc pi k) < aZ (te (st k) * 10000 / (le k + b) - gl ab bl sc pi k); omega) | exact tune_s4 (tune_s2 (f := fun v => aZ (te (st k) * 10000 / (le k + v) - gl ab bl sc pi k)) ht (by omega) (by show aZ (te (st k) * 10000 / (le k + b) - gl ab bl sc pi k) ≤ aZ (te (st k) * 10000 / (le k + (-i)) - gl ab bl sc pi k); omega)) (by omega) (by show aZ (te (st k) * 10000 / (le k + b) - gl ab bl sc pi k) ≤ aZ (te (st k) * 10000 / (le k + i) - gl ab bl sc pi k); omega)) (by first | rfl | exact hs) _ _ _ hP hD hS (lv_sub hl [0, 2, 3, 5, 6, 7] rfl)
          · refine lv_iload hx hb dX5_tuneOne_91 (lv_at hl 4 rfl) ?_
            refine lv_istore_n (lv' := [(3, .int (iI i)), (7, .int (iI (aZ ((te (st k) * 10000 / (le k + i)) - (gl ab bl sc pi k))))), (4, .int (iI (aZ ((te (st k) * 10000 / (le k + (-i))) - (gl ab bl sc pi k))))), (6, .int (iI (aZ ((te (st k) * 10000 / (le k + (-i))) - (gl ab bl sc pi k))))), (5, .int (iI i)), (2, .int (iI (gl ab bl sc pi k))), (0, .ref (q 0)), (1, .int (iI k))]) hx hb dX5_tuneOne_93 rfl hl (by decide) rfl (fun ls hl => ?_)
            refine lv_iload hx hb dX5_tuneOne_94 (lv_at hl 1 rfl) ?_
            refine lv_istore (lv' := [(4, .int (iI (aZ ((te (st k) * 10000 / (le k + i)) - (gl ab bl sc pi k))))), (3, .int (iI i)), (7, .int (iI (aZ ((te (st k) * 10000 / (le k + i)) - (gl ab bl sc pi k))))), (6, .int (iI (aZ ((te (st k) * 10000 / (le k + (-i))) - (gl ab bl sc pi k))))), (5, .int (iI i)), (2, .int (iI (gl ab bl sc pi k))), (0, .ref (q 0)), (1, .int (iI k))]) hx hb dX5_tuneOne_96 hl (by decide) rfl (fun ls hl => ?_)
            refine lv_iinc (v := iI (i + 1)) (lv' := [(5, .int (iI (i + 1))), (4, .int (iI (aZ ((te (st k) * 10000 / (le k + i)) - (gl ab bl sc pi k))))), (3, .int (iI i)), (7, .int (iI (aZ ((te (st k) * 10000 / (le k + i)) - (gl ab bl sc pi k))))), (6, .int (iI (aZ ((te (st k) * 10000 / (le k + (-i))) - (gl ab bl sc pi k))))), (2, .int (iI (gl ab bl sc pi k))), (0, .ref (q 0)), (1, .int (iI k))]) hx hb dX5_tuneOne_98 hl (k := 4) rfl (iI_add _ _) (by decide) rfl (fun ls hl => ?_)
            refine lv_goto (tgt := 27) hx hb dX5_tuneOne_101 (by decide) ?_
            exact ih_27 i (aZ ((te (st k) * 10000 / (le k + i)) - (gl ab bl sc pi k))) (i + 1) (by omega) (by omega) (by first | exact tune_s3 (tune_s1 (f := fun v => aZ (te (st k) * 10000 / (le k + v) - gl ab bl sc pi k)) ht (by omega) (by show aZ (te (st k) * 10000 / (le k + (-i)) - gl ab bl sc pi k) < _; omega)) (by omega) (by show aZ (te (st k) * 10000 / (le k + i) - gl ab bl sc pi k) < aZ (te (st k) * 10000 / (le k + (-i)) - gl ab bl sc pi k); omega) | exact tune_s4 (tune_s1 (f := fun v => aZ (te (st k) * 10000 / (le k + v) - gl ab bl sc pi k)) ht (by omega) (by show aZ (te (st k) * 10000 / (le k + (-i)) - gl ab bl sc pi k) < aZ (te (st k) * 10000 / (le k + b) - gl ab bl sc pi k); omega)) (by omega) (by show aZ (te (st k) * 10000 / (le k + (-i)) - gl ab bl sc pi k) ≤ aZ (te (st k) * 10000 / (le k + i) - gl ab bl sc pi k); omega) | exact tune_s3 (tune_s2 (f := fun v => aZ (te (st k) * 10000 / (le k + v) - gl ab bl sc pi k)) ht (by omega) (by show aZ (te (st k) * 10000 / (le k + b) - gl ab bl sc pi k) ≤ aZ (te (st k) * 10000 / (le k + (-i)) - gl ab bl sc pi k); omega)) (by omega) (by show aZ (te (st k) * 10000 / (le k + i) - gl ab bl sc pi k) < aZ (te (st k) * 10000 / (le k + b) - gl ab bl sc pi k); omega) | exact tune_s4 (tune_s2 (f := fun v => aZ (te (st k) * 10000 / (le k + v) - gl ab bl sc pi k)) ht (by omega) (by show aZ (te (st k) * 10000 / (le k + b) - gl ab bl sc pi k) ≤ aZ (te (st k) * 10000 / (le k + (-i)) - gl ab bl sc pi k); omega)) (by omega) (by show aZ (te (st k) * 10000 / (le k + b) - gl ab bl sc pi k) ≤ aZ (te (st k) * 10000 / (le k + i) - gl ab bl sc pi k); omega)) (by first | rfl | exact hs) _ _ _ hP hD hS (lv_sub hl [0, 1, 2, 5, 6, 7] rfl)
  exact L_27 41 0 (aZ ((te (st k) * 10000 / (le k + 0)) - (gl ab bl sc pi k))) 1 (by omega) (by omega) tune_0 rfl _ _ _ hP hD hS (lv_sub hl [0, 1, 2, 3, 4, 5] rfl)

theorem hd_X5_tune : yX5_tune.cls = RX5 ∧ yX5_tune.cls ≠ "java/lang/invoke/MethodHandle" ∧ yX5_tune.cls ≠ "java/lang/invoke/VarHandle" ∧ (parseMethodDescriptor yX5_tune.desc).map (fun d => d.parameters.length) = some 1 := by decide +kernel
set_option maxHeartbeats 4000000 in
set_option maxRecDepth 100000 in
theorem c_X5_tune_ok (I : okS nK st le be te ab bl ka bg ln ns me sc pi re bk) (k : Int) (h : -2147483648 ≤ k ∧ k ≤ 2147483647) (hok : 0 ≤ k ∧ k < nK) : MI l D cy yX5_tune wsX5_tune ({ frames := 3, cells := 0, slots := 0, locals := 74 } : Room) [.ref (q 0), .int (iI k)] (wT q cy nK st le be te ab bl ka bg ln ns me sc pi re bk pa lz go ss sm pf mf) (er st le (uZ be k (tb (fun v => aZ (te (st k) * 10000 / (le k + v) - gl ab bl sc pi k)))) te ab bl sc pi k) (wT q cy nK st le (uZ be k (tb (fun v => aZ (te (st k) * 10000 / (le k + v) - gl ab bl sc pi k)))) te ab bl ka bg ln ns me sc pi re bk pa lz go ss sm pf mf) := by
  refine MI.ofW (cc := cX5_tune) (maxL := 2) (ret := (some .int)) (by decide) rfl (Nat.le_of_ble_eq_true rfl) ?_
  intro p e s m below meth c A ls X hK hP hD hA hS hl
  obtain ⟨hx, hb, hml, hr, hts, hown, hlocks⟩ := id X
  have hl : lv_has ls 2 [(0, .ref (q 0)), (1, .int (iI k))] := hl
  have f_25 := hts (Cond.fieldLink RX5 25 "TwoKeys" "board" "LTwoKeys$Board;") (by decide +kernel)
  have n_X5 : ∀ w ∈ u_ws RX5 TX5 9, w ∈ wsX5_tune := by decide +kernel
  have iK := I.nK
  refine lv_aload_n hx hb dX5_tune_0 rfl (lv_at hl 0 rfl) ?_
  refine va_get (D := D) (ci := 5) (v := .ref (q 1)) (C := RX5) (T := TX5) (N := 9) hx hb hts n_X5 hown hK hP 0 rfl rfl 0 (by decide) f_25 (fun _ h9 => h9) rfl dX5_tune_1 ?_
  refine lv_iload_n hx hb dX5_tune_4 rfl (lv_at hl 1 rfl) ?_
  refine z_callVi (ci := 0) (q0 := 1) (As := [.int (iI k)]) (rest := []) X hK hP hD hA hS hl.1 gX5_tune_X0_has rfl ⟨rfl, rfl⟩ hd_X0_has ⟨Nat.le_of_ble_eq_true rfl, Nat.le_of_ble_eq_true rfl⟩ rfl rfl rfl (Nat.le_of_ble_eq_true rfl) ⟨Nat.zero_le _, Nat.zero_le _⟩ rfl dX5_tune_5 (c_X0_has I k (by omega)) (fun H locs hP hD hS => ?_)
  refine z_ifp_ne (tgt := 14) hx hb dX5_tune_8 (by decide) (fun c_1 => ?_) (fun c_1 => ?_)
  · refine lv_aload_n hx hb dX5_tune_14 rfl (lv_at hl 0 rfl) ?_
    refine lv_iload_n hx hb dX5_tune_15 rfl (lv_at hl 1 rfl) ?_
    refine z_callVv (ci := 5) (q0 := 0) (As := [.int (iI k)]) (rest := []) X hK hP hD hA hS hl.1 gX5_tune_X5_tuneOne rfl ⟨rfl, rfl⟩ hd_X5_tuneOne ⟨Nat.le_of_ble_eq_true rfl, Nat.le_of_ble_eq_true rfl⟩ rfl rfl rfl (Nat.le_of_ble_eq_true rfl) ⟨Nat.zero_le _, Nat.zero_le _⟩ rfl dX5_tune_16 (c_X5_tuneOne I k (by omega)) (fun H locs hP hD hS => ?_)
    have b9 := tb_is (fun v => aZ (te (st k) * 10000 / (le k + v) - gl ab bl sc pi k))
    have I2 := okS_be1 (k := k) (v := tb (fun v => aZ (te (st k) * 10000 / (le k + v) - gl ab bl sc pi k))) I ⟨b9.1, b9.2.1⟩
    refine lv_aload_n hx hb dX5_tune_19 rfl (lv_at hl 0 rfl) ?_
    refine lv_iload_n hx hb dX5_tune_20 rfl (lv_at hl 1 rfl) ?_
    refine z_callVi (ci := 5) (q0 := 0) (As := [.int (iI k)]) (rest := []) X hK hP hD hA hS hl.1 gX5_tune_X5_errorOf rfl ⟨rfl, rfl⟩ hd_X5_errorOf ⟨Nat.le_of_ble_eq_true rfl, Nat.le_of_ble_eq_true rfl⟩ rfl rfl rfl (Nat.le_of_ble_eq_true rfl) ⟨Nat.zero_le _, Nat.zero_le _⟩ rfl dX5_tune_21 (c_X5_errorOf I2 k (by omega)) (fun H locs hP hD hS => ?_)
    exact z_iret X hK hP hD hS dX5_tune_24 (by first | rfl | omega | grind)
  · exact absurd c_1 (by omega)

set_option maxHeartbeats 4000000 in
set_option maxRecDepth 100000 in
theorem c_X5_tune_no (I : okS nK st le be te ab bl ka bg ln ns me sc pi re bk) (k : Int) (h : -2147483648 ≤ k ∧ k ≤ 2147483647) (hno : ¬ (0 ≤ k ∧ k < nK)) : MI l D cy yX5_tune wsX5_tune ({ frames := 1, cells := 0, slots := 0, locals := 21 } : Room) [.ref (q 0), .int (iI k)] (wT q cy nK st le be te ab bl ka bg ln ns me sc pi re bk pa lz go ss sm pf mf) (-100001) (wT q cy nK st le be te ab bl ka bg ln ns me sc pi re bk pa lz go ss sm pf mf) := by
  refine MI.ofW (cc := cX5_tune) (maxL := 2) (ret := (some .int)) (by decide) rfl (Nat.le_of_ble_eq_true rfl) ?_
  intro p e s m below meth c A ls X hK hP hD hA hS hl
  obtain ⟨hx, hb, hml, hr, hts, hown, hlocks⟩ := id X
  have hl : lv_has ls 2 [(0, .ref (q 0)), (1, .int (iI k))] := hl
  have f_25 := hts (Cond.fieldLink RX5 25 "TwoKeys" "board" "LTwoKeys$Board;") (by decide +kernel)
  have k_76 := hts (Cond.constant RX5 76 (-100001)) (by decide +kernel)
  have n_X5 : ∀ w ∈ u_ws RX5 TX5 9, w ∈ wsX5_tune := by decide +kernel
  have iK := I.nK
  refine lv_aload_n hx hb dX5_tune_0 rfl (lv_at hl 0 rfl) ?_
  refine va_get (D := D) (ci := 5) (v := .ref (q 1)) (C := RX5) (T := TX5) (N := 9) hx hb hts n_X5 hown hK hP 0 rfl rfl 0 (by decide) f_25 (fun _ h9 => h9) rfl dX5_tune_1 ?_
  refine lv_iload_n hx hb dX5_tune_4 rfl (lv_at hl 1 rfl) ?_
  refine z_callVi (ci := 0) (q0 := 1) (As := [.int (iI k)]) (rest := []) X hK hP hD hA hS hl.1 gX5_tune_X0_has rfl ⟨rfl, rfl⟩ hd_X0_has ⟨Nat.le_of_ble_eq_true rfl, Nat.le_of_ble_eq_true rfl⟩ rfl rfl rfl (Nat.le_of_ble_eq_true rfl) ⟨Nat.zero_le _, Nat.zero_le _⟩ rfl dX5_tune_5 (c_X0_has I k (by omega)) (fun H locs hP hD hS => ?_)
  refine z_ifp_ne (tgt := 14) hx hb dX5_tune_8 (by decide) (fun c_1 => ?_) (fun c_1 => ?_)
  · exact absurd c_1 (by omega)
  · refine z_ldc (n := -100001) hx hb hown k_76 (by decide) dX5_tune_11 ?_
    exact z_iret X hK hP hD hS dX5_tune_13 (by first | rfl | omega | grind)

theorem hd_X5_tuneAll : yX5_tuneAll.cls = RX5 ∧ yX5_tuneAll.cls ≠ "java/lang/invoke/MethodHandle" ∧ yX5_tuneAll.cls ≠ "java/lang/invoke/VarHandle" ∧ (parseMethodDescriptor yX5_tuneAll.desc).map (fun d => d.parameters.length) = some 0 := by decide +kernel
set_option maxHeartbeats 4000000 in
set_option maxRecDepth 100000 in
theorem c_X5_tuneAll (I : okS nK st le be te ab bl ka bg ln ns me sc pi re bk)   : MI l D cy yX5_tuneAll wsX5_tuneAll ({ frames := 4, cells := 0, slots := 0, locals := 90 } : Room) [.ref (q 0)] (wT q cy nK st le be te ab bl ka bg ln ns me sc pi re bk pa lz go ss sm pf mf) (sZ (fun k => aZ (er st le (tuB st le te ab bl sc pi be nK) te ab bl sc pi k)) 0 nK) (wT q cy nK st le (tuB st le te ab bl sc pi be nK) te ab bl ka bg ln ns me sc pi re bk pa lz go ss sm pf mf) := by
  refine MI.ofW (cc := cX5_tuneAll) (maxL := 2) (ret := (some .int)) (by decide) rfl (Nat.le_of_ble_eq_true rfl) ?_
  intro p e s m below meth c A ls X hK hP hD hA hS hl
  obtain ⟨hx, hb, hml, hr, hts, hown, hlocks⟩ := id X
  have hl : lv_has ls 2 [(0, .ref (q 0))] := hl
  have f_25 := hts (Cond.fieldLink RX5 25 "TwoKeys" "board" "LTwoKeys$Board;") (by decide +kernel)
  have f_66 := hts (Cond.fieldLink RX5 66 "TwoKeys$Board" "size" "I") (by decide +kernel)
  have n_X0 : ∀ w ∈ u_ws RX0 TX0 5, w ∈ wsX5_tuneAll := by decide +kernel
  have n_X5 : ∀ w ∈ u_ws RX5 TX5 9, w ∈ wsX5_tuneAll := by decide +kernel
  have iK := I.nK
  refine lv_iconst (v := iI (0)) hx hb dX5_tuneAll_0 rfl ?_
  refine lv_istore_n (lv' := [(1, .int (iI 0)), (0, .ref (q 0))]) hx hb dX5_tuneAll_1 rfl hl (by decide) rfl (fun ls hl => ?_)
  have L_2 : ∀ (n : Nat) (i : Int) (be1 : Int → Int), (h0 : 0 ≤ i ∧ i ≤ nK) → (hf : nK - i < n) → (hbe : be1 = tuB st le te ab bl sc pi be i) → ∀ (H : Heap) (locs : List Loc) (ls : Array Slot), va_P D vwCl (wT q cy nK st le be1 te ab bl ka bg ln ns me sc pi re bk pa lz go ss sm pf mf) H → va_D A (wT q cy nK st le be1 te ab bl ka bg ln ns me sc pi re bk pa lz go ss sm pf mf) → va_S A s.heap H locs → lv_has ls 2 [(1, .int (iI i)), (0, .ref (q 0))] → W p l e ({ frames := 4, cells := 0, slots := 0, locals := 90 } : Room) s m [.ref (q 0)].toArray below meth c H locs 0 0 (MQ below (zQi D cy (wT q cy nK st le (tuB st le te ab bl sc pi be nK) te ab bl ka bg ln ns me sc pi re bk pa lz go ss sm pf mf) A (sZ (fun k => aZ (er st le (tuB st le te ab bl sc pi be nK) te ab bl sc pi k)) 0 nK)) [.ref (q 0)].toArray s 0 0 A) (F0 m 2 ls []) := by
    intro n
    induction n with
    | zero =>
      intro i be1 h0 hf hbe
      exfalso; omega
    | succ n ih_2 =>
      intro i be1 h0 hf hbe H locs ls hP hD hS hl
      have I1 : okS nK st le be1 te ab bl ka bg ln ns me sc pi re bk := by rw [hbe]; exact okS_tu I
      refine lv_iload_n hx hb dX5_tuneAll_2 rfl (lv_at hl 0 rfl) ?_
      refine lv_aload_n hx hb dX5_tuneAll_3 rfl (lv_at hl 1 rfl) ?_
      refine va_get (D := D) (ci := 5) (v := .ref (q 1)) (C := RX5) (T := TX5) (N := 9) hx hb hts n_X5 hown hK hP 0 rfl rfl 0 (by decide) f_25 (fun _ h9 => h9) rfl dX5_tuneAll_4 ?_
      refine va_get (D := D) (ci := 0) (v := .int (iI nK)) (C := RX0) (T := TX0) (N := 5) hx hb hts n_X0 hown hK hP 1 rfl rfl 0 (by decide) f_66 (fun _ h9 => h9) rfl dX5_tuneAll_7 ?_
      refine z_icmp_ge (tgt := 24) hx hb dX5_tuneAll_10 (by decide) (by omega) (fun c_1 => ?_) (fun c_1 => ?_)
      · refine lv_aload_n hx hb dX5_tuneAll_24 rfl (lv_at hl 1 rfl) ?_
        refine z_callVi (ci := 5) (q0 := 0) (As := []) (rest := []) X hK hP hD hA hS hl.1 gX5_tuneAll_X5_allErrors rfl ⟨rfl, rfl⟩ hd_X5_allErrors ⟨Nat.le_of_ble_eq_true rfl, Nat.le_of_ble_eq_true rfl⟩ rfl rfl rfl (Nat.le_of_ble_eq_true rfl) ⟨Nat.zero_le _, Nat.zero_le _⟩ rfl dX5_tuneAll_25 (c_X5_allErrors I1) (fun H locs hP hD hS => ?_)
        have hw9 : wT q cy nK st le be1 te ab bl ka bg ln ns me sc pi re bk pa lz go ss sm pf mf = wT q cy nK st le (tuB st le te ab bl sc pi be nK) te ab bl ka bg ln ns me sc pi re bk pa lz go ss sm pf mf := by rw [hbe, show i = nK by omega]
        rw [hw9] at hP hD
        exact z_iret X hK hP hD hS dX5_tuneAll_28 (by rw [hbe, show i = nK by omega])
      · refine lv_aload_n hx hb dX5_tuneAll_13 rfl (lv_at hl 1 rfl) ?_
        refine lv_iload_n hx hb dX5_tuneAll_14 rfl (lv_at hl 0 rfl) ?_
        refine z_callVv (ci := 5) (q0 := 0) (As := [.int (iI i)]) (rest := []) X hK hP hD hA hS hl.1 gX5_tuneAll_X5_tuneOne rfl ⟨rfl, rfl⟩ hd_X5_tuneOne ⟨Nat.le_of_ble_eq_true rfl, Nat.le_of_ble_eq_true rfl⟩ rfl rfl rfl (Nat.le_of_ble_eq_true rfl) ⟨Nat.zero_le _, Nat.zero_le _⟩ rfl dX5_tuneAll_15 (c_X5_tuneOne I1 i (by omega)) (fun H locs hP hD hS => ?_)
        refine lv_iinc (v := iI (i + 1)) (lv' := [(1, .int (iI (i + 1))), (0, .ref (q 0))]) hx hb dX5_tuneAll_18 hl (k := 0) rfl (iI_add _ _) (by decide) rfl (fun ls hl => ?_)
        refine lv_goto (tgt := 2) hx hb dX5_tuneAll_21 (by decide) ?_
        exact ih_2 (i + 1) (uZ be1 i (tb (fun v => aZ (te (st i) * 10000 / (le i + v) - gl ab bl sc pi i)))) (by omega) (by omega) (by rw [hbe]; exact tuB_s (by omega)) _ _ _ hP hD hS (lv_sub hl [0, 1] rfl)
  exact L_2 25 0 be (by omega) (by omega) tuB_0 _ _ _ hP hD hS (lv_sub hl [0, 1] rfl)
