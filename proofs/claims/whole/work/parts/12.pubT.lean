variable {l : Launch} {D : va_G} {cy : ClassId} {q : Nat → Nat} {nK sc pi re bk ss sm pf mf th lo : Int} {st le be te ab bl ka bg ln ns me pa lz go co bs gr : Int → Int}
theorem hd_X5_goalOf : yX5_goalOf.cls = RX5 ∧ yX5_goalOf.cls ≠ "java/lang/invoke/MethodHandle" ∧ yX5_goalOf.cls ≠ "java/lang/invoke/VarHandle" ∧ (parseMethodDescriptor yX5_goalOf.desc).map (fun d => d.parameters.length) = some 1 := by decide +kernel
set_option maxHeartbeats 4000000 in
set_option maxRecDepth 100000 in
theorem c_X5_goalOf (I : okS nK st le be te ab bl ka bg ln ns me sc pi re bk) (k : Int) (h : 0 ≤ k ∧ k < 24) : MI l D cy yX5_goalOf wsX5_goalOf ({ frames := 1, cells := 0, slots := 0, locals := 26 } : Room) [.ref (q 0), .int (iI k)] (wT q cy nK st le be te ab bl ka bg ln ns me sc pi re bk pa lz go ss sm pf mf) (gl ab bl sc pi k) (wT q cy nK st le be te ab bl ka bg ln ns me sc pi re bk pa lz go ss sm pf mf) := by
  refine MI.ofW (cc := cX5_goalOf) (maxL := 2) (ret := (some .int)) (by decide) rfl (Nat.le_of_ble_eq_true rfl) ?_
  intro p e s m below meth c A ls X hK hP hD hA hS hl
  obtain ⟨hx, hb, hml, hr, hts, hown, hlocks⟩ := id X
  have hl : lv_has ls 2 [(0, .ref (q 0)), (1, .int (iI k))] := hl
  have f_32 := hts (Cond.fieldLink RX5 32 "TwoKeys" "scales" "LTwoKeys$Scales;") (by decide +kernel)
  have f_7 := hts (Cond.fieldLink RX5 7 "TwoKeys" "scaleInUse" "I") (by decide +kernel)
  have f_13 := hts (Cond.fieldLink RX5 13 "TwoKeys" "pitchNow" "I") (by decide +kernel)
  have n_X5 : ∀ w ∈ u_ws RX5 TX5 9, w ∈ wsX5_goalOf := by decide +kernel
  have iK := I.nK
  have i1 := I.sc
  have i2 := I.pi
  refine lv_aload_n hx hb dX5_goalOf_0 rfl (lv_at hl 0 rfl) ?_
  refine va_get (D := D) (ci := 5) (v := .ref (q 6)) (C := RX5) (T := TX5) (N := 9) hx hb hts n_X5 hown hK hP 0 rfl rfl 1 (by decide) f_32 (fun _ h9 => h9) rfl dX5_goalOf_1 ?_
  refine lv_aload_n hx hb dX5_goalOf_4 rfl (lv_at hl 0 rfl) ?_
  refine va_get (D := D) (ci := 5) (v := .int (iI sc)) (C := RX5) (T := TX5) (N := 9) hx hb hts n_X5 hown hK hP 0 rfl rfl 5 (by decide) f_7 (fun _ h9 => h9) rfl dX5_goalOf_5 ?_
  refine lv_aload_n hx hb dX5_goalOf_8 rfl (lv_at hl 0 rfl) ?_
  refine va_get (D := D) (ci := 5) (v := .int (iI pi)) (C := RX5) (T := TX5) (N := 9) hx hb hts n_X5 hown hK hP 0 rfl rfl 6 (by decide) f_13 (fun _ h9 => h9) rfl dX5_goalOf_9 ?_
  refine lv_iload_n hx hb dX5_goalOf_12 rfl (lv_at hl 1 rfl) ?_
  refine z_callVi (ci := 3) (q0 := 6) (As := [.int (iI sc), .int (iI pi), .int (iI k)]) (rest := []) X hK hP hD hA hS hl.1 gX5_goalOf_X3_goalAt rfl ⟨rfl, rfl⟩ hd_X3_goalAt ⟨Nat.le_of_ble_eq_true rfl, Nat.le_of_ble_eq_true rfl⟩ rfl rfl rfl (Nat.le_of_ble_eq_true rfl) ⟨Nat.zero_le _, Nat.zero_le _⟩ rfl dX5_goalOf_13 (c_X3_goalAt I sc pi k (by omega) (by omega) (by omega)) (fun H locs hP hD hS => ?_)
  exact z_iret X hK hP hD hS dX5_goalOf_16 (by first | rfl | omega | grind)

theorem hd_X5_errorOf : yX5_errorOf.cls = RX5 ∧ yX5_errorOf.cls ≠ "java/lang/invoke/MethodHandle" ∧ yX5_errorOf.cls ≠ "java/lang/invoke/VarHandle" ∧ (parseMethodDescriptor yX5_errorOf.desc).map (fun d => d.parameters.length) = some 1 := by decide +kernel
set_option maxHeartbeats 4000000 in
set_option maxRecDepth 100000 in
theorem c_X5_errorOf (I : okS nK st le be te ab bl ka bg ln ns me sc pi re bk) (k : Int) (h : 0 ≤ k ∧ k < 24) : MI l D cy yX5_errorOf wsX5_errorOf ({ frames := 2, cells := 0, slots := 0, locals := 47 } : Room) [.ref (q 0), .int (iI k)] (wT q cy nK st le be te ab bl ka bg ln ns me sc pi re bk pa lz go ss sm pf mf) (er st le be te ab bl sc pi k) (wT q cy nK st le be te ab bl ka bg ln ns me sc pi re bk pa lz go ss sm pf mf) := by
  refine MI.ofW (cc := cX5_errorOf) (maxL := 2) (ret := (some .int)) (by decide) rfl (Nat.le_of_ble_eq_true rfl) ?_
  intro p e s m below meth c A ls X hK hP hD hA hS hl
  obtain ⟨hx, hb, hml, hr, hts, hown, hlocks⟩ := id X
  have hl : lv_has ls 2 [(0, .ref (q 0)), (1, .int (iI k))] := hl
  have f_25 := hts (Cond.fieldLink RX5 25 "TwoKeys" "board" "LTwoKeys$Board;") (by decide +kernel)
  have n_X5 : ∀ w ∈ u_ws RX5 TX5 9, w ∈ wsX5_errorOf := by decide +kernel
  have iK := I.nK
  refine lv_aload_n hx hb dX5_errorOf_0 rfl (lv_at hl 0 rfl) ?_
  refine va_get (D := D) (ci := 5) (v := .ref (q 1)) (C := RX5) (T := TX5) (N := 9) hx hb hts n_X5 hown hK hP 0 rfl rfl 0 (by decide) f_25 (fun _ h9 => h9) rfl dX5_errorOf_1 ?_
  refine lv_iload_n hx hb dX5_errorOf_4 rfl (lv_at hl 1 rfl) ?_
  refine z_callVi (ci := 0) (q0 := 1) (As := [.int (iI k)]) (rest := []) X hK hP hD hA hS hl.1 gX5_errorOf_X0_toneOf rfl ⟨rfl, rfl⟩ hd_X0_toneOf ⟨Nat.le_of_ble_eq_true rfl, Nat.le_of_ble_eq_true rfl⟩ rfl rfl rfl (Nat.le_of_ble_eq_true rfl) ⟨Nat.zero_le _, Nat.zero_le _⟩ rfl dX5_errorOf_5 (c_X0_toneOf I k (by omega)) (fun H locs hP hD hS => ?_)
  refine lv_aload_n hx hb dX5_errorOf_8 rfl (lv_at hl 0 rfl) ?_
  refine lv_iload_n hx hb dX5_errorOf_9 rfl (lv_at hl 1 rfl) ?_
  refine z_callVi (ci := 5) (q0 := 0) (As := [.int (iI k)]) (rest := [.int (iI (te (st k) * 10000 / (le k + be k)))]) X hK hP hD hA hS hl.1 gX5_errorOf_X5_goalOf rfl ⟨rfl, rfl⟩ hd_X5_goalOf ⟨Nat.le_of_ble_eq_true rfl, Nat.le_of_ble_eq_true rfl⟩ rfl rfl rfl (Nat.le_of_ble_eq_true rfl) ⟨Nat.zero_le _, Nat.zero_le _⟩ rfl dX5_errorOf_10 (c_X5_goalOf I k (by omega)) (fun H locs hP hD hS => ?_)
  refine z_isub hx hb dX5_errorOf_13 ?_
  exact z_iret X hK hP hD hS dX5_errorOf_14 (by first | rfl | omega | grind)

theorem hd_X5_allErrors : yX5_allErrors.cls = RX5 ∧ yX5_allErrors.cls ≠ "java/lang/invoke/MethodHandle" ∧ yX5_allErrors.cls ≠ "java/lang/invoke/VarHandle" ∧ (parseMethodDescriptor yX5_allErrors.desc).map (fun d => d.parameters.length) = some 0 := by decide +kernel
set_option maxHeartbeats 4000000 in
set_option maxRecDepth 100000 in
theorem c_X5_allErrors (I : okS nK st le be te ab bl ka bg ln ns me sc pi re bk)   : MI l D cy yX5_allErrors wsX5_allErrors ({ frames := 3, cells := 0, slots := 0, locals := 68 } : Room) [.ref (q 0)] (wT q cy nK st le be te ab bl ka bg ln ns me sc pi re bk pa lz go ss sm pf mf) (sZ (fun k => aZ (er st le be te ab bl sc pi k)) 0 nK) (wT q cy nK st le be te ab bl ka bg ln ns me sc pi re bk pa lz go ss sm pf mf) := by
  refine MI.ofW (cc := cX5_allErrors) (maxL := 3) (ret := (some .int)) (by decide) rfl (Nat.le_of_ble_eq_true rfl) ?_
  intro p e s m below meth c A ls X hK hP hD hA hS hl
  obtain ⟨hx, hb, hml, hr, hts, hown, hlocks⟩ := id X
  have hl : lv_has ls 3 [(0, .ref (q 0))] := hl
  have f_25 := hts (Cond.fieldLink RX5 25 "TwoKeys" "board" "LTwoKeys$Board;") (by decide +kernel)
  have f_66 := hts (Cond.fieldLink RX5 66 "TwoKeys$Board" "size" "I") (by decide +kernel)
  have k_X5_136_Lib_Math_abs_name := hts (Cond.methodLink RX5 136 Lib.Math.abs.name) (by decide +kernel)
  have k_static_Lib_Math_abs_name := hts (Cond.static Lib.Math.abs.name) (by decide +kernel)
  have k_ialized__java_lang_Math_ := hts (Cond.initialized "java/lang/Math") (by decide +kernel)
  have k_h_abs_code_1__some__int_ := hts (Cond.code Lib.Math.abs.name Lib.Math.abs.code 1 (some .int)) (by decide +kernel)
  have n_X0 : ∀ w ∈ u_ws RX0 TX0 5, w ∈ wsX5_allErrors := by decide +kernel
  have n_X5 : ∀ w ∈ u_ws RX5 TX5 9, w ∈ wsX5_allErrors := by decide +kernel
  have iK := I.nK
  have i2 := I.pi
  refine lv_iconst (v := iI (0)) hx hb dX5_allErrors_0 rfl ?_
  refine lv_istore_n (lv' := [(1, .int (iI 0)), (0, .ref (q 0))]) hx hb dX5_allErrors_1 rfl hl (by decide) rfl (fun ls hl => ?_)
  refine lv_iconst (v := iI (0)) hx hb dX5_allErrors_2 rfl ?_
  refine lv_istore_n (lv' := [(2, .int (iI 0)), (1, .int (iI 0)), (0, .ref (q 0))]) hx hb dX5_allErrors_3 rfl hl (by decide) rfl (fun ls hl => ?_)
  have L_4 : ∀ (n : Nat) (acc : Int) (k : Int), (h0 : 0 ≤ k ∧ k ≤ nK) → (hf : nK - k < n) → (hr : acc = sZ (fun k => aZ (er st le be te ab bl sc pi k)) 0 k) → ∀ (H : Heap) (locs : List Loc) (ls : Array Slot), va_P D vwCl (wT q cy nK st le be te ab bl ka bg ln ns me sc pi re bk pa lz go ss sm pf mf) H → va_D A (wT q cy nK st le be te ab bl ka bg ln ns me sc pi re bk pa lz go ss sm pf mf) → va_S A s.heap H locs → lv_has ls 3 [(2, .int (iI k)), (1, .int (iI acc)), (0, .ref (q 0))] → W p l e ({ frames := 3, cells := 0, slots := 0, locals := 68 } : Room) s m [.ref (q 0)].toArray below meth c H locs 0 0 (MQ below (zQi D cy (wT q cy nK st le be te ab bl ka bg ln ns me sc pi re bk pa lz go ss sm pf mf) A (sZ (fun k => aZ (er st le be te ab bl sc pi k)) 0 nK)) [.ref (q 0)].toArray s 0 0 A) (F0 m 4 ls []) := by
    intro n
    induction n with
    | zero =>
      intro acc k h0 hf hr
      exfalso; omega
    | succ n ih_4 =>
      intro acc k h0 hf hr H locs ls hP hD hS hl
      refine lv_iload_n hx hb dX5_allErrors_4 rfl (lv_at hl 0 rfl) ?_
      refine lv_aload_n hx hb dX5_allErrors_5 rfl (lv_at hl 2 rfl) ?_
      refine va_get (D := D) (ci := 5) (v := .ref (q 1)) (C := RX5) (T := TX5) (N := 9) hx hb hts n_X5 hown hK hP 0 rfl rfl 0 (by decide) f_25 (fun _ h9 => h9) rfl dX5_allErrors_6 ?_
      refine va_get (D := D) (ci := 0) (v := .int (iI nK)) (C := RX0) (T := TX0) (N := 5) hx hb hts n_X0 hown hK hP 1 rfl rfl 0 (by decide) f_66 (fun _ h9 => h9) rfl dX5_allErrors_9 ?_
      refine z_icmp_ge (tgt := 32) hx hb dX5_allErrors_12 (by decide) (by omega) (fun c_1 => ?_) (fun c_1 => ?_)
      · refine lv_iload_n hx hb dX5_allErrors_32 rfl (lv_at hl 1 rfl) ?_
        exact z_iret X hK hP hD hS dX5_allErrors_33 (by rw [hr, show k = nK by omega])
      · refine lv_iload_n hx hb dX5_allErrors_15 rfl (lv_at hl 1 rfl) ?_
        refine lv_aload_n hx hb dX5_allErrors_16 rfl (lv_at hl 2 rfl) ?_
        refine lv_iload_n hx hb dX5_allErrors_17 rfl (lv_at hl 0 rfl) ?_
        refine z_callVi (ci := 5) (q0 := 0) (As := [.int (iI k)]) (rest := [.int (iI acc)]) X hK hP hD hA hS hl.1 gX5_allErrors_X5_errorOf rfl ⟨rfl, rfl⟩ hd_X5_errorOf ⟨Nat.le_of_ble_eq_true rfl, Nat.le_of_ble_eq_true rfl⟩ rfl rfl rfl (Nat.le_of_ble_eq_true rfl) ⟨Nat.zero_le _, Nat.zero_le _⟩ rfl dX5_allErrors_18 (c_X5_errorOf I k (by omega)) (fun H locs hP hD hS => ?_)
        have b7 := er_b I k
        refine z_abs hx hb (by rw [hml]; exact hl.1.symm) hown k_X5_136_Lib_Math_abs_name k_static_Lib_Math_abs_name k_ialized__java_lang_Math_ k_h_abs_code_1__some__int_ (Nat.le_of_ble_eq_true rfl) (Nat.le_of_ble_eq_true rfl) (Nat.zero_le _) (Nat.zero_le _) (by omega) dX5_allErrors_21 ?_
        refine z_iadd hx hb dX5_allErrors_24 ?_
        refine lv_istore_n (lv' := [(1, .int (iI (acc + (aZ (er st le be te ab bl sc pi k))))), (2, .int (iI k)), (0, .ref (q 0))]) hx hb dX5_allErrors_25 rfl hl (by decide) rfl (fun ls hl => ?_)
        refine lv_iinc (v := iI (k + 1)) (lv' := [(2, .int (iI (k + 1))), (1, .int (iI (acc + (aZ (er st le be te ab bl sc pi k))))), (0, .ref (q 0))]) hx hb dX5_allErrors_26 hl (k := 1) rfl (iI_add _ _) (by decide) rfl (fun ls hl => ?_)
        refine lv_goto (tgt := 4) hx hb dX5_allErrors_29 (by decide) ?_
        exact ih_4 (acc + (aZ (er st le be te ab bl sc pi k))) (k + 1) (by omega) (by omega) (by rw [sZ_step (by omega), ← hr]) _ _ _ hP hD hS (lv_sub hl [0, 1, 2] rfl)
  exact L_4 25 0 0 (by omega) (by omega) ((sZ_nil (by omega)).symm) _ _ _ hP hD hS (lv_sub hl [0, 1, 2] rfl)

theorem hd_X5_wrong : yX5_wrong.cls = RX5 ∧ yX5_wrong.cls ≠ "java/lang/invoke/MethodHandle" ∧ yX5_wrong.cls ≠ "java/lang/invoke/VarHandle" ∧ (parseMethodDescriptor yX5_wrong.desc).map (fun d => d.parameters.length) = some 0 := by decide +kernel
set_option maxHeartbeats 4000000 in
set_option maxRecDepth 100000 in
theorem c_X5_wrong (I : okS nK st le be te ab bl ka bg ln ns me sc pi re bk)   : MI l D cy yX5_wrong wsX5_wrong ({ frames := 4, cells := 0, slots := 0, locals := 90 } : Room) [.ref (q 0)] (wT q cy nK st le be te ab bl ka bg ln ns me sc pi re bk pa lz go ss sm pf mf) (sZ (fun k => aZ (er st le be te ab bl sc pi k)) 0 nK) (wT q cy nK st le be te ab bl ka bg ln ns me sc pi re bk pa lz go ss sm pf mf) := by
  refine MI.ofW (cc := cX5_wrong) (maxL := 1) (ret := (some .int)) (by decide) rfl (Nat.le_of_ble_eq_true rfl) ?_
  intro p e s m below meth c A ls X hK hP hD hA hS hl
  obtain ⟨hx, hb, hml, hr, hts, hown, hlocks⟩ := id X
  have hl : lv_has ls 1 [(0, .ref (q 0))] := hl
  have iK := I.nK
  refine lv_aload_n hx hb dX5_wrong_0 rfl (lv_at hl 0 rfl) ?_
  refine z_callVi (ci := 5) (q0 := 0) (As := []) (rest := []) X hK hP hD hA hS hl.1 gX5_wrong_X5_allErrors rfl ⟨rfl, rfl⟩ hd_X5_allErrors ⟨Nat.le_of_ble_eq_true rfl, Nat.le_of_ble_eq_true rfl⟩ rfl rfl rfl (Nat.le_of_ble_eq_true rfl) ⟨Nat.zero_le _, Nat.zero_le _⟩ rfl dX5_wrong_1 (c_X5_allErrors I) (fun H locs hP hD hS => ?_)
  exact z_iret X hK hP hD hS dX5_wrong_4 (by first | rfl | omega | grind)

theorem hd_X5_worst : yX5_worst.cls = RX5 ∧ yX5_worst.cls ≠ "java/lang/invoke/MethodHandle" ∧ yX5_worst.cls ≠ "java/lang/invoke/VarHandle" ∧ (parseMethodDescriptor yX5_worst.desc).map (fun d => d.parameters.length) = some 0 := by decide +kernel
set_option maxHeartbeats 4000000 in
set_option maxRecDepth 100000 in
theorem c_X5_worst (I : okS nK st le be te ab bl ka bg ln ns me sc pi re bk)   : MI l D cy yX5_worst wsX5_worst ({ frames := 3, cells := 0, slots := 0, locals := 68 } : Room) [.ref (q 0)] (wT q cy nK st le be te ab bl ka bg ln ns me sc pi re bk pa lz go ss sm pf mf) (wsZ (fun k => aZ (er st le be te ab bl sc pi k)) (nK - 1).toNat) (wT q cy nK st le be te ab bl ka bg ln ns me sc pi re bk pa lz go ss sm pf mf) := by
  refine MI.ofW (cc := cX5_worst) (maxL := 5) (ret := (some .int)) (by decide) rfl (Nat.le_of_ble_eq_true rfl) ?_
  intro p e s m below meth c A ls X hK hP hD hA hS hl
  obtain ⟨hx, hb, hml, hr, hts, hown, hlocks⟩ := id X
  have hl : lv_has ls 5 [(0, .ref (q 0))] := hl
  have k_X5_136_Lib_Math_abs_name := hts (Cond.methodLink RX5 136 Lib.Math.abs.name) (by decide +kernel)
  have k_static_Lib_Math_abs_name := hts (Cond.static Lib.Math.abs.name) (by decide +kernel)
  have k_ialized__java_lang_Math_ := hts (Cond.initialized "java/lang/Math") (by decide +kernel)
  have k_h_abs_code_1__some__int_ := hts (Cond.code Lib.Math.abs.name Lib.Math.abs.code 1 (some .int)) (by decide +kernel)
  have f_25 := hts (Cond.fieldLink RX5 25 "TwoKeys" "board" "LTwoKeys$Board;") (by decide +kernel)
  have f_66 := hts (Cond.fieldLink RX5 66 "TwoKeys$Board" "size" "I") (by decide +kernel)
  have n_X0 : ∀ w ∈ u_ws RX0 TX0 5, w ∈ wsX5_worst := by decide +kernel
  have n_X5 : ∀ w ∈ u_ws RX5 TX5 9, w ∈ wsX5_worst := by decide +kernel
  have iK := I.nK
  have i2 := I.pi
  refine lv_iconst (v := iI (0)) hx hb dX5_worst_0 rfl ?_
  refine lv_istore_n (lv' := [(1, .int (iI 0)), (0, .ref (q 0))]) hx hb dX5_worst_1 rfl hl (by decide) rfl (fun ls hl => ?_)
  refine lv_aload_n hx hb dX5_worst_2 rfl (lv_at hl 1 rfl) ?_
  refine lv_iconst (v := iI (0)) hx hb dX5_worst_3 rfl ?_
  refine z_callVi (ci := 5) (q0 := 0) (As := [.int (iI 0)]) (rest := []) X hK hP hD hA hS hl.1 gX5_worst_X5_errorOf rfl ⟨rfl, rfl⟩ hd_X5_errorOf ⟨Nat.le_of_ble_eq_true rfl, Nat.le_of_ble_eq_true rfl⟩ rfl rfl rfl (Nat.le_of_ble_eq_true rfl) ⟨Nat.zero_le _, Nat.zero_le _⟩ rfl dX5_worst_4 (c_X5_errorOf I 0 (by omega)) (fun H locs hP hD hS => ?_)
  have b7 := er_b I 0
  refine z_abs hx hb (by rw [hml]; exact hl.1.symm) hown k_X5_136_Lib_Math_abs_name k_static_Lib_Math_abs_name k_ialized__java_lang_Math_ k_h_abs_code_1__some__int_ (Nat.le_of_ble_eq_true rfl) (Nat.le_of_ble_eq_true rfl) (Nat.zero_le _) (Nat.zero_le _) (by omega) dX5_worst_7 ?_
  refine lv_istore_n (lv' := [(2, .int (iI (aZ (er st le be te ab bl sc pi 0)))), (1, .int (iI 0)), (0, .ref (q 0))]) hx hb dX5_worst_10 rfl hl (by decide) rfl (fun ls hl => ?_)
  refine lv_iconst (v := iI (1)) hx hb dX5_worst_11 rfl ?_
  refine lv_istore_n (lv' := [(3, .int (iI 1)), (2, .int (iI (aZ (er st le be te ab bl sc pi 0)))), (1, .int (iI 0)), (0, .ref (q 0))]) hx hb dX5_worst_12 rfl hl (by decide) rfl (fun ls hl => ?_)
  have L_13 : ∀ (n : Nat) (at9 : Int) (g : Int) (k : Int), (h0 : 1 ≤ k ∧ k ≤ nK) → (hf : nK - k < n) → (hr : at9 = wsZ (fun k => aZ (er st le be te ab bl sc pi k)) (k - 1).toNat) → (hg : g = aZ (er st le be te ab bl sc pi at9)) → (ha : 0 ≤ at9 ∧ at9 < 24) → ∀ (H : Heap) (locs : List Loc) (ls : Array Slot), va_P D vwCl (wT q cy nK st le be te ab bl ka bg ln ns me sc pi re bk pa lz go ss sm pf mf) H → va_D A (wT q cy nK st le be te ab bl ka bg ln ns me sc pi re bk pa lz go ss sm pf mf) → va_S A s.heap H locs → lv_has ls 5 [(3, .int (iI k)), (2, .int (iI g)), (1, .int (iI at9)), (0, .ref (q 0))] → W p l e ({ frames := 3, cells := 0, slots := 0, locals := 68 } : Room) s m [.ref (q 0)].toArray below meth c H locs 0 0 (MQ below (zQi D cy (wT q cy nK st le be te ab bl ka bg ln ns me sc pi re bk pa lz go ss sm pf mf) A (wsZ (fun k => aZ (er st le be te ab bl sc pi k)) (nK - 1).toNat)) [.ref (q 0)].toArray s 0 0 A) (F0 m 13 ls []) := by
    intro n
    induction n with
    | zero =>
      intro at9 g k h0 hf hr hg ha
      exfalso; omega
    | succ n ih_13 =>
      intro at9 g k h0 hf hr hg ha H locs ls hP hD hS hl
      have b5 := er_b I at9
      have b3 := aZ_b (er st le be te ab bl sc pi at9)
      refine lv_iload_n hx hb dX5_worst_13 rfl (lv_at hl 0 rfl) ?_
      refine lv_aload_n hx hb dX5_worst_14 rfl (lv_at hl 3 rfl) ?_
      refine va_get (D := D) (ci := 5) (v := .ref (q 1)) (C := RX5) (T := TX5) (N := 9) hx hb hts n_X5 hown hK hP 0 rfl rfl 0 (by decide) f_25 (fun _ h9 => h9) rfl dX5_worst_15 ?_
      refine va_get (D := D) (ci := 0) (v := .int (iI nK)) (C := RX0) (T := TX0) (N := 5) hx hb hts n_X0 hown hK hP 1 rfl rfl 0 (by decide) f_66 (fun _ h9 => h9) rfl dX5_worst_18 ?_
      refine z_icmp_ge (tgt := 51) hx hb dX5_worst_21 (by decide) (by omega) (fun c_1 => ?_) (fun c_1 => ?_)
      · refine lv_iload_n hx hb dX5_worst_51 rfl (lv_at hl 2 rfl) ?_
        exact z_iret X hK hP hD hS dX5_worst_52 (by rw [hr, show k = nK by omega])
      · refine lv_aload_n hx hb dX5_worst_24 rfl (lv_at hl 3 rfl) ?_
        refine lv_iload_n hx hb dX5_worst_25 rfl (lv_at hl 0 rfl) ?_
        refine z_callVi (ci := 5) (q0 := 0) (As := [.int (iI k)]) (rest := []) X hK hP hD hA hS hl.1 gX5_worst_X5_errorOf rfl ⟨rfl, rfl⟩ hd_X5_errorOf ⟨Nat.le_of_ble_eq_true rfl, Nat.le_of_ble_eq_true rfl⟩ rfl rfl rfl (Nat.le_of_ble_eq_true rfl) ⟨Nat.zero_le _, Nat.zero_le _⟩ rfl dX5_worst_26 (c_X5_errorOf I k (by omega)) (fun H locs hP hD hS => ?_)
        have b7 := er_b I k
        have b2 := aZ_b (er st le be te ab bl sc pi k)
        refine z_abs hx hb (by rw [hml]; exact hl.1.symm) hown k_X5_136_Lib_Math_abs_name k_static_Lib_Math_abs_name k_ialized__java_lang_Math_ k_h_abs_code_1__some__int_ (Nat.le_of_ble_eq_true rfl) (Nat.le_of_ble_eq_true rfl) (Nat.zero_le _) (Nat.zero_le _) (by omega) dX5_worst_29 ?_
        refine lv_istore (lv' := [(4, .int (iI (aZ (er st le be te ab bl sc pi k)))), (3, .int (iI k)), (2, .int (iI g)), (1, .int (iI at9)), (0, .ref (q 0))]) hx hb dX5_worst_32 hl (by decide) rfl (fun ls hl => ?_)
        refine lv_iload hx hb dX5_worst_34 (lv_at hl 0 rfl) ?_
        refine lv_iload_n hx hb dX5_worst_36 rfl (lv_at hl 2 rfl) ?_
        refine z_icmp_le (tgt := 45) hx hb dX5_worst_37 (by decide) (by omega) (fun c_2 => ?_) (fun c_2 => ?_)
        · refine lv_iinc (v := iI (k + 1)) (lv' := [(3, .int (iI (k + 1))), (4, .int (iI (aZ (er st le be te ab bl sc pi k)))), (2, .int (iI g)), (1, .int (iI at9)), (0, .ref (q 0))]) hx hb dX5_worst_45 hl (k := 1) rfl (iI_add _ _) (by decide) rfl (fun ls hl => ?_)
          refine lv_goto (tgt := 13) hx hb dX5_worst_48 (by decide) ?_
          exact ih_13 at9 g (k + 1) (by omega) (by omega) (by first | exact wsZ_gt (by omega) hr hg (by omega) | exact wsZ_le (by omega) hr hg (by omega)) (by first | rfl | exact hg) (by omega) _ _ _ hP hD hS (lv_sub hl [0, 2, 3, 4] rfl)
        · refine lv_iload hx hb dX5_worst_40 (lv_at hl 0 rfl) ?_
          refine lv_istore_n (lv' := [(2, .int (iI (aZ (er st le be te ab bl sc pi k)))), (4, .int (iI (aZ (er st le be te ab bl sc pi k)))), (3, .int (iI k)), (1, .int (iI at9)), (0, .ref (q 0))]) hx hb dX5_worst_42 rfl hl (by decide) rfl (fun ls hl => ?_)
          refine lv_iload_n hx hb dX5_worst_43 rfl (lv_at hl 2 rfl) ?_
          refine lv_istore_n (lv' := [(1, .int (iI k)), (2, .int (iI (aZ (er st le be te ab bl sc pi k)))), (4, .int (iI (aZ (er st le be te ab bl sc pi k)))), (3, .int (iI k)), (0, .ref (q 0))]) hx hb dX5_worst_44 rfl hl (by decide) rfl (fun ls hl => ?_)
          refine lv_iinc (v := iI (k + 1)) (lv' := [(3, .int (iI (k + 1))), (1, .int (iI k)), (2, .int (iI (aZ (er st le be te ab bl sc pi k)))), (4, .int (iI (aZ (er st le be te ab bl sc pi k)))), (0, .ref (q 0))]) hx hb dX5_worst_45 hl (k := 3) rfl (iI_add _ _) (by decide) rfl (fun ls hl => ?_)
          refine lv_goto (tgt := 13) hx hb dX5_worst_48 (by decide) ?_
          exact ih_13 k (aZ (er st le be te ab bl sc pi k)) (k + 1) (by omega) (by omega) (by first | exact wsZ_gt (by omega) hr hg (by omega) | exact wsZ_le (by omega) hr hg (by omega)) (by first | rfl | exact hg) (by omega) _ _ _ hP hD hS (lv_sub hl [0, 2, 1, 4] rfl)
  exact L_13 25 0 (aZ (er st le be te ab bl sc pi 0)) 1 (by omega) (by omega) rfl rfl (by omega) _ _ _ hP hD hS (lv_sub hl [0, 1, 2, 3] rfl)

theorem hd_X5_keys : yX5_keys.cls = RX5 ∧ yX5_keys.cls ≠ "java/lang/invoke/MethodHandle" ∧ yX5_keys.cls ≠ "java/lang/invoke/VarHandle" ∧ (parseMethodDescriptor yX5_keys.desc).map (fun d => d.parameters.length) = some 1 := by decide +kernel
set_option maxHeartbeats 4000000 in
set_option maxRecDepth 100000 in
theorem c_X5_keys_ok (I : okS nK st le be te ab bl ka bg ln ns me sc pi re bk) (n9 : Int) (h : -2147483648 ≤ n9 ∧ n9 ≤ 2147483647) (hok : 1 ≤ n9 ∧ n9 ≤ 24) : MI l D cy yX5_keys wsX5_keys ({ frames := 1, cells := 0, slots := 0, locals := 22 } : Room) [.ref (q 0), .int (iI n9)] (wT q cy nK st le be te ab bl ka bg ln ns me sc pi re bk pa lz go ss sm pf mf) nK (wT q cy n9 st le be te ab bl ka bg ln ns me sc pi re bk pa lz go ss sm pf mf) := by
  refine MI.ofW (cc := cX5_keys) (maxL := 3) (ret := (some .int)) (by decide) rfl (Nat.le_of_ble_eq_true rfl) ?_
  intro p e s m below meth c A ls X hK hP hD hA hS hl
  obtain ⟨hx, hb, hml, hr, hts, hown, hlocks⟩ := id X
  have hl : lv_has ls 3 [(0, .ref (q 0)), (1, .int (iI n9))] := hl
  have f_25 := hts (Cond.fieldLink RX5 25 "TwoKeys" "board" "LTwoKeys$Board;") (by decide +kernel)
  have f_66 := hts (Cond.fieldLink RX5 66 "TwoKeys$Board" "size" "I") (by decide +kernel)
  have n_X0 : ∀ w ∈ u_ws RX0 TX0 5, w ∈ wsX5_keys := by decide +kernel
  have n_X5 : ∀ w ∈ u_ws RX5 TX5 9, w ∈ wsX5_keys := by decide +kernel
  have iK := I.nK
  refine lv_iload_n hx hb dX5_keys_0 rfl (lv_at hl 1 rfl) ?_
  refine lv_iconst (v := iI (1)) hx hb dX5_keys_1 rfl ?_
  refine lv_bipush (v := iI (24)) hx hb dX5_keys_2 (by decide) ?_
  refine z_callSi (As := [.int (iI n9), .int (iI 1), .int (iI 24)]) (rest := []) X hK hP hD hA hS hl.1 gX5_keys_X5_within rfl ⟨rfl, rfl⟩ hd_X5_within ⟨Nat.le_of_ble_eq_true rfl, Nat.le_of_ble_eq_true rfl⟩ rfl (Nat.le_of_ble_eq_true rfl) ⟨Nat.zero_le _, Nat.zero_le _⟩ rfl dX5_keys_4 (c_X5_within n9 1 24 (by omega)) (fun H locs hP hD hS => ?_)
  refine z_ifp_ne (tgt := 13) hx hb dX5_keys_7 (by decide) (fun c_1 => ?_) (fun c_1 => ?_)
  · refine lv_aload_n hx hb dX5_keys_13 rfl (lv_at hl 0 rfl) ?_
    refine va_get (D := D) (ci := 5) (v := .ref (q 1)) (C := RX5) (T := TX5) (N := 9) hx hb hts n_X5 hown hK hP 0 rfl rfl 0 (by decide) f_25 (fun _ h9 => h9) rfl dX5_keys_14 ?_
    refine va_get (D := D) (ci := 0) (v := .int (iI nK)) (C := RX0) (T := TX0) (N := 5) hx hb hts n_X0 hown hK hP 1 rfl rfl 0 (by decide) f_66 (fun _ h9 => h9) rfl dX5_keys_17 ?_
    refine lv_istore_n (lv' := [(2, .int (iI nK)), (0, .ref (q 0)), (1, .int (iI n9))]) hx hb dX5_keys_20 rfl hl (by decide) rfl (fun ls hl => ?_)
    refine lv_aload_n hx hb dX5_keys_21 rfl (lv_at hl 1 rfl) ?_
    refine va_get (D := D) (ci := 5) (v := .ref (q 1)) (C := RX5) (T := TX5) (N := 9) hx hb hts n_X5 hown hK hP 0 rfl rfl 0 (by decide) f_25 (fun _ h9 => h9) rfl dX5_keys_22 ?_
    refine lv_iload_n hx hb dX5_keys_25 rfl (lv_at hl 2 rfl) ?_
    refine va_put (D := D) (ci := 0) (v := .int (iI n9)) (ty := .int) (C := RX0) (T := TX0) (N := 5) hx hb hts n_X0 tyX0 tyX0_ok nmX0 hown hK hP hD hS 1 rfl rfl 0 (by decide) f_66 (fun _ h9 => h9) rfl (by decide +kernel) rfl rfl (Nat.le_of_ble_eq_true rfl) dX5_keys_26 (fun H locs hP hD hS => ?_)
    have hP : va_P D vwCl (wT q cy n9 st le be te ab bl ka bg ln ns me sc pi re bk pa lz go ss sm pf mf) H := hP
    have hD : va_D A (wT q cy n9 st le be te ab bl ka bg ln ns me sc pi re bk pa lz go ss sm pf mf) := hD
    refine lv_iload_n hx hb dX5_keys_29 rfl (lv_at hl 0 rfl) ?_
    exact z_iret X hK hP hD hS dX5_keys_30 (by first | rfl | omega | grind)
  · exact absurd c_1 (by omega)

set_option maxHeartbeats 4000000 in
set_option maxRecDepth 100000 in
theorem c_X5_keys_no (I : okS nK st le be te ab bl ka bg ln ns me sc pi re bk) (n9 : Int) (h : -2147483648 ≤ n9 ∧ n9 ≤ 2147483647) (hno : ¬ (1 ≤ n9 ∧ n9 ≤ 24)) : MI l D cy yX5_keys wsX5_keys ({ frames := 1, cells := 0, slots := 0, locals := 22 } : Room) [.ref (q 0), .int (iI n9)] (wT q cy nK st le be te ab bl ka bg ln ns me sc pi re bk pa lz go ss sm pf mf) (-100002) (wT q cy nK st le be te ab bl ka bg ln ns me sc pi re bk pa lz go ss sm pf mf) := by
  refine MI.ofW (cc := cX5_keys) (maxL := 3) (ret := (some .int)) (by decide) rfl (Nat.le_of_ble_eq_true rfl) ?_
  intro p e s m below meth c A ls X hK hP hD hA hS hl
  obtain ⟨hx, hb, hml, hr, hts, hown, hlocks⟩ := id X
  have hl : lv_has ls 3 [(0, .ref (q 0)), (1, .int (iI n9))] := hl
  have k_65 := hts (Cond.constant RX5 65 (-100002)) (by decide +kernel)
  have iK := I.nK
  refine lv_iload_n hx hb dX5_keys_0 rfl (lv_at hl 1 rfl) ?_
  refine lv_iconst (v := iI (1)) hx hb dX5_keys_1 rfl ?_
  refine lv_bipush (v := iI (24)) hx hb dX5_keys_2 (by decide) ?_
  refine z_callSi (As := [.int (iI n9), .int (iI 1), .int (iI 24)]) (rest := []) X hK hP hD hA hS hl.1 gX5_keys_X5_within rfl ⟨rfl, rfl⟩ hd_X5_within ⟨Nat.le_of_ble_eq_true rfl, Nat.le_of_ble_eq_true rfl⟩ rfl (Nat.le_of_ble_eq_true rfl) ⟨Nat.zero_le _, Nat.zero_le _⟩ rfl dX5_keys_4 (c_X5_within n9 1 24 (by omega)) (fun H locs hP hD hS => ?_)
  refine z_ifp_ne (tgt := 13) hx hb dX5_keys_7 (by decide) (fun c_1 => ?_) (fun c_1 => ?_)
  · exact absurd c_1 (by omega)
  · refine z_ldc (n := -100002) hx hb hown k_65 (by decide) dX5_keys_10 ?_
    exact z_iret X hK hP hD hS dX5_keys_12 (by (repeat' split) <;> first | rfl | omega)

theorem hd_X5_strike : yX5_strike.cls = RX5 ∧ yX5_strike.cls ≠ "java/lang/invoke/MethodHandle" ∧ yX5_strike.cls ≠ "java/lang/invoke/VarHandle" ∧ (parseMethodDescriptor yX5_strike.desc).map (fun d => d.parameters.length) = some 3 := by decide +kernel
set_option maxHeartbeats 4000000 in
set_option maxRecDepth 100000 in
theorem c_X5_strike_ok (I : okS nK st le be te ab bl ka bg ln ns me sc pi re bk) (k : Int) (s9 : Int) (l9 : Int) (h : -2147483648 ≤ k ∧ k ≤ 2147483647 ∧ -2147483648 ≤ s9 ∧ s9 ≤ 2147483647 ∧ -2147483648 ≤ l9 ∧ l9 ≤ 2147483647) (hok : (0 ≤ k ∧ k < nK) ∧ (0 ≤ s9 ∧ s9 ≤ 23) ∧ (500 ≤ l9 ∧ l9 ≤ 9999)) : MI l D cy yX5_strike wsX5_strike ({ frames := 2, cells := 0, slots := 0, locals := 42 } : Room) [.ref (q 0), .int (iI k), .int (iI s9), .int (iI l9)] (wT q cy nK st le be te ab bl ka bg ln ns me sc pi re bk pa lz go ss sm pf mf) (st k) (wT q cy nK (uZ st k s9) (uZ le k l9) (uZ be k 0) te ab bl ka bg ln ns me sc pi re bk pa lz go ss sm pf mf) := by
  refine MI.ofW (cc := cX5_strike) (maxL := 5) (ret := (some .int)) (by decide) rfl (Nat.le_of_ble_eq_true rfl) ?_
  intro p e s m below meth c A ls X hK hP hD hA hS hl
  obtain ⟨hx, hb, hml, hr, hts, hown, hlocks⟩ := id X
  have hl : lv_has ls 5 [(0, .ref (q 0)), (1, .int (iI k)), (2, .int (iI s9)), (3, .int (iI l9))] := hl
  have f_25 := hts (Cond.fieldLink RX5 25 "TwoKeys" "board" "LTwoKeys$Board;") (by decide +kernel)
  have f_77 := hts (Cond.fieldLink RX5 77 "TwoKeys$Board" "struck" "[I") (by decide +kernel)
  have f_81 := hts (Cond.fieldLink RX5 81 "TwoKeys$Board" "lengths" "[I") (by decide +kernel)
  have f_84 := hts (Cond.fieldLink RX5 84 "TwoKeys$Board" "bends" "[I") (by decide +kernel)
  have n_X0 : ∀ w ∈ u_ws RX0 TX0 5, w ∈ wsX5_strike := by decide +kernel
  have n_X5 : ∀ w ∈ u_ws RX5 TX5 9, w ∈ wsX5_strike := by decide +kernel
  have iK := I.nK
  refine lv_aload_n hx hb dX5_strike_0 rfl (lv_at hl 0 rfl) ?_
  refine va_get (D := D) (ci := 5) (v := .ref (q 1)) (C := RX5) (T := TX5) (N := 9) hx hb hts n_X5 hown hK hP 0 rfl rfl 0 (by decide) f_25 (fun _ h9 => h9) rfl dX5_strike_1 ?_
  refine lv_iload_n hx hb dX5_strike_4 rfl (lv_at hl 1 rfl) ?_
  refine z_callVi (ci := 0) (q0 := 1) (As := [.int (iI k)]) (rest := []) X hK hP hD hA hS hl.1 gX5_strike_X0_has rfl ⟨rfl, rfl⟩ hd_X0_has ⟨Nat.le_of_ble_eq_true rfl, Nat.le_of_ble_eq_true rfl⟩ rfl rfl rfl (Nat.le_of_ble_eq_true rfl) ⟨Nat.zero_le _, Nat.zero_le _⟩ rfl dX5_strike_5 (c_X0_has I k (by omega)) (fun H locs hP hD hS => ?_)
  refine z_ifp_eq (tgt := 18) hx hb dX5_strike_8 (by decide) (fun c_1 => ?_) (fun c_1 => ?_)
  · exact absurd c_1 (by omega)
  · refine lv_iload_n hx hb dX5_strike_11 rfl (lv_at hl 2 rfl) ?_
    refine z_callSi (As := [.int (iI s9)]) (rest := []) X hK hP hD hA hS hl.1 gX5_strike_X5_isString rfl ⟨rfl, rfl⟩ hd_X5_isString ⟨Nat.le_of_ble_eq_true rfl, Nat.le_of_ble_eq_true rfl⟩ rfl (Nat.le_of_ble_eq_true rfl) ⟨Nat.zero_le _, Nat.zero_le _⟩ rfl dX5_strike_12 (c_X5_isString s9 (by omega)) (fun H locs hP hD hS => ?_)
    refine z_ifp_ne (tgt := 21) hx hb dX5_strike_15 (by decide) (fun c_2 => ?_) (fun c_2 => ?_)
    · refine lv_iload_n hx hb dX5_strike_21 rfl (lv_at hl 3 rfl) ?_
      refine lv_sipush (v := iI (500)) hx hb dX5_strike_22 (by decide) ?_
      refine lv_sipush (v := iI (9999)) hx hb dX5_strike_25 (by decide) ?_
      refine z_callSi (As := [.int (iI l9), .int (iI 500), .int (iI 9999)]) (rest := []) X hK hP hD hA hS hl.1 gX5_strike_X5_within rfl ⟨rfl, rfl⟩ hd_X5_within ⟨Nat.le_of_ble_eq_true rfl, Nat.le_of_ble_eq_true rfl⟩ rfl (Nat.le_of_ble_eq_true rfl) ⟨Nat.zero_le _, Nat.zero_le _⟩ rfl dX5_strike_28 (c_X5_within l9 500 9999 (by omega)) (fun H locs hP hD hS => ?_)
      refine z_ifp_ne (tgt := 37) hx hb dX5_strike_31 (by decide) (fun c_3 => ?_) (fun c_3 => ?_)
      · refine lv_aload_n hx hb dX5_strike_37 rfl (lv_at hl 0 rfl) ?_
        refine va_get (D := D) (ci := 5) (v := .ref (q 1)) (C := RX5) (T := TX5) (N := 9) hx hb hts n_X5 hown hK hP 0 rfl rfl 0 (by decide) f_25 (fun _ h9 => h9) rfl dX5_strike_38 ?_
        refine va_get (D := D) (ci := 0) (v := .ref (q 2)) (C := RX0) (T := TX0) (N := 5) hx hb hts n_X0 hown hK hP 1 rfl rfl 1 (by decide) f_77 (fun _ h9 => h9) rfl dX5_strike_41 ?_
        refine lv_iload_n hx hb dX5_strike_44 rfl (lv_at hl 1 rfl) ?_
        refine z_iald hx hb hK hP 2 0 rfl rfl (by omega) dX5_strike_45 ?_
        have b_4 := I.st k
        refine lv_istore (lv' := [(4, .int (iI (st k))), (0, .ref (q 0)), (1, .int (iI k)), (2, .int (iI s9)), (3, .int (iI l9))]) hx hb dX5_strike_46 hl (by decide) rfl (fun ls hl => ?_)
        refine lv_aload_n hx hb dX5_strike_48 rfl (lv_at hl 1 rfl) ?_
        refine va_get (D := D) (ci := 5) (v := .ref (q 1)) (C := RX5) (T := TX5) (N := 9) hx hb hts n_X5 hown hK hP 0 rfl rfl 0 (by decide) f_25 (fun _ h9 => h9) rfl dX5_strike_49 ?_
        refine va_get (D := D) (ci := 0) (v := .ref (q 2)) (C := RX0) (T := TX0) (N := 5) hx hb hts n_X0 hown hK hP 1 rfl rfl 1 (by decide) f_77 (fun _ h9 => h9) rfl dX5_strike_52 ?_
        refine lv_iload_n hx hb dX5_strike_55 rfl (lv_at hl 2 rfl) ?_
        refine lv_iload_n hx hb dX5_strike_56 rfl (lv_at hl 3 rfl) ?_
        refine z_iast (v := s9) hx hb hK hP hD hS 2 0 rfl rfl (by omega) dX5_strike_57 (fun H locs hP hD hS => ?_)
        have hP : va_P D vwCl (wT q cy nK (uZ st k s9) le be te ab bl ka bg ln ns me sc pi re bk pa lz go ss sm pf mf) H := hP
        have hD : va_D A (wT q cy nK (uZ st k s9) le be te ab bl ka bg ln ns me sc pi re bk pa lz go ss sm pf mf) := hD
        refine lv_aload_n hx hb dX5_strike_58 rfl (lv_at hl 1 rfl) ?_
        refine va_get (D := D) (ci := 5) (v := .ref (q 1)) (C := RX5) (T := TX5) (N := 9) hx hb hts n_X5 hown hK hP 0 rfl rfl 0 (by decide) f_25 (fun _ h9 => h9) rfl dX5_strike_59 ?_
        refine va_get (D := D) (ci := 0) (v := .ref (q 3)) (C := RX0) (T := TX0) (N := 5) hx hb hts n_X0 hown hK hP 1 rfl rfl 2 (by decide) f_81 (fun _ h9 => h9) rfl dX5_strike_62 ?_
        refine lv_iload_n hx hb dX5_strike_65 rfl (lv_at hl 2 rfl) ?_
        refine lv_iload_n hx hb dX5_strike_66 rfl (lv_at hl 4 rfl) ?_
        refine z_iast (v := l9) hx hb hK hP hD hS 3 0 rfl rfl (by omega) dX5_strike_67 (fun H locs hP hD hS => ?_)
        have hP : va_P D vwCl (wT q cy nK (uZ st k s9) (uZ le k l9) be te ab bl ka bg ln ns me sc pi re bk pa lz go ss sm pf mf) H := hP
        have hD : va_D A (wT q cy nK (uZ st k s9) (uZ le k l9) be te ab bl ka bg ln ns me sc pi re bk pa lz go ss sm pf mf) := hD
        refine lv_aload_n hx hb dX5_strike_68 rfl (lv_at hl 1 rfl) ?_
        refine va_get (D := D) (ci := 5) (v := .ref (q 1)) (C := RX5) (T := TX5) (N := 9) hx hb hts n_X5 hown hK hP 0 rfl rfl 0 (by decide) f_25 (fun _ h9 => h9) rfl dX5_strike_69 ?_
        refine va_get (D := D) (ci := 0) (v := .ref (q 4)) (C := RX0) (T := TX0) (N := 5) hx hb hts n_X0 hown hK hP 1 rfl rfl 3 (by decide) f_84 (fun _ h9 => h9) rfl dX5_strike_72 ?_
        refine lv_iload_n hx hb dX5_strike_75 rfl (lv_at hl 2 rfl) ?_
        refine lv_iconst (v := iI (0)) hx hb dX5_strike_76 rfl ?_
        refine z_iast (v := 0) hx hb hK hP hD hS 4 0 rfl rfl (by omega) dX5_strike_77 (fun H locs hP hD hS => ?_)
        have hP : va_P D vwCl (wT q cy nK (uZ st k s9) (uZ le k l9) (uZ be k 0) te ab bl ka bg ln ns me sc pi re bk pa lz go ss sm pf mf) H := hP
        have hD : va_D A (wT q cy nK (uZ st k s9) (uZ le k l9) (uZ be k 0) te ab bl ka bg ln ns me sc pi re bk pa lz go ss sm pf mf) := hD
        refine lv_iload hx hb dX5_strike_78 (lv_at hl 0 rfl) ?_
        exact z_iret X hK hP hD hS dX5_strike_80 (by first | rfl | omega | grind)
      · exact absurd c_3 (by omega)
    · exact absurd c_2 (by omega)

set_option maxHeartbeats 4000000 in
set_option maxRecDepth 100000 in
theorem c_X5_strike_no (I : okS nK st le be te ab bl ka bg ln ns me sc pi re bk) (k : Int) (s9 : Int) (l9 : Int) (h : -2147483648 ≤ k ∧ k ≤ 2147483647 ∧ -2147483648 ≤ s9 ∧ s9 ≤ 2147483647 ∧ -2147483648 ≤ l9 ∧ l9 ≤ 2147483647) (hno : ¬ ((0 ≤ k ∧ k < nK) ∧ (0 ≤ s9 ∧ s9 ≤ 23) ∧ (500 ≤ l9 ∧ l9 ≤ 9999))) : MI l D cy yX5_strike wsX5_strike ({ frames := 2, cells := 0, slots := 0, locals := 42 } : Room) [.ref (q 0), .int (iI k), .int (iI s9), .int (iI l9)] (wT q cy nK st le be te ab bl ka bg ln ns me sc pi re bk pa lz go ss sm pf mf) (if (0 ≤ k ∧ k < nK) ∧ (0 ≤ s9 ∧ s9 ≤ 23) then (-100002) else (-100001)) (wT q cy nK st le be te ab bl ka bg ln ns me sc pi re bk pa lz go ss sm pf mf) := by
  refine MI.ofW (cc := cX5_strike) (maxL := 5) (ret := (some .int)) (by decide) rfl (Nat.le_of_ble_eq_true rfl) ?_
  intro p e s m below meth c A ls X hK hP hD hA hS hl
  obtain ⟨hx, hb, hml, hr, hts, hown, hlocks⟩ := id X
  have hl : lv_has ls 5 [(0, .ref (q 0)), (1, .int (iI k)), (2, .int (iI s9)), (3, .int (iI l9))] := hl
  have f_25 := hts (Cond.fieldLink RX5 25 "TwoKeys" "board" "LTwoKeys$Board;") (by decide +kernel)
  have k_76 := hts (Cond.constant RX5 76 (-100001)) (by decide +kernel)
  have k_65 := hts (Cond.constant RX5 65 (-100002)) (by decide +kernel)
  have n_X5 : ∀ w ∈ u_ws RX5 TX5 9, w ∈ wsX5_strike := by decide +kernel
  have iK := I.nK
  refine lv_aload_n hx hb dX5_strike_0 rfl (lv_at hl 0 rfl) ?_
  refine va_get (D := D) (ci := 5) (v := .ref (q 1)) (C := RX5) (T := TX5) (N := 9) hx hb hts n_X5 hown hK hP 0 rfl rfl 0 (by decide) f_25 (fun _ h9 => h9) rfl dX5_strike_1 ?_
  refine lv_iload_n hx hb dX5_strike_4 rfl (lv_at hl 1 rfl) ?_
  refine z_callVi (ci := 0) (q0 := 1) (As := [.int (iI k)]) (rest := []) X hK hP hD hA hS hl.1 gX5_strike_X0_has rfl ⟨rfl, rfl⟩ hd_X0_has ⟨Nat.le_of_ble_eq_true rfl, Nat.le_of_ble_eq_true rfl⟩ rfl rfl rfl (Nat.le_of_ble_eq_true rfl) ⟨Nat.zero_le _, Nat.zero_le _⟩ rfl dX5_strike_5 (c_X0_has I k (by omega)) (fun H locs hP hD hS => ?_)
  refine z_ifp_eq (tgt := 18) hx hb dX5_strike_8 (by decide) (fun c_1 => ?_) (fun c_1 => ?_)
  · refine z_ldc (n := -100001) hx hb hown k_76 (by decide) dX5_strike_18 ?_
    exact z_iret X hK hP hD hS dX5_strike_20 (by (repeat' split) <;> first | rfl | omega)
  · refine lv_iload_n hx hb dX5_strike_11 rfl (lv_at hl 2 rfl) ?_
    refine z_callSi (As := [.int (iI s9)]) (rest := []) X hK hP hD hA hS hl.1 gX5_strike_X5_isString rfl ⟨rfl, rfl⟩ hd_X5_isString ⟨Nat.le_of_ble_eq_true rfl, Nat.le_of_ble_eq_true rfl⟩ rfl (Nat.le_of_ble_eq_true rfl) ⟨Nat.zero_le _, Nat.zero_le _⟩ rfl dX5_strike_12 (c_X5_isString s9 (by omega)) (fun H locs hP hD hS => ?_)
    refine z_ifp_ne (tgt := 21) hx hb dX5_strike_15 (by decide) (fun c_2 => ?_) (fun c_2 => ?_)
    · refine lv_iload_n hx hb dX5_strike_21 rfl (lv_at hl 3 rfl) ?_
      refine lv_sipush (v := iI (500)) hx hb dX5_strike_22 (by decide) ?_
      refine lv_sipush (v := iI (9999)) hx hb dX5_strike_25 (by decide) ?_
      refine z_callSi (As := [.int (iI l9), .int (iI 500), .int (iI 9999)]) (rest := []) X hK hP hD hA hS hl.1 gX5_strike_X5_within rfl ⟨rfl, rfl⟩ hd_X5_within ⟨Nat.le_of_ble_eq_true rfl, Nat.le_of_ble_eq_true rfl⟩ rfl (Nat.le_of_ble_eq_true rfl) ⟨Nat.zero_le _, Nat.zero_le _⟩ rfl dX5_strike_28 (c_X5_within l9 500 9999 (by omega)) (fun H locs hP hD hS => ?_)
      refine z_ifp_ne (tgt := 37) hx hb dX5_strike_31 (by decide) (fun c_3 => ?_) (fun c_3 => ?_)
      · exact absurd c_3 (by omega)
      · refine z_ldc (n := -100002) hx hb hown k_65 (by decide) dX5_strike_34 ?_
        exact z_iret X hK hP hD hS dX5_strike_36 (by (repeat' split) <;> first | rfl | omega)
    · refine z_ldc (n := -100001) hx hb hown k_76 (by decide) dX5_strike_18 ?_
      exact z_iret X hK hP hD hS dX5_strike_20 (by (repeat' split) <;> first | rfl | omega)

theorem hd_X5_tension : yX5_tension.cls = RX5 ∧ yX5_tension.cls ≠ "java/lang/invoke/MethodHandle" ∧ yX5_tension.cls ≠ "java/lang/invoke/VarHandle" ∧ (parseMethodDescriptor yX5_tension.desc).map (fun d => d.parameters.length) = some 2 := by decide +kernel
set_option maxHeartbeats 4000000 in
set_option maxRecDepth 100000 in
theorem c_X5_tension_ok (I : okS nK st le be te ab bl ka bg ln ns me sc pi re bk) (s9 : Int) (v : Int) (h : -2147483648 ≤ s9 ∧ s9 ≤ 2147483647 ∧ -2147483648 ≤ v ∧ v ≤ 2147483647) (hok : (0 ≤ s9 ∧ s9 ≤ 23) ∧ (100 ≤ v ∧ v ≤ 20000)) : MI l D cy yX5_tension wsX5_tension ({ frames := 2, cells := 0, slots := 0, locals := 42 } : Room) [.ref (q 0), .int (iI s9), .int (iI v)] (wT q cy nK st le be te ab bl ka bg ln ns me sc pi re bk pa lz go ss sm pf mf) (te s9) (wT q cy nK st le be (uZ te s9 v) ab bl ka bg ln ns me sc pi re bk pa lz go ss sm pf mf) := by
  refine MI.ofW (cc := cX5_tension) (maxL := 4) (ret := (some .int)) (by decide) rfl (Nat.le_of_ble_eq_true rfl) ?_
  intro p e s m below meth c A ls X hK hP hD hA hS hl
  obtain ⟨hx, hb, hml, hr, hts, hown, hlocks⟩ := id X
  have hl : lv_has ls 4 [(0, .ref (q 0)), (1, .int (iI s9)), (2, .int (iI v))] := hl
  have f_25 := hts (Cond.fieldLink RX5 25 "TwoKeys" "board" "LTwoKeys$Board;") (by decide +kernel)
  have f_87 := hts (Cond.fieldLink RX5 87 "TwoKeys$Board" "tensions" "[I") (by decide +kernel)
  have n_X0 : ∀ w ∈ u_ws RX0 TX0 5, w ∈ wsX5_tension := by decide +kernel
  have n_X5 : ∀ w ∈ u_ws RX5 TX5 9, w ∈ wsX5_tension := by decide +kernel
  have iK := I.nK
  refine lv_iload_n hx hb dX5_tension_0 rfl (lv_at hl 1 rfl) ?_
  refine z_callSi (As := [.int (iI s9)]) (rest := []) X hK hP hD hA hS hl.1 gX5_tension_X5_isString rfl ⟨rfl, rfl⟩ hd_X5_isString ⟨Nat.le_of_ble_eq_true rfl, Nat.le_of_ble_eq_true rfl⟩ rfl (Nat.le_of_ble_eq_true rfl) ⟨Nat.zero_le _, Nat.zero_le _⟩ rfl dX5_tension_1 (c_X5_isString s9 (by omega)) (fun H locs hP hD hS => ?_)
  refine z_ifp_ne (tgt := 10) hx hb dX5_tension_4 (by decide) (fun c_1 => ?_) (fun c_1 => ?_)
  · refine lv_iload_n hx hb dX5_tension_10 rfl (lv_at hl 2 rfl) ?_
    refine lv_bipush (v := iI (100)) hx hb dX5_tension_11 (by decide) ?_
    refine lv_sipush (v := iI (20000)) hx hb dX5_tension_13 (by decide) ?_
    refine z_callSi (As := [.int (iI v), .int (iI 100), .int (iI 20000)]) (rest := []) X hK hP hD hA hS hl.1 gX5_tension_X5_within rfl ⟨rfl, rfl⟩ hd_X5_within ⟨Nat.le_of_ble_eq_true rfl, Nat.le_of_ble_eq_true rfl⟩ rfl (Nat.le_of_ble_eq_true rfl) ⟨Nat.zero_le _, Nat.zero_le _⟩ rfl dX5_tension_16 (c_X5_within v 100 20000 (by omega)) (fun H locs hP hD hS => ?_)
    refine z_ifp_ne (tgt := 25) hx hb dX5_tension_19 (by decide) (fun c_2 => ?_) (fun c_2 => ?_)
    · refine lv_aload_n hx hb dX5_tension_25 rfl (lv_at hl 0 rfl) ?_
      refine va_get (D := D) (ci := 5) (v := .ref (q 1)) (C := RX5) (T := TX5) (N := 9) hx hb hts n_X5 hown hK hP 0 rfl rfl 0 (by decide) f_25 (fun _ h9 => h9) rfl dX5_tension_26 ?_
      refine va_get (D := D) (ci := 0) (v := .ref (q 5)) (C := RX0) (T := TX0) (N := 5) hx hb hts n_X0 hown hK hP 1 rfl rfl 4 (by decide) f_87 (fun _ h9 => h9) rfl dX5_tension_29 ?_
      refine lv_iload_n hx hb dX5_tension_32 rfl (lv_at hl 1 rfl) ?_
      refine z_iald hx hb hK hP 5 0 rfl rfl (by omega) dX5_tension_33 ?_
      have b_3 := I.te s9
      refine lv_istore_n (lv' := [(3, .int (iI (te s9))), (0, .ref (q 0)), (1, .int (iI s9)), (2, .int (iI v))]) hx hb dX5_tension_34 rfl hl (by decide) rfl (fun ls hl => ?_)
      refine lv_aload_n hx hb dX5_tension_35 rfl (lv_at hl 1 rfl) ?_
      refine va_get (D := D) (ci := 5) (v := .ref (q 1)) (C := RX5) (T := TX5) (N := 9) hx hb hts n_X5 hown hK hP 0 rfl rfl 0 (by decide) f_25 (fun _ h9 => h9) rfl dX5_tension_36 ?_
      refine va_get (D := D) (ci := 0) (v := .ref (q 5)) (C := RX0) (T := TX0) (N := 5) hx hb hts n_X0 hown hK hP 1 rfl rfl 4 (by decide) f_87 (fun _ h9 => h9) rfl dX5_tension_39 ?_
      refine lv_iload_n hx hb dX5_tension_42 rfl (lv_at hl 2 rfl) ?_
      refine lv_iload_n hx hb dX5_tension_43 rfl (lv_at hl 3 rfl) ?_
      refine z_iast (v := v) hx hb hK hP hD hS 5 0 rfl rfl (by omega) dX5_tension_44 (fun H locs hP hD hS => ?_)
      have hP : va_P D vwCl (wT q cy nK st le be (uZ te s9 v) ab bl ka bg ln ns me sc pi re bk pa lz go ss sm pf mf) H := hP
      have hD : va_D A (wT q cy nK st le be (uZ te s9 v) ab bl ka bg ln ns me sc pi re bk pa lz go ss sm pf mf) := hD
      refine lv_iload_n hx hb dX5_tension_45 rfl (lv_at hl 0 rfl) ?_
      exact z_iret X hK hP hD hS dX5_tension_46 (by first | rfl | omega | grind)
    · exact absurd c_2 (by omega)
  · exact absurd c_1 (by omega)

set_option maxHeartbeats 4000000 in
set_option maxRecDepth 100000 in
theorem c_X5_tension_no (I : okS nK st le be te ab bl ka bg ln ns me sc pi re bk) (s9 : Int) (v : Int) (h : -2147483648 ≤ s9 ∧ s9 ≤ 2147483647 ∧ -2147483648 ≤ v ∧ v ≤ 2147483647) (hno : ¬ ((0 ≤ s9 ∧ s9 ≤ 23) ∧ (100 ≤ v ∧ v ≤ 20000))) : MI l D cy yX5_tension wsX5_tension ({ frames := 2, cells := 0, slots := 0, locals := 42 } : Room) [.ref (q 0), .int (iI s9), .int (iI v)] (wT q cy nK st le be te ab bl ka bg ln ns me sc pi re bk pa lz go ss sm pf mf) (if 0 ≤ s9 ∧ s9 ≤ 23 then (-100002) else (-100001)) (wT q cy nK st le be te ab bl ka bg ln ns me sc pi re bk pa lz go ss sm pf mf) := by
  refine MI.ofW (cc := cX5_tension) (maxL := 4) (ret := (some .int)) (by decide) rfl (Nat.le_of_ble_eq_true rfl) ?_
  intro p e s m below meth c A ls X hK hP hD hA hS hl
  obtain ⟨hx, hb, hml, hr, hts, hown, hlocks⟩ := id X
  have hl : lv_has ls 4 [(0, .ref (q 0)), (1, .int (iI s9)), (2, .int (iI v))] := hl
  have k_65 := hts (Cond.constant RX5 65 (-100002)) (by decide +kernel)
  have k_76 := hts (Cond.constant RX5 76 (-100001)) (by decide +kernel)
  have iK := I.nK
  refine lv_iload_n hx hb dX5_tension_0 rfl (lv_at hl 1 rfl) ?_
  refine z_callSi (As := [.int (iI s9)]) (rest := []) X hK hP hD hA hS hl.1 gX5_tension_X5_isString rfl ⟨rfl, rfl⟩ hd_X5_isString ⟨Nat.le_of_ble_eq_true rfl, Nat.le_of_ble_eq_true rfl⟩ rfl (Nat.le_of_ble_eq_true rfl) ⟨Nat.zero_le _, Nat.zero_le _⟩ rfl dX5_tension_1 (c_X5_isString s9 (by omega)) (fun H locs hP hD hS => ?_)
  refine z_ifp_ne (tgt := 10) hx hb dX5_tension_4 (by decide) (fun c_1 => ?_) (fun c_1 => ?_)
  · refine lv_iload_n hx hb dX5_tension_10 rfl (lv_at hl 2 rfl) ?_
    refine lv_bipush (v := iI (100)) hx hb dX5_tension_11 (by decide) ?_
    refine lv_sipush (v := iI (20000)) hx hb dX5_tension_13 (by decide) ?_
    refine z_callSi (As := [.int (iI v), .int (iI 100), .int (iI 20000)]) (rest := []) X hK hP hD hA hS hl.1 gX5_tension_X5_within rfl ⟨rfl, rfl⟩ hd_X5_within ⟨Nat.le_of_ble_eq_true rfl, Nat.le_of_ble_eq_true rfl⟩ rfl (Nat.le_of_ble_eq_true rfl) ⟨Nat.zero_le _, Nat.zero_le _⟩ rfl dX5_tension_16 (c_X5_within v 100 20000 (by omega)) (fun H locs hP hD hS => ?_)
    refine z_ifp_ne (tgt := 25) hx hb dX5_tension_19 (by decide) (fun c_2 => ?_) (fun c_2 => ?_)
    · exact absurd c_2 (by omega)
    · refine z_ldc (n := -100002) hx hb hown k_65 (by decide) dX5_tension_22 ?_
      exact z_iret X hK hP hD hS dX5_tension_24 (by (repeat' split) <;> first | rfl | omega)
  · refine z_ldc (n := -100001) hx hb hown k_76 (by decide) dX5_tension_7 ?_
    exact z_iret X hK hP hD hS dX5_tension_9 (by (repeat' split) <;> first | rfl | omega)

theorem hd_X5_bend : yX5_bend.cls = RX5 ∧ yX5_bend.cls ≠ "java/lang/invoke/MethodHandle" ∧ yX5_bend.cls ≠ "java/lang/invoke/VarHandle" ∧ (parseMethodDescriptor yX5_bend.desc).map (fun d => d.parameters.length) = some 2 := by decide +kernel
set_option maxHeartbeats 4000000 in
set_option maxRecDepth 100000 in
theorem c_X5_bend_ok (I : okS nK st le be te ab bl ka bg ln ns me sc pi re bk) (k : Int) (v : Int) (h : -2147483648 ≤ k ∧ k ≤ 2147483647 ∧ -2147483648 ≤ v ∧ v ≤ 2147483647) (hok : (0 ≤ k ∧ k < nK) ∧ (-40 ≤ v ∧ v ≤ 40)) : MI l D cy yX5_bend wsX5_bend ({ frames := 1, cells := 0, slots := 0, locals := 22 } : Room) [.ref (q 0), .int (iI k), .int (iI v)] (wT q cy nK st le be te ab bl ka bg ln ns me sc pi re bk pa lz go ss sm pf mf) (be k) (wT q cy nK st le (uZ be k v) te ab bl ka bg ln ns me sc pi re bk pa lz go ss sm pf mf) := by
  refine MI.ofW (cc := cX5_bend) (maxL := 4) (ret := (some .int)) (by decide) rfl (Nat.le_of_ble_eq_true rfl) ?_
  intro p e s m below meth c A ls X hK hP hD hA hS hl
  obtain ⟨hx, hb, hml, hr, hts, hown, hlocks⟩ := id X
  have hl : lv_has ls 4 [(0, .ref (q 0)), (1, .int (iI k)), (2, .int (iI v))] := hl
  have f_25 := hts (Cond.fieldLink RX5 25 "TwoKeys" "board" "LTwoKeys$Board;") (by decide +kernel)
  have f_84 := hts (Cond.fieldLink RX5 84 "TwoKeys$Board" "bends" "[I") (by decide +kernel)
  have n_X0 : ∀ w ∈ u_ws RX0 TX0 5, w ∈ wsX5_bend := by decide +kernel
  have n_X5 : ∀ w ∈ u_ws RX5 TX5 9, w ∈ wsX5_bend := by decide +kernel
  have iK := I.nK
  refine lv_aload_n hx hb dX5_bend_0 rfl (lv_at hl 0 rfl) ?_
  refine va_get (D := D) (ci := 5) (v := .ref (q 1)) (C := RX5) (T := TX5) (N := 9) hx hb hts n_X5 hown hK hP 0 rfl rfl 0 (by decide) f_25 (fun _ h9 => h9) rfl dX5_bend_1 ?_
  refine lv_iload_n hx hb dX5_bend_4 rfl (lv_at hl 1 rfl) ?_
  refine z_callVi (ci := 0) (q0 := 1) (As := [.int (iI k)]) (rest := []) X hK hP hD hA hS hl.1 gX5_bend_X0_has rfl ⟨rfl, rfl⟩ hd_X0_has ⟨Nat.le_of_ble_eq_true rfl, Nat.le_of_ble_eq_true rfl⟩ rfl rfl rfl (Nat.le_of_ble_eq_true rfl) ⟨Nat.zero_le _, Nat.zero_le _⟩ rfl dX5_bend_5 (c_X0_has I k (by omega)) (fun H locs hP hD hS => ?_)
  refine z_ifp_ne (tgt := 14) hx hb dX5_bend_8 (by decide) (fun c_1 => ?_) (fun c_1 => ?_)
  · refine lv_iload_n hx hb dX5_bend_14 rfl (lv_at hl 2 rfl) ?_
    refine lv_bipush (v := iI (-40)) hx hb dX5_bend_15 (by decide) ?_
    refine lv_bipush (v := iI (40)) hx hb dX5_bend_17 (by decide) ?_
    refine z_callSi (As := [.int (iI v), .int (iI (-40)), .int (iI 40)]) (rest := []) X hK hP hD hA hS hl.1 gX5_bend_X5_within rfl ⟨rfl, rfl⟩ hd_X5_within ⟨Nat.le_of_ble_eq_true rfl, Nat.le_of_ble_eq_true rfl⟩ rfl (Nat.le_of_ble_eq_true rfl) ⟨Nat.zero_le _, Nat.zero_le _⟩ rfl dX5_bend_19 (c_X5_within v (-40) 40 (by omega)) (fun H locs hP hD hS => ?_)
    refine z_ifp_ne (tgt := 28) hx hb dX5_bend_22 (by decide) (fun c_2 => ?_) (fun c_2 => ?_)
    · refine lv_aload_n hx hb dX5_bend_28 rfl (lv_at hl 0 rfl) ?_
      refine va_get (D := D) (ci := 5) (v := .ref (q 1)) (C := RX5) (T := TX5) (N := 9) hx hb hts n_X5 hown hK hP 0 rfl rfl 0 (by decide) f_25 (fun _ h9 => h9) rfl dX5_bend_29 ?_
      refine va_get (D := D) (ci := 0) (v := .ref (q 4)) (C := RX0) (T := TX0) (N := 5) hx hb hts n_X0 hown hK hP 1 rfl rfl 3 (by decide) f_84 (fun _ h9 => h9) rfl dX5_bend_32 ?_
      refine lv_iload_n hx hb dX5_bend_35 rfl (lv_at hl 1 rfl) ?_
      refine z_iald hx hb hK hP 4 0 rfl rfl (by omega) dX5_bend_36 ?_
      have b_3 := I.be k
      refine lv_istore_n (lv' := [(3, .int (iI (be k))), (0, .ref (q 0)), (1, .int (iI k)), (2, .int (iI v))]) hx hb dX5_bend_37 rfl hl (by decide) rfl (fun ls hl => ?_)
      refine lv_aload_n hx hb dX5_bend_38 rfl (lv_at hl 1 rfl) ?_
      refine va_get (D := D) (ci := 5) (v := .ref (q 1)) (C := RX5) (T := TX5) (N := 9) hx hb hts n_X5 hown hK hP 0 rfl rfl 0 (by decide) f_25 (fun _ h9 => h9) rfl dX5_bend_39 ?_
      refine va_get (D := D) (ci := 0) (v := .ref (q 4)) (C := RX0) (T := TX0) (N := 5) hx hb hts n_X0 hown hK hP 1 rfl rfl 3 (by decide) f_84 (fun _ h9 => h9) rfl dX5_bend_42 ?_
      refine lv_iload_n hx hb dX5_bend_45 rfl (lv_at hl 2 rfl) ?_
      refine lv_iload_n hx hb dX5_bend_46 rfl (lv_at hl 3 rfl) ?_
      refine z_iast (v := v) hx hb hK hP hD hS 4 0 rfl rfl (by omega) dX5_bend_47 (fun H locs hP hD hS => ?_)
      have hP : va_P D vwCl (wT q cy nK st le (uZ be k v) te ab bl ka bg ln ns me sc pi re bk pa lz go ss sm pf mf) H := hP
      have hD : va_D A (wT q cy nK st le (uZ be k v) te ab bl ka bg ln ns me sc pi re bk pa lz go ss sm pf mf) := hD
      refine lv_iload_n hx hb dX5_bend_48 rfl (lv_at hl 0 rfl) ?_
      exact z_iret X hK hP hD hS dX5_bend_49 (by first | rfl | omega | grind)
    · exact absurd c_2 (by omega)
  · exact absurd c_1 (by omega)

set_option maxHeartbeats 4000000 in
set_option maxRecDepth 100000 in
theorem c_X5_bend_no (I : okS nK st le be te ab bl ka bg ln ns me sc pi re bk) (k : Int) (v : Int) (h : -2147483648 ≤ k ∧ k ≤ 2147483647 ∧ -2147483648 ≤ v ∧ v ≤ 2147483647) (hno : ¬ ((0 ≤ k ∧ k < nK) ∧ (-40 ≤ v ∧ v ≤ 40))) : MI l D cy yX5_bend wsX5_bend ({ frames := 1, cells := 0, slots := 0, locals := 22 } : Room) [.ref (q 0), .int (iI k), .int (iI v)] (wT q cy nK st le be te ab bl ka bg ln ns me sc pi re bk pa lz go ss sm pf mf) (if 0 ≤ k ∧ k < nK then (-100002) else (-100001)) (wT q cy nK st le be te ab bl ka bg ln ns me sc pi re bk pa lz go ss sm pf mf) := by
  refine MI.ofW (cc := cX5_bend) (maxL := 4) (ret := (some .int)) (by decide) rfl (Nat.le_of_ble_eq_true rfl) ?_
  intro p e s m below meth c A ls X hK hP hD hA hS hl
  obtain ⟨hx, hb, hml, hr, hts, hown, hlocks⟩ := id X
  have hl : lv_has ls 4 [(0, .ref (q 0)), (1, .int (iI k)), (2, .int (iI v))] := hl
  have f_25 := hts (Cond.fieldLink RX5 25 "TwoKeys" "board" "LTwoKeys$Board;") (by decide +kernel)
  have k_65 := hts (Cond.constant RX5 65 (-100002)) (by decide +kernel)
  have k_76 := hts (Cond.constant RX5 76 (-100001)) (by decide +kernel)
  have n_X5 : ∀ w ∈ u_ws RX5 TX5 9, w ∈ wsX5_bend := by decide +kernel
  have iK := I.nK
  refine lv_aload_n hx hb dX5_bend_0 rfl (lv_at hl 0 rfl) ?_
  refine va_get (D := D) (ci := 5) (v := .ref (q 1)) (C := RX5) (T := TX5) (N := 9) hx hb hts n_X5 hown hK hP 0 rfl rfl 0 (by decide) f_25 (fun _ h9 => h9) rfl dX5_bend_1 ?_
  refine lv_iload_n hx hb dX5_bend_4 rfl (lv_at hl 1 rfl) ?_
  refine z_callVi (ci := 0) (q0 := 1) (As := [.int (iI k)]) (rest := []) X hK hP hD hA hS hl.1 gX5_bend_X0_has rfl ⟨rfl, rfl⟩ hd_X0_has ⟨Nat.le_of_ble_eq_true rfl, Nat.le_of_ble_eq_true rfl⟩ rfl rfl rfl (Nat.le_of_ble_eq_true rfl) ⟨Nat.zero_le _, Nat.zero_le _⟩ rfl dX5_bend_5 (c_X0_has I k (by omega)) (fun H locs hP hD hS => ?_)
  refine z_ifp_ne (tgt := 14) hx hb dX5_bend_8 (by decide) (fun c_1 => ?_) (fun c_1 => ?_)
  · refine lv_iload_n hx hb dX5_bend_14 rfl (lv_at hl 2 rfl) ?_
    refine lv_bipush (v := iI (-40)) hx hb dX5_bend_15 (by decide) ?_
    refine lv_bipush (v := iI (40)) hx hb dX5_bend_17 (by decide) ?_
    refine z_callSi (As := [.int (iI v), .int (iI (-40)), .int (iI 40)]) (rest := []) X hK hP hD hA hS hl.1 gX5_bend_X5_within rfl ⟨rfl, rfl⟩ hd_X5_within ⟨Nat.le_of_ble_eq_true rfl, Nat.le_of_ble_eq_true rfl⟩ rfl (Nat.le_of_ble_eq_true rfl) ⟨Nat.zero_le _, Nat.zero_le _⟩ rfl dX5_bend_19 (c_X5_within v (-40) 40 (by omega)) (fun H locs hP hD hS => ?_)
    refine z_ifp_ne (tgt := 28) hx hb dX5_bend_22 (by decide) (fun c_2 => ?_) (fun c_2 => ?_)
    · exact absurd c_2 (by omega)
    · refine z_ldc (n := -100002) hx hb hown k_65 (by decide) dX5_bend_25 ?_
      exact z_iret X hK hP hD hS dX5_bend_27 (by (repeat' split) <;> first | rfl | omega)
  · refine z_ldc (n := -100001) hx hb hown k_76 (by decide) dX5_bend_11 ?_
    exact z_iret X hK hP hD hS dX5_bend_13 (by (repeat' split) <;> first | rfl | omega)

theorem hd_X5_about : yX5_about.cls = RX5 ∧ yX5_about.cls ≠ "java/lang/invoke/MethodHandle" ∧ yX5_about.cls ≠ "java/lang/invoke/VarHandle" ∧ (parseMethodDescriptor yX5_about.desc).map (fun d => d.parameters.length) = some 2 := by decide +kernel
set_option maxHeartbeats 4000000 in
set_option maxRecDepth 100000 in
theorem c_X5_about (I : okS nK st le be te ab bl ka bg ln ns me sc pi re bk) (k : Int) (w9 : Int) (h : -2147483648 ≤ k ∧ k ≤ 2147483647 ∧ -2147483648 ≤ w9 ∧ w9 ≤ 2147483647) : MI l D cy yX5_about wsX5_about ({ frames := 3, cells := 0, slots := 0, locals := 68 } : Room) [.ref (q 0), .int (iI k), .int (iI w9)] (wT q cy nK st le be te ab bl ka bg ln ns me sc pi re bk pa lz go ss sm pf mf) (if 0 ≤ k ∧ k < nK then (if w9 = 0 then st k else if w9 = 1 then le k else if w9 = 2 then be k else if w9 = 3 then te (st k) * 10000 / (le k + be k) else if w9 = 4 then gl ab bl sc pi k else if w9 = 5 then er st le be te ab bl sc pi k else (-100002)) else (-100001)) (wT q cy nK st le be te ab bl ka bg ln ns me sc pi re bk pa lz go ss sm pf mf) := by
  refine MI.ofW (cc := cX5_about) (maxL := 3) (ret := (some .int)) (by decide) rfl (Nat.le_of_ble_eq_true rfl) ?_
  intro p e s m below meth c A ls X hK hP hD hA hS hl
  obtain ⟨hx, hb, hml, hr, hts, hown, hlocks⟩ := id X
  have hl : lv_has ls 3 [(0, .ref (q 0)), (1, .int (iI k)), (2, .int (iI w9))] := hl
  have f_25 := hts (Cond.fieldLink RX5 25 "TwoKeys" "board" "LTwoKeys$Board;") (by decide +kernel)
  have f_77 := hts (Cond.fieldLink RX5 77 "TwoKeys$Board" "struck" "[I") (by decide +kernel)
  have f_81 := hts (Cond.fieldLink RX5 81 "TwoKeys$Board" "lengths" "[I") (by decide +kernel)
  have f_84 := hts (Cond.fieldLink RX5 84 "TwoKeys$Board" "bends" "[I") (by decide +kernel)
  have k_65 := hts (Cond.constant RX5 65 (-100002)) (by decide +kernel)
  have k_76 := hts (Cond.constant RX5 76 (-100001)) (by decide +kernel)
  have n_X0 : ∀ w ∈ u_ws RX0 TX0 5, w ∈ wsX5_about := by decide +kernel
  have n_X5 : ∀ w ∈ u_ws RX5 TX5 9, w ∈ wsX5_about := by decide +kernel
  have iK := I.nK
  refine lv_aload_n hx hb dX5_about_0 rfl (lv_at hl 0 rfl) ?_
  refine va_get (D := D) (ci := 5) (v := .ref (q 1)) (C := RX5) (T := TX5) (N := 9) hx hb hts n_X5 hown hK hP 0 rfl rfl 0 (by decide) f_25 (fun _ h9 => h9) rfl dX5_about_1 ?_
  refine lv_iload_n hx hb dX5_about_4 rfl (lv_at hl 1 rfl) ?_
  refine z_callVi (ci := 0) (q0 := 1) (As := [.int (iI k)]) (rest := []) X hK hP hD hA hS hl.1 gX5_about_X0_has rfl ⟨rfl, rfl⟩ hd_X0_has ⟨Nat.le_of_ble_eq_true rfl, Nat.le_of_ble_eq_true rfl⟩ rfl rfl rfl (Nat.le_of_ble_eq_true rfl) ⟨Nat.zero_le _, Nat.zero_le _⟩ rfl dX5_about_5 (c_X0_has I k (by omega)) (fun H locs hP hD hS => ?_)
  refine z_ifp_ne (tgt := 14) hx hb dX5_about_8 (by decide) (fun c_1 => ?_) (fun c_1 => ?_)
  · refine lv_iload_n hx hb dX5_about_14 rfl (lv_at hl 2 rfl) ?_
    by_cases c_2_0 : w9 = 0
    · refine z_tabIn (off := 37) (tgt := 52) (z := 0) hx hb dX5_about_15 c_2_0 (by decide) (by decide) (by decide) rfl (by decide) ?_
      refine lv_aload_n hx hb dX5_about_52 rfl (lv_at hl 0 rfl) ?_
      refine va_get (D := D) (ci := 5) (v := .ref (q 1)) (C := RX5) (T := TX5) (N := 9) hx hb hts n_X5 hown hK hP 0 rfl rfl 0 (by decide) f_25 (fun _ h9 => h9) rfl dX5_about_53 ?_
      refine va_get (D := D) (ci := 0) (v := .ref (q 2)) (C := RX0) (T := TX0) (N := 5) hx hb hts n_X0 hown hK hP 1 rfl rfl 1 (by decide) f_77 (fun _ h9 => h9) rfl dX5_about_56 ?_
      refine lv_iload_n hx hb dX5_about_59 rfl (lv_at hl 1 rfl) ?_
      refine z_iald hx hb hK hP 2 0 rfl rfl (by omega) dX5_about_60 ?_
      have b_3 := I.st k
      exact z_iret X hK hP hD hS dX5_about_61 (by (repeat' split) <;> first | rfl | omega)
    by_cases c_2_1 : w9 = 1
    · refine z_tabIn (off := 47) (tgt := 62) (z := 1) hx hb dX5_about_15 c_2_1 (by decide) (by decide) (by decide) rfl (by decide) ?_
      refine lv_aload_n hx hb dX5_about_62 rfl (lv_at hl 0 rfl) ?_
      refine va_get (D := D) (ci := 5) (v := .ref (q 1)) (C := RX5) (T := TX5) (N := 9) hx hb hts n_X5 hown hK hP 0 rfl rfl 0 (by decide) f_25 (fun _ h9 => h9) rfl dX5_about_63 ?_
      refine va_get (D := D) (ci := 0) (v := .ref (q 3)) (C := RX0) (T := TX0) (N := 5) hx hb hts n_X0 hown hK hP 1 rfl rfl 2 (by decide) f_81 (fun _ h9 => h9) rfl dX5_about_66 ?_
      refine lv_iload_n hx hb dX5_about_69 rfl (lv_at hl 1 rfl) ?_
      refine z_iald hx hb hK hP 3 0 rfl rfl (by omega) dX5_about_70 ?_
      have b_4 := I.le k
      exact z_iret X hK hP hD hS dX5_about_71 (by (repeat' split) <;> first | rfl | omega)
    by_cases c_2_2 : w9 = 2
    · refine z_tabIn (off := 57) (tgt := 72) (z := 2) hx hb dX5_about_15 c_2_2 (by decide) (by decide) (by decide) rfl (by decide) ?_
      refine lv_aload_n hx hb dX5_about_72 rfl (lv_at hl 0 rfl) ?_
      refine va_get (D := D) (ci := 5) (v := .ref (q 1)) (C := RX5) (T := TX5) (N := 9) hx hb hts n_X5 hown hK hP 0 rfl rfl 0 (by decide) f_25 (fun _ h9 => h9) rfl dX5_about_73 ?_
      refine va_get (D := D) (ci := 0) (v := .ref (q 4)) (C := RX0) (T := TX0) (N := 5) hx hb hts n_X0 hown hK hP 1 rfl rfl 3 (by decide) f_84 (fun _ h9 => h9) rfl dX5_about_76 ?_
      refine lv_iload_n hx hb dX5_about_79 rfl (lv_at hl 1 rfl) ?_
      refine z_iald hx hb hK hP 4 0 rfl rfl (by omega) dX5_about_80 ?_
      have b_5 := I.be k
      exact z_iret X hK hP hD hS dX5_about_81 (by (repeat' split) <;> first | rfl | omega)
    by_cases c_2_3 : w9 = 3
    · refine z_tabIn (off := 67) (tgt := 82) (z := 3) hx hb dX5_about_15 c_2_3 (by decide) (by decide) (by decide) rfl (by decide) ?_
      refine lv_aload_n hx hb dX5_about_82 rfl (lv_at hl 0 rfl) ?_
      refine va_get (D := D) (ci := 5) (v := .ref (q 1)) (C := RX5) (T := TX5) (N := 9) hx hb hts n_X5 hown hK hP 0 rfl rfl 0 (by decide) f_25 (fun _ h9 => h9) rfl dX5_about_83 ?_
      refine lv_iload_n hx hb dX5_about_86 rfl (lv_at hl 1 rfl) ?_
      refine z_callVi (ci := 0) (q0 := 1) (As := [.int (iI k)]) (rest := []) X hK hP hD hA hS hl.1 gX5_about_X0_toneOf rfl ⟨rfl, rfl⟩ hd_X0_toneOf ⟨Nat.le_of_ble_eq_true rfl, Nat.le_of_ble_eq_true rfl⟩ rfl rfl rfl (Nat.le_of_ble_eq_true rfl) ⟨Nat.zero_le _, Nat.zero_le _⟩ rfl dX5_about_87 (c_X0_toneOf I k (by omega)) (fun H locs hP hD hS => ?_)
      exact z_iret X hK hP hD hS dX5_about_90 (by (repeat' split) <;> first | rfl | omega)
    by_cases c_2_4 : w9 = 4
    · refine z_tabIn (off := 76) (tgt := 91) (z := 4) hx hb dX5_about_15 c_2_4 (by decide) (by decide) (by decide) rfl (by decide) ?_
      refine lv_aload_n hx hb dX5_about_91 rfl (lv_at hl 0 rfl) ?_
      refine lv_iload_n hx hb dX5_about_92 rfl (lv_at hl 1 rfl) ?_
      refine z_callVi (ci := 5) (q0 := 0) (As := [.int (iI k)]) (rest := []) X hK hP hD hA hS hl.1 gX5_about_X5_goalOf rfl ⟨rfl, rfl⟩ hd_X5_goalOf ⟨Nat.le_of_ble_eq_true rfl, Nat.le_of_ble_eq_true rfl⟩ rfl rfl rfl (Nat.le_of_ble_eq_true rfl) ⟨Nat.zero_le _, Nat.zero_le _⟩ rfl dX5_about_93 (c_X5_goalOf I k (by omega)) (fun H locs hP hD hS => ?_)
      exact z_iret X hK hP hD hS dX5_about_96 (by (repeat' split) <;> first | rfl | omega)
    by_cases c_2_5 : w9 = 5
    · refine z_tabIn (off := 82) (tgt := 97) (z := 5) hx hb dX5_about_15 c_2_5 (by decide) (by decide) (by decide) rfl (by decide) ?_
      refine lv_aload_n hx hb dX5_about_97 rfl (lv_at hl 0 rfl) ?_
      refine lv_iload_n hx hb dX5_about_98 rfl (lv_at hl 1 rfl) ?_
      refine z_callVi (ci := 5) (q0 := 0) (As := [.int (iI k)]) (rest := []) X hK hP hD hA hS hl.1 gX5_about_X5_errorOf rfl ⟨rfl, rfl⟩ hd_X5_errorOf ⟨Nat.le_of_ble_eq_true rfl, Nat.le_of_ble_eq_true rfl⟩ rfl rfl rfl (Nat.le_of_ble_eq_true rfl) ⟨Nat.zero_le _, Nat.zero_le _⟩ rfl dX5_about_99 (c_X5_errorOf I k (by omega)) (fun H locs hP hD hS => ?_)
      exact z_iret X hK hP hD hS dX5_about_102 (by (repeat' split) <;> first | rfl | omega)
    refine z_tabOut (tgt := 103) hx hb dX5_about_15 (by omega) (by omega) (by decide) ?_
    refine z_ldc (n := -100002) hx hb hown k_65 (by decide) dX5_about_103 ?_
    exact z_iret X hK hP hD hS dX5_about_105 (by (repeat' split) <;> first | rfl | omega)
  · refine z_ldc (n := -100001) hx hb hown k_76 (by decide) dX5_about_11 ?_
    exact z_iret X hK hP hD hS dX5_about_13 (by (repeat' split) <;> first | rfl | omega)

theorem hd_X5_pressed : yX5_pressed.cls = RX5 ∧ yX5_pressed.cls ≠ "java/lang/invoke/MethodHandle" ∧ yX5_pressed.cls ≠ "java/lang/invoke/VarHandle" ∧ (parseMethodDescriptor yX5_pressed.desc).map (fun d => d.parameters.length) = some 2 := by decide +kernel
set_option maxHeartbeats 4000000 in
set_option maxRecDepth 100000 in
theorem c_X5_pressed (I : okS nK st le be te ab bl ka bg ln ns me sc pi re bk) (k : Int) (p9 : Int) (h : -2147483648 ≤ k ∧ k ≤ 2147483647 ∧ -2147483648 ≤ p9 ∧ p9 ≤ 2147483647) : MI l D cy yX5_pressed wsX5_pressed ({ frames := 2, cells := 0, slots := 0, locals := 44 } : Room) [.ref (q 0), .int (iI k), .int (iI p9)] (wT q cy nK st le be te ab bl ka bg ln ns me sc pi re bk pa lz go ss sm pf mf) (if 0 ≤ k ∧ k < nK then (if 0 ≤ p9 ∧ p9 ≤ 20 then te (st k) * 10000 / (le k + be k) + te (st k) * 10000 / (le k + be k) * p9 / 1000 else (-100002)) else (-100001)) (wT q cy nK st le be te ab bl ka bg ln ns me sc pi re bk pa lz go ss sm pf mf) := by
  refine MI.ofW (cc := cX5_pressed) (maxL := 4) (ret := (some .int)) (by decide) rfl (Nat.le_of_ble_eq_true rfl) ?_
  intro p e s m below meth c A ls X hK hP hD hA hS hl
  obtain ⟨hx, hb, hml, hr, hts, hown, hlocks⟩ := id X
  have hl : lv_has ls 4 [(0, .ref (q 0)), (1, .int (iI k)), (2, .int (iI p9))] := hl
  have f_25 := hts (Cond.fieldLink RX5 25 "TwoKeys" "board" "LTwoKeys$Board;") (by decide +kernel)
  have k_65 := hts (Cond.constant RX5 65 (-100002)) (by decide +kernel)
  have k_76 := hts (Cond.constant RX5 76 (-100001)) (by decide +kernel)
  have n_X5 : ∀ w ∈ u_ws RX5 TX5 9, w ∈ wsX5_pressed := by decide +kernel
  have iK := I.nK
  refine lv_aload_n hx hb dX5_pressed_0 rfl (lv_at hl 0 rfl) ?_
  refine va_get (D := D) (ci := 5) (v := .ref (q 1)) (C := RX5) (T := TX5) (N := 9) hx hb hts n_X5 hown hK hP 0 rfl rfl 0 (by decide) f_25 (fun _ h9 => h9) rfl dX5_pressed_1 ?_
  refine lv_iload_n hx hb dX5_pressed_4 rfl (lv_at hl 1 rfl) ?_
  refine z_callVi (ci := 0) (q0 := 1) (As := [.int (iI k)]) (rest := []) X hK hP hD hA hS hl.1 gX5_pressed_X0_has rfl ⟨rfl, rfl⟩ hd_X0_has ⟨Nat.le_of_ble_eq_true rfl, Nat.le_of_ble_eq_true rfl⟩ rfl rfl rfl (Nat.le_of_ble_eq_true rfl) ⟨Nat.zero_le _, Nat.zero_le _⟩ rfl dX5_pressed_5 (c_X0_has I k (by omega)) (fun H locs hP hD hS => ?_)
  refine z_ifp_ne (tgt := 14) hx hb dX5_pressed_8 (by decide) (fun c_1 => ?_) (fun c_1 => ?_)
  · refine lv_iload_n hx hb dX5_pressed_14 rfl (lv_at hl 2 rfl) ?_
    refine lv_iconst (v := iI (0)) hx hb dX5_pressed_15 rfl ?_
    refine lv_bipush (v := iI (20)) hx hb dX5_pressed_16 (by decide) ?_
    refine z_callSi (As := [.int (iI p9), .int (iI 0), .int (iI 20)]) (rest := []) X hK hP hD hA hS hl.1 gX5_pressed_X5_within rfl ⟨rfl, rfl⟩ hd_X5_within ⟨Nat.le_of_ble_eq_true rfl, Nat.le_of_ble_eq_true rfl⟩ rfl (Nat.le_of_ble_eq_true rfl) ⟨Nat.zero_le _, Nat.zero_le _⟩ rfl dX5_pressed_18 (c_X5_within p9 0 20 (by omega)) (fun H locs hP hD hS => ?_)
    refine z_ifp_ne (tgt := 27) hx hb dX5_pressed_21 (by decide) (fun c_2 => ?_) (fun c_2 => ?_)
    · refine lv_aload_n hx hb dX5_pressed_27 rfl (lv_at hl 0 rfl) ?_
      refine va_get (D := D) (ci := 5) (v := .ref (q 1)) (C := RX5) (T := TX5) (N := 9) hx hb hts n_X5 hown hK hP 0 rfl rfl 0 (by decide) f_25 (fun _ h9 => h9) rfl dX5_pressed_28 ?_
      refine lv_iload_n hx hb dX5_pressed_31 rfl (lv_at hl 1 rfl) ?_
      refine z_callVi (ci := 0) (q0 := 1) (As := [.int (iI k)]) (rest := []) X hK hP hD hA hS hl.1 gX5_pressed_X0_toneOf rfl ⟨rfl, rfl⟩ hd_X0_toneOf ⟨Nat.le_of_ble_eq_true rfl, Nat.le_of_ble_eq_true rfl⟩ rfl rfl rfl (Nat.le_of_ble_eq_true rfl) ⟨Nat.zero_le _, Nat.zero_le _⟩ rfl dX5_pressed_32 (c_X0_toneOf I k (by omega)) (fun H locs hP hD hS => ?_)
      have b7 := tn_b (st := st) (k := k) (b := be k) I.le I.te (I.be k)
      have b6 := mul_b b7.1 b7.2 (show 0 ≤ p9 by omega) (show p9 ≤ 20 by omega)
      refine lv_istore_n (lv' := [(3, .int (iI (te (st k) * 10000 / (le k + be k)))), (0, .ref (q 0)), (1, .int (iI k)), (2, .int (iI p9))]) hx hb dX5_pressed_35 rfl hl (by decide) rfl (fun ls hl => ?_)
      refine lv_iload_n hx hb dX5_pressed_36 rfl (lv_at hl 0 rfl) ?_
      refine lv_iload_n hx hb dX5_pressed_37 rfl (lv_at hl 0 rfl) ?_
      refine lv_iload_n hx hb dX5_pressed_38 rfl (lv_at hl 3 rfl) ?_
      refine z_imul hx hb dX5_pressed_39 ?_
      refine lv_sipush (v := iI (1000)) hx hb dX5_pressed_40 (by decide) ?_
      refine z_idiv hx hb dX5_pressed_43 (by omega) ?_
      refine z_iadd hx hb dX5_pressed_44 ?_
      exact z_iret X hK hP hD hS dX5_pressed_45 (by (repeat' split) <;> first | rfl | omega)
    · refine z_ldc (n := -100002) hx hb hown k_65 (by decide) dX5_pressed_24 ?_
      exact z_iret X hK hP hD hS dX5_pressed_26 (by (repeat' split) <;> first | rfl | omega)
  · refine z_ldc (n := -100001) hx hb hown k_76 (by decide) dX5_pressed_11 ?_
    exact z_iret X hK hP hD hS dX5_pressed_13 (by (repeat' split) <;> first | rfl | omega)

theorem hd_X5_sharers : yX5_sharers.cls = RX5 ∧ yX5_sharers.cls ≠ "java/lang/invoke/MethodHandle" ∧ yX5_sharers.cls ≠ "java/lang/invoke/VarHandle" ∧ (parseMethodDescriptor yX5_sharers.desc).map (fun d => d.parameters.length) = some 1 := by decide +kernel
set_option maxHeartbeats 4000000 in
set_option maxRecDepth 100000 in
theorem c_X5_sharers (I : okS nK st le be te ab bl ka bg ln ns me sc pi re bk) (s9 : Int) (h : -2147483648 ≤ s9 ∧ s9 ≤ 2147483647) : MI l D cy yX5_sharers wsX5_sharers ({ frames := 2, cells := 0, slots := 0, locals := 42 } : Room) [.ref (q 0), .int (iI s9)] (wT q cy nK st le be te ab bl ka bg ln ns me sc pi re bk pa lz go ss sm pf mf) (if 0 ≤ s9 ∧ s9 ≤ 23 then sZ (fun k => if st k = s9 then 1 else 0) 0 nK else (-100001)) (wT q cy nK st le be te ab bl ka bg ln ns me sc pi re bk pa lz go ss sm pf mf) := by
  refine MI.ofW (cc := cX5_sharers) (maxL := 2) (ret := (some .int)) (by decide) rfl (Nat.le_of_ble_eq_true rfl) ?_
  intro p e s m below meth c A ls X hK hP hD hA hS hl
  obtain ⟨hx, hb, hml, hr, hts, hown, hlocks⟩ := id X
  have hl : lv_has ls 2 [(0, .ref (q 0)), (1, .int (iI s9))] := hl
  have f_25 := hts (Cond.fieldLink RX5 25 "TwoKeys" "board" "LTwoKeys$Board;") (by decide +kernel)
  have k_76 := hts (Cond.constant RX5 76 (-100001)) (by decide +kernel)
  have n_X5 : ∀ w ∈ u_ws RX5 TX5 9, w ∈ wsX5_sharers := by decide +kernel
  have iK := I.nK
  refine lv_iload_n hx hb dX5_sharers_0 rfl (lv_at hl 1 rfl) ?_
  refine z_callSi (As := [.int (iI s9)]) (rest := []) X hK hP hD hA hS hl.1 gX5_sharers_X5_isString rfl ⟨rfl, rfl⟩ hd_X5_isString ⟨Nat.le_of_ble_eq_true rfl, Nat.le_of_ble_eq_true rfl⟩ rfl (Nat.le_of_ble_eq_true rfl) ⟨Nat.zero_le _, Nat.zero_le _⟩ rfl dX5_sharers_1 (c_X5_isString s9 (by omega)) (fun H locs hP hD hS => ?_)
  refine z_ifp_ne (tgt := 10) hx hb dX5_sharers_4 (by decide) (fun c_1 => ?_) (fun c_1 => ?_)
  · refine lv_aload_n hx hb dX5_sharers_10 rfl (lv_at hl 0 rfl) ?_
    refine va_get (D := D) (ci := 5) (v := .ref (q 1)) (C := RX5) (T := TX5) (N := 9) hx hb hts n_X5 hown hK hP 0 rfl rfl 0 (by decide) f_25 (fun _ h9 => h9) rfl dX5_sharers_11 ?_
    refine lv_iload_n hx hb dX5_sharers_14 rfl (lv_at hl 1 rfl) ?_
    refine z_callVi (ci := 0) (q0 := 1) (As := [.int (iI s9)]) (rest := []) X hK hP hD hA hS hl.1 gX5_sharers_X0_strikersOf rfl ⟨rfl, rfl⟩ hd_X0_strikersOf ⟨Nat.le_of_ble_eq_true rfl, Nat.le_of_ble_eq_true rfl⟩ rfl rfl rfl (Nat.le_of_ble_eq_true rfl) ⟨Nat.zero_le _, Nat.zero_le _⟩ rfl dX5_sharers_15 (c_X0_strikersOf I s9 (by omega)) (fun H locs hP hD hS => ?_)
    exact z_iret X hK hP hD hS dX5_sharers_18 (by (repeat' split) <;> first | rfl | omega)
  · refine z_ldc (n := -100001) hx hb hown k_76 (by decide) dX5_sharers_7 ?_
    exact z_iret X hK hP hD hS dX5_sharers_9 (by (repeat' split) <;> first | rfl | omega)

theorem hd_X5_order : yX5_order.cls = RX5 ∧ yX5_order.cls ≠ "java/lang/invoke/MethodHandle" ∧ yX5_order.cls ≠ "java/lang/invoke/VarHandle" ∧ (parseMethodDescriptor yX5_order.desc).map (fun d => d.parameters.length) = some 0 := by decide +kernel
set_option maxHeartbeats 4000000 in
set_option maxRecDepth 100000 in
theorem c_X5_order (I : okS nK st le be te ab bl ka bg ln ns me sc pi re bk)   : MI l D cy yX5_order wsX5_order ({ frames := 3, cells := 0, slots := 0, locals := 65 } : Room) [.ref (q 0)] (wT q cy nK st le be te ab bl ka bg ln ns me sc pi re bk pa lz go ss sm pf mf) (bP (∀ a b, 0 ≤ a → a < b → b < nK → st a = st b → le b + be b < le a + be a)) (wT q cy nK st le be te ab bl ka bg ln ns me sc pi re bk pa lz go ss sm pf mf) := by
  refine MI.ofW (cc := cX5_order) (maxL := 1) (ret := (some .int)) (by decide) rfl (Nat.le_of_ble_eq_true rfl) ?_
  intro p e s m below meth c A ls X hK hP hD hA hS hl
  obtain ⟨hx, hb, hml, hr, hts, hown, hlocks⟩ := id X
  have hl : lv_has ls 1 [(0, .ref (q 0))] := hl
  have f_25 := hts (Cond.fieldLink RX5 25 "TwoKeys" "board" "LTwoKeys$Board;") (by decide +kernel)
  have n_X5 : ∀ w ∈ u_ws RX5 TX5 9, w ∈ wsX5_order := by decide +kernel
  have iK := I.nK
  refine lv_aload_n hx hb dX5_order_0 rfl (lv_at hl 0 rfl) ?_
  refine va_get (D := D) (ci := 5) (v := .ref (q 1)) (C := RX5) (T := TX5) (N := 9) hx hb hts n_X5 hown hK hP 0 rfl rfl 0 (by decide) f_25 (fun _ h9 => h9) rfl dX5_order_1 ?_
  refine z_callVi (ci := 0) (q0 := 1) (As := []) (rest := []) X hK hP hD hA hS hl.1 gX5_order_X0_isInOrder rfl ⟨rfl, rfl⟩ hd_X0_isInOrder ⟨Nat.le_of_ble_eq_true rfl, Nat.le_of_ble_eq_true rfl⟩ rfl rfl rfl (Nat.le_of_ble_eq_true rfl) ⟨Nat.zero_le _, Nat.zero_le _⟩ rfl dX5_order_4 (c_X0_isInOrder I) (fun H locs hP hD hS => ?_)
  refine z_callSi (As := [.int (iI (bP (∀ a b, 0 ≤ a → a < b → b < nK → st a = st b → le b + be b < le a + be a)))]) (rest := []) X hK hP hD hA hS hl.1 gX5_order_X5_asNumber rfl ⟨rfl, rfl⟩ hd_X5_asNumber ⟨Nat.le_of_ble_eq_true rfl, Nat.le_of_ble_eq_true rfl⟩ rfl (Nat.le_of_ble_eq_true rfl) ⟨Nat.zero_le _, Nat.zero_le _⟩ rfl dX5_order_7 (c_X5_asNumber (bP (∀ a b, 0 ≤ a → a < b → b < nK → st a = st b → le b + be b < le a + be a)) (bP_b _)) (fun H locs hP hD hS => ?_)
  exact z_iret X hK hP hD hS dX5_order_10 (by first | rfl | omega | grind)

theorem hd_X5_step : yX5_step.cls = RX5 ∧ yX5_step.cls ≠ "java/lang/invoke/MethodHandle" ∧ yX5_step.cls ≠ "java/lang/invoke/VarHandle" ∧ (parseMethodDescriptor yX5_step.desc).map (fun d => d.parameters.length) = some 4 := by decide +kernel
set_option maxHeartbeats 4000000 in
set_option maxRecDepth 100000 in
theorem c_X5_step_ok (I : okS nK st le be te ab bl ka bg ln ns me sc pi re bk) (s9 : Int) (t9 : Int) (a9 : Int) (b9 : Int) (h : -2147483648 ≤ s9 ∧ s9 ≤ 2147483647 ∧ -2147483648 ≤ t9 ∧ t9 ≤ 2147483647 ∧ -2147483648 ≤ a9 ∧ a9 ≤ 2147483647 ∧ -2147483648 ≤ b9 ∧ b9 ≤ 2147483647) (hok : ((0 ≤ s9 ∧ s9 ≤ 4) ∧ (0 ≤ t9 ∧ t9 ≤ 11)) ∧ (1 ≤ a9 ∧ a9 ≤ 999) ∧ (1 ≤ b9 ∧ b9 ≤ 999) ∧ a9 ≤ 4 * b9) : MI l D cy yX5_step wsX5_step ({ frames := 2, cells := 0, slots := 0, locals := 42 } : Room) [.ref (q 0), .int (iI s9), .int (iI t9), .int (iI a9), .int (iI b9)] (wT q cy nK st le be te ab bl ka bg ln ns me sc pi re bk pa lz go ss sm pf mf) 1 (wT q cy nK st le be te (uZ ab (s9 * 12 + t9) a9) (uZ bl (s9 * 12 + t9) b9) ka bg ln ns me sc pi re bk pa lz go ss sm pf mf) := by
  refine MI.ofW (cc := cX5_step) (maxL := 5) (ret := (some .int)) (by decide) rfl (Nat.le_of_ble_eq_true rfl) ?_
  intro p e s m below meth c A ls X hK hP hD hA hS hl
  obtain ⟨hx, hb, hml, hr, hts, hown, hlocks⟩ := id X
  have hl : lv_has ls 5 [(0, .ref (q 0)), (1, .int (iI s9)), (2, .int (iI t9)), (3, .int (iI a9)), (4, .int (iI b9))] := hl
  have f_32 := hts (Cond.fieldLink RX5 32 "TwoKeys" "scales" "LTwoKeys$Scales;") (by decide +kernel)
  have n_X5 : ∀ w ∈ u_ws RX5 TX5 9, w ∈ wsX5_step := by decide +kernel
  have iK := I.nK
  refine lv_iload_n hx hb dX5_step_0 rfl (lv_at hl 1 rfl) ?_
  refine z_callSi (As := [.int (iI s9)]) (rest := []) X hK hP hD hA hS hl.1 gX5_step_X5_isScale rfl ⟨rfl, rfl⟩ hd_X5_isScale ⟨Nat.le_of_ble_eq_true rfl, Nat.le_of_ble_eq_true rfl⟩ rfl (Nat.le_of_ble_eq_true rfl) ⟨Nat.zero_le _, Nat.zero_le _⟩ rfl dX5_step_1 (c_X5_isScale s9 (by omega)) (fun H locs hP hD hS => ?_)
  refine z_ifp_eq (tgt := 14) hx hb dX5_step_4 (by decide) (fun c_1 => ?_) (fun c_1 => ?_)
  · exact absurd c_1 (by omega)
  · refine lv_iload_n hx hb dX5_step_7 rfl (lv_at hl 2 rfl) ?_
    refine z_callSi (As := [.int (iI t9)]) (rest := []) X hK hP hD hA hS hl.1 gX5_step_X5_isStep rfl ⟨rfl, rfl⟩ hd_X5_isStep ⟨Nat.le_of_ble_eq_true rfl, Nat.le_of_ble_eq_true rfl⟩ rfl (Nat.le_of_ble_eq_true rfl) ⟨Nat.zero_le _, Nat.zero_le _⟩ rfl dX5_step_8 (c_X5_isStep t9 (by omega)) (fun H locs hP hD hS => ?_)
    refine z_ifp_ne (tgt := 17) hx hb dX5_step_11 (by decide) (fun c_2 => ?_) (fun c_2 => ?_)
    · refine lv_iload_n hx hb dX5_step_17 rfl (lv_at hl 3 rfl) ?_
      refine lv_iconst (v := iI (1)) hx hb dX5_step_18 rfl ?_
      refine lv_sipush (v := iI (999)) hx hb dX5_step_19 (by decide) ?_
      refine z_callSi (As := [.int (iI a9), .int (iI 1), .int (iI 999)]) (rest := []) X hK hP hD hA hS hl.1 gX5_step_X5_within rfl ⟨rfl, rfl⟩ hd_X5_within ⟨Nat.le_of_ble_eq_true rfl, Nat.le_of_ble_eq_true rfl⟩ rfl (Nat.le_of_ble_eq_true rfl) ⟨Nat.zero_le _, Nat.zero_le _⟩ rfl dX5_step_22 (c_X5_within a9 1 999 (by omega)) (fun H locs hP hD hS => ?_)
      refine z_ifp_eq (tgt := 40) hx hb dX5_step_25 (by decide) (fun c_3 => ?_) (fun c_3 => ?_)
      · exact absurd c_3 (by omega)
      · refine lv_iload hx hb dX5_step_28 (lv_at hl 4 rfl) ?_
        refine lv_iconst (v := iI (1)) hx hb dX5_step_30 rfl ?_
        refine lv_sipush (v := iI (999)) hx hb dX5_step_31 (by decide) ?_
        refine z_callSi (As := [.int (iI b9), .int (iI 1), .int (iI 999)]) (rest := []) X hK hP hD hA hS hl.1 gX5_step_X5_within rfl ⟨rfl, rfl⟩ hd_X5_within ⟨Nat.le_of_ble_eq_true rfl, Nat.le_of_ble_eq_true rfl⟩ rfl (Nat.le_of_ble_eq_true rfl) ⟨Nat.zero_le _, Nat.zero_le _⟩ rfl dX5_step_34 (c_X5_within b9 1 999 (by omega)) (fun H locs hP hD hS => ?_)
        refine z_ifp_ne (tgt := 43) hx hb dX5_step_37 (by decide) (fun c_4 => ?_) (fun c_4 => ?_)
        · refine lv_iload_n hx hb dX5_step_43 rfl (lv_at hl 3 rfl) ?_
          refine lv_iconst (v := iI (4)) hx hb dX5_step_44 rfl ?_
          refine lv_iload hx hb dX5_step_45 (lv_at hl 4 rfl) ?_
          refine z_imul hx hb dX5_step_47 ?_
          refine z_icmp_le (tgt := 54) hx hb dX5_step_48 (by decide) (by omega) (fun c_5 => ?_) (fun c_5 => ?_)
          · refine lv_aload_n hx hb dX5_step_54 rfl (lv_at hl 0 rfl) ?_
            refine va_get (D := D) (ci := 5) (v := .ref (q 6)) (C := RX5) (T := TX5) (N := 9) hx hb hts n_X5 hown hK hP 0 rfl rfl 1 (by decide) f_32 (fun _ h9 => h9) rfl dX5_step_55 ?_
            refine lv_iload_n hx hb dX5_step_58 rfl (lv_at hl 1 rfl) ?_
            refine lv_iload_n hx hb dX5_step_59 rfl (lv_at hl 2 rfl) ?_
            refine lv_iload_n hx hb dX5_step_60 rfl (lv_at hl 3 rfl) ?_
            refine lv_iload hx hb dX5_step_61 (lv_at hl 4 rfl) ?_
            refine z_callVv (ci := 3) (q0 := 6) (As := [.int (iI s9), .int (iI t9), .int (iI a9), .int (iI b9)]) (rest := []) X hK hP hD hA hS hl.1 gX5_step_X3_put rfl ⟨rfl, rfl⟩ hd_X3_put ⟨Nat.le_of_ble_eq_true rfl, Nat.le_of_ble_eq_true rfl⟩ rfl rfl rfl (Nat.le_of_ble_eq_true rfl) ⟨Nat.zero_le _, Nat.zero_le _⟩ rfl dX5_step_63 (c_X3_put s9 t9 a9 b9 (by omega) (by omega)) (fun H locs hP hD hS => ?_)
            refine lv_iconst (v := iI (1)) hx hb dX5_step_66 rfl ?_
            exact z_iret X hK hP hD hS dX5_step_67 (by first | rfl | omega | grind)
          · exact absurd c_5 (by omega)
        · exact absurd c_4 (by omega)
    · exact absurd c_2 (by omega)

set_option maxHeartbeats 4000000 in
set_option maxRecDepth 100000 in
theorem c_X5_step_no (I : okS nK st le be te ab bl ka bg ln ns me sc pi re bk) (s9 : Int) (t9 : Int) (a9 : Int) (b9 : Int) (h : -2147483648 ≤ s9 ∧ s9 ≤ 2147483647 ∧ -2147483648 ≤ t9 ∧ t9 ≤ 2147483647 ∧ -2147483648 ≤ a9 ∧ a9 ≤ 2147483647 ∧ -2147483648 ≤ b9 ∧ b9 ≤ 2147483647) (hno : ¬ (((0 ≤ s9 ∧ s9 ≤ 4) ∧ (0 ≤ t9 ∧ t9 ≤ 11)) ∧ (1 ≤ a9 ∧ a9 ≤ 999) ∧ (1 ≤ b9 ∧ b9 ≤ 999) ∧ a9 ≤ 4 * b9)) : MI l D cy yX5_step wsX5_step ({ frames := 2, cells := 0, slots := 0, locals := 42 } : Room) [.ref (q 0), .int (iI s9), .int (iI t9), .int (iI a9), .int (iI b9)] (wT q cy nK st le be te ab bl ka bg ln ns me sc pi re bk pa lz go ss sm pf mf) (if (0 ≤ s9 ∧ s9 ≤ 4) ∧ (0 ≤ t9 ∧ t9 ≤ 11) then (-100002) else (-100001)) (wT q cy nK st le be te ab bl ka bg ln ns me sc pi re bk pa lz go ss sm pf mf) := by
  refine MI.ofW (cc := cX5_step) (maxL := 5) (ret := (some .int)) (by decide) rfl (Nat.le_of_ble_eq_true rfl) ?_
  intro p e s m below meth c A ls X hK hP hD hA hS hl
  obtain ⟨hx, hb, hml, hr, hts, hown, hlocks⟩ := id X
  have hl : lv_has ls 5 [(0, .ref (q 0)), (1, .int (iI s9)), (2, .int (iI t9)), (3, .int (iI a9)), (4, .int (iI b9))] := hl
  have k_76 := hts (Cond.constant RX5 76 (-100001)) (by decide +kernel)
  have k_65 := hts (Cond.constant RX5 65 (-100002)) (by decide +kernel)
  have iK := I.nK
  refine lv_iload_n hx hb dX5_step_0 rfl (lv_at hl 1 rfl) ?_
  refine z_callSi (As := [.int (iI s9)]) (rest := []) X hK hP hD hA hS hl.1 gX5_step_X5_isScale rfl ⟨rfl, rfl⟩ hd_X5_isScale ⟨Nat.le_of_ble_eq_true rfl, Nat.le_of_ble_eq_true rfl⟩ rfl (Nat.le_of_ble_eq_true rfl) ⟨Nat.zero_le _, Nat.zero_le _⟩ rfl dX5_step_1 (c_X5_isScale s9 (by omega)) (fun H locs hP hD hS => ?_)
  refine z_ifp_eq (tgt := 14) hx hb dX5_step_4 (by decide) (fun c_1 => ?_) (fun c_1 => ?_)
  · refine z_ldc (n := -100001) hx hb hown k_76 (by decide) dX5_step_14 ?_
    exact z_iret X hK hP hD hS dX5_step_16 (by (repeat' split) <;> first | rfl | omega)
  · refine lv_iload_n hx hb dX5_step_7 rfl (lv_at hl 2 rfl) ?_
    refine z_callSi (As := [.int (iI t9)]) (rest := []) X hK hP hD hA hS hl.1 gX5_step_X5_isStep rfl ⟨rfl, rfl⟩ hd_X5_isStep ⟨Nat.le_of_ble_eq_true rfl, Nat.le_of_ble_eq_true rfl⟩ rfl (Nat.le_of_ble_eq_true rfl) ⟨Nat.zero_le _, Nat.zero_le _⟩ rfl dX5_step_8 (c_X5_isStep t9 (by omega)) (fun H locs hP hD hS => ?_)
    refine z_ifp_ne (tgt := 17) hx hb dX5_step_11 (by decide) (fun c_2 => ?_) (fun c_2 => ?_)
    · refine lv_iload_n hx hb dX5_step_17 rfl (lv_at hl 3 rfl) ?_
      refine lv_iconst (v := iI (1)) hx hb dX5_step_18 rfl ?_
      refine lv_sipush (v := iI (999)) hx hb dX5_step_19 (by decide) ?_
      refine z_callSi (As := [.int (iI a9), .int (iI 1), .int (iI 999)]) (rest := []) X hK hP hD hA hS hl.1 gX5_step_X5_within rfl ⟨rfl, rfl⟩ hd_X5_within ⟨Nat.le_of_ble_eq_true rfl, Nat.le_of_ble_eq_true rfl⟩ rfl (Nat.le_of_ble_eq_true rfl) ⟨Nat.zero_le _, Nat.zero_le _⟩ rfl dX5_step_22 (c_X5_within a9 1 999 (by omega)) (fun H locs hP hD hS => ?_)
      refine z_ifp_eq (tgt := 40) hx hb dX5_step_25 (by decide) (fun c_3 => ?_) (fun c_3 => ?_)
      · refine z_ldc (n := -100002) hx hb hown k_65 (by decide) dX5_step_40 ?_
        exact z_iret X hK hP hD hS dX5_step_42 (by (repeat' split) <;> first | rfl | omega)
      · refine lv_iload hx hb dX5_step_28 (lv_at hl 4 rfl) ?_
        refine lv_iconst (v := iI (1)) hx hb dX5_step_30 rfl ?_
        refine lv_sipush (v := iI (999)) hx hb dX5_step_31 (by decide) ?_
        refine z_callSi (As := [.int (iI b9), .int (iI 1), .int (iI 999)]) (rest := []) X hK hP hD hA hS hl.1 gX5_step_X5_within rfl ⟨rfl, rfl⟩ hd_X5_within ⟨Nat.le_of_ble_eq_true rfl, Nat.le_of_ble_eq_true rfl⟩ rfl (Nat.le_of_ble_eq_true rfl) ⟨Nat.zero_le _, Nat.zero_le _⟩ rfl dX5_step_34 (c_X5_within b9 1 999 (by omega)) (fun H locs hP hD hS => ?_)
        refine z_ifp_ne (tgt := 43) hx hb dX5_step_37 (by decide) (fun c_4 => ?_) (fun c_4 => ?_)
        · refine lv_iload_n hx hb dX5_step_43 rfl (lv_at hl 3 rfl) ?_
          refine lv_iconst (v := iI (4)) hx hb dX5_step_44 rfl ?_
          refine lv_iload hx hb dX5_step_45 (lv_at hl 4 rfl) ?_
          refine z_imul hx hb dX5_step_47 ?_
          refine z_icmp_le (tgt := 54) hx hb dX5_step_48 (by decide) (by omega) (fun c_5 => ?_) (fun c_5 => ?_)
          · exact absurd c_5 (by omega)
          · refine z_ldc (n := -100002) hx hb hown k_65 (by decide) dX5_step_51 ?_
            exact z_iret X hK hP hD hS dX5_step_53 (by (repeat' split) <;> first | rfl | omega)
        · refine z_ldc (n := -100002) hx hb hown k_65 (by decide) dX5_step_40 ?_
          exact z_iret X hK hP hD hS dX5_step_42 (by (repeat' split) <;> first | rfl | omega)
    · refine z_ldc (n := -100001) hx hb hown k_76 (by decide) dX5_step_14 ?_
      exact z_iret X hK hP hD hS dX5_step_16 (by (repeat' split) <;> first | rfl | omega)

theorem hd_X5_share : yX5_share.cls = RX5 ∧ yX5_share.cls ≠ "java/lang/invoke/MethodHandle" ∧ yX5_share.cls ≠ "java/lang/invoke/VarHandle" ∧ (parseMethodDescriptor yX5_share.desc).map (fun d => d.parameters.length) = some 3 := by decide +kernel
set_option maxHeartbeats 4000000 in
set_option maxRecDepth 100000 in
theorem c_X5_share (I : okS nK st le be te ab bl ka bg ln ns me sc pi re bk) (s9 : Int) (t9 : Int) (up : Bool) (h : -2147483648 ≤ s9 ∧ s9 ≤ 2147483647 ∧ -2147483648 ≤ t9 ∧ t9 ≤ 2147483647) : MI l D cy yX5_share wsX5_share ({ frames := 2, cells := 0, slots := 0, locals := 42 } : Room) [.ref (q 0), .int (iI s9), .int (iI t9), .int (iI (bZ up))] (wT q cy nK st le be te ab bl ka bg ln ns me sc pi re bk pa lz go ss sm pf mf) (if (0 ≤ s9 ∧ s9 ≤ 4) ∧ (0 ≤ t9 ∧ t9 ≤ 11) then (if up = true then ab (s9 * 12 + t9) else bl (s9 * 12 + t9)) else (-100001)) (wT q cy nK st le be te ab bl ka bg ln ns me sc pi re bk pa lz go ss sm pf mf) := by
  refine MI.ofW (cc := cX5_share) (maxL := 4) (ret := (some .int)) (by decide) rfl (Nat.le_of_ble_eq_true rfl) ?_
  intro p e s m below meth c A ls X hK hP hD hA hS hl
  obtain ⟨hx, hb, hml, hr, hts, hown, hlocks⟩ := id X
  have hl : lv_has ls 4 [(0, .ref (q 0)), (1, .int (iI s9)), (2, .int (iI t9)), (3, .int (iI (bZ up)))] := hl
  have k_76 := hts (Cond.constant RX5 76 (-100001)) (by decide +kernel)
  have f_32 := hts (Cond.fieldLink RX5 32 "TwoKeys" "scales" "LTwoKeys$Scales;") (by decide +kernel)
  have n_X5 : ∀ w ∈ u_ws RX5 TX5 9, w ∈ wsX5_share := by decide +kernel
  have iK := I.nK
  refine lv_iload_n hx hb dX5_share_0 rfl (lv_at hl 1 rfl) ?_
  refine z_callSi (As := [.int (iI s9)]) (rest := []) X hK hP hD hA hS hl.1 gX5_share_X5_isScale rfl ⟨rfl, rfl⟩ hd_X5_isScale ⟨Nat.le_of_ble_eq_true rfl, Nat.le_of_ble_eq_true rfl⟩ rfl (Nat.le_of_ble_eq_true rfl) ⟨Nat.zero_le _, Nat.zero_le _⟩ rfl dX5_share_1 (c_X5_isScale s9 (by omega)) (fun H locs hP hD hS => ?_)
  refine z_ifp_eq (tgt := 14) hx hb dX5_share_4 (by decide) (fun c_1 => ?_) (fun c_1 => ?_)
  · refine z_ldc (n := -100001) hx hb hown k_76 (by decide) dX5_share_14 ?_
    exact z_iret X hK hP hD hS dX5_share_16 (by (repeat' split) <;> first | rfl | omega)
  · refine lv_iload_n hx hb dX5_share_7 rfl (lv_at hl 2 rfl) ?_
    refine z_callSi (As := [.int (iI t9)]) (rest := []) X hK hP hD hA hS hl.1 gX5_share_X5_isStep rfl ⟨rfl, rfl⟩ hd_X5_isStep ⟨Nat.le_of_ble_eq_true rfl, Nat.le_of_ble_eq_true rfl⟩ rfl (Nat.le_of_ble_eq_true rfl) ⟨Nat.zero_le _, Nat.zero_le _⟩ rfl dX5_share_8 (c_X5_isStep t9 (by omega)) (fun H locs hP hD hS => ?_)
    refine z_ifp_ne (tgt := 17) hx hb dX5_share_11 (by decide) (fun c_2 => ?_) (fun c_2 => ?_)
    · refine lv_aload_n hx hb dX5_share_17 rfl (lv_at hl 0 rfl) ?_
      refine va_get (D := D) (ci := 5) (v := .ref (q 6)) (C := RX5) (T := TX5) (N := 9) hx hb hts n_X5 hown hK hP 0 rfl rfl 1 (by decide) f_32 (fun _ h9 => h9) rfl dX5_share_18 ?_
      refine lv_iload_n hx hb dX5_share_21 rfl (lv_at hl 1 rfl) ?_
      refine lv_iload_n hx hb dX5_share_22 rfl (lv_at hl 2 rfl) ?_
      refine lv_iload_n hx hb dX5_share_23 rfl (lv_at hl 3 rfl) ?_
      refine z_callVi (ci := 3) (q0 := 6) (As := [.int (iI s9), .int (iI t9), .int (iI (bZ up))]) (rest := []) X hK hP hD hA hS hl.1 gX5_share_X3_partOf rfl ⟨rfl, rfl⟩ hd_X3_partOf ⟨Nat.le_of_ble_eq_true rfl, Nat.le_of_ble_eq_true rfl⟩ rfl rfl rfl (Nat.le_of_ble_eq_true rfl) ⟨Nat.zero_le _, Nat.zero_le _⟩ rfl dX5_share_24 (c_X3_partOf I s9 t9 up (by omega) (by omega)) (fun H locs hP hD hS => ?_)
      exact z_iret X hK hP hD hS dX5_share_27 ((if_pos (by omega)).symm)
    · refine z_ldc (n := -100001) hx hb hown k_76 (by decide) dX5_share_14 ?_
      exact z_iret X hK hP hD hS dX5_share_16 (by (repeat' split) <;> first | rfl | omega)

theorem hd_X5_use : yX5_use.cls = RX5 ∧ yX5_use.cls ≠ "java/lang/invoke/MethodHandle" ∧ yX5_use.cls ≠ "java/lang/invoke/VarHandle" ∧ (parseMethodDescriptor yX5_use.desc).map (fun d => d.parameters.length) = some 1 := by decide +kernel
set_option maxHeartbeats 4000000 in
set_option maxRecDepth 100000 in
theorem c_X5_use_ok (I : okS nK st le be te ab bl ka bg ln ns me sc pi re bk) (s9 : Int) (h : -2147483648 ≤ s9 ∧ s9 ≤ 2147483647) (hok : 0 ≤ s9 ∧ s9 ≤ 4) : MI l D cy yX5_use wsX5_use ({ frames := 2, cells := 0, slots := 0, locals := 42 } : Room) [.ref (q 0), .int (iI s9)] (wT q cy nK st le be te ab bl ka bg ln ns me sc pi re bk pa lz go ss sm pf mf) sc (wT q cy nK st le be te ab bl ka bg ln ns me s9 pi re bk pa lz go ss sm pf mf) := by
  refine MI.ofW (cc := cX5_use) (maxL := 3) (ret := (some .int)) (by decide) rfl (Nat.le_of_ble_eq_true rfl) ?_
  intro p e s m below meth c A ls X hK hP hD hA hS hl
  obtain ⟨hx, hb, hml, hr, hts, hown, hlocks⟩ := id X
  have hl : lv_has ls 3 [(0, .ref (q 0)), (1, .int (iI s9))] := hl
  have f_7 := hts (Cond.fieldLink RX5 7 "TwoKeys" "scaleInUse" "I") (by decide +kernel)
  have n_X5 : ∀ w ∈ u_ws RX5 TX5 9, w ∈ wsX5_use := by decide +kernel
  have iK := I.nK
  refine lv_iload_n hx hb dX5_use_0 rfl (lv_at hl 1 rfl) ?_
  refine z_callSi (As := [.int (iI s9)]) (rest := []) X hK hP hD hA hS hl.1 gX5_use_X5_isScale rfl ⟨rfl, rfl⟩ hd_X5_isScale ⟨Nat.le_of_ble_eq_true rfl, Nat.le_of_ble_eq_true rfl⟩ rfl (Nat.le_of_ble_eq_true rfl) ⟨Nat.zero_le _, Nat.zero_le _⟩ rfl dX5_use_1 (c_X5_isScale s9 (by omega)) (fun H locs hP hD hS => ?_)
  refine z_ifp_ne (tgt := 10) hx hb dX5_use_4 (by decide) (fun c_1 => ?_) (fun c_1 => ?_)
  · refine lv_aload_n hx hb dX5_use_10 rfl (lv_at hl 0 rfl) ?_
    refine va_get (D := D) (ci := 5) (v := .int (iI sc)) (C := RX5) (T := TX5) (N := 9) hx hb hts n_X5 hown hK hP 0 rfl rfl 5 (by decide) f_7 (fun _ h9 => h9) rfl dX5_use_11 ?_
    refine lv_istore_n (lv' := [(2, .int (iI sc)), (0, .ref (q 0)), (1, .int (iI s9))]) hx hb dX5_use_14 rfl hl (by decide) rfl (fun ls hl => ?_)
    refine lv_aload_n hx hb dX5_use_15 rfl (lv_at hl 1 rfl) ?_
    refine lv_iload_n hx hb dX5_use_16 rfl (lv_at hl 2 rfl) ?_
    refine va_put (D := D) (ci := 5) (v := .int (iI s9)) (ty := .int) (C := RX5) (T := TX5) (N := 9) hx hb hts n_X5 tyX5 tyX5_ok nmX5 hown hK hP hD hS 0 rfl rfl 5 (by decide) f_7 (fun _ h9 => h9) rfl (by decide +kernel) rfl rfl (Nat.le_of_ble_eq_true rfl) dX5_use_17 (fun H locs hP hD hS => ?_)
    have hP : va_P D vwCl (wT q cy nK st le be te ab bl ka bg ln ns me s9 pi re bk pa lz go ss sm pf mf) H := hP
    have hD : va_D A (wT q cy nK st le be te ab bl ka bg ln ns me s9 pi re bk pa lz go ss sm pf mf) := hD
    refine lv_iload_n hx hb dX5_use_20 rfl (lv_at hl 0 rfl) ?_
    exact z_iret X hK hP hD hS dX5_use_21 (by first | rfl | omega | grind)
  · exact absurd c_1 (by omega)

set_option maxHeartbeats 4000000 in
set_option maxRecDepth 100000 in
theorem c_X5_use_no (I : okS nK st le be te ab bl ka bg ln ns me sc pi re bk) (s9 : Int) (h : -2147483648 ≤ s9 ∧ s9 ≤ 2147483647) (hno : ¬ (0 ≤ s9 ∧ s9 ≤ 4)) : MI l D cy yX5_use wsX5_use ({ frames := 2, cells := 0, slots := 0, locals := 42 } : Room) [.ref (q 0), .int (iI s9)] (wT q cy nK st le be te ab bl ka bg ln ns me sc pi re bk pa lz go ss sm pf mf) (-100001) (wT q cy nK st le be te ab bl ka bg ln ns me sc pi re bk pa lz go ss sm pf mf) := by
  refine MI.ofW (cc := cX5_use) (maxL := 3) (ret := (some .int)) (by decide) rfl (Nat.le_of_ble_eq_true rfl) ?_
  intro p e s m below meth c A ls X hK hP hD hA hS hl
  obtain ⟨hx, hb, hml, hr, hts, hown, hlocks⟩ := id X
  have hl : lv_has ls 3 [(0, .ref (q 0)), (1, .int (iI s9))] := hl
  have k_76 := hts (Cond.constant RX5 76 (-100001)) (by decide +kernel)
  have iK := I.nK
  refine lv_iload_n hx hb dX5_use_0 rfl (lv_at hl 1 rfl) ?_
  refine z_callSi (As := [.int (iI s9)]) (rest := []) X hK hP hD hA hS hl.1 gX5_use_X5_isScale rfl ⟨rfl, rfl⟩ hd_X5_isScale ⟨Nat.le_of_ble_eq_true rfl, Nat.le_of_ble_eq_true rfl⟩ rfl (Nat.le_of_ble_eq_true rfl) ⟨Nat.zero_le _, Nat.zero_le _⟩ rfl dX5_use_1 (c_X5_isScale s9 (by omega)) (fun H locs hP hD hS => ?_)
  refine z_ifp_ne (tgt := 10) hx hb dX5_use_4 (by decide) (fun c_1 => ?_) (fun c_1 => ?_)
  · exact absurd c_1 (by omega)
  · refine z_ldc (n := -100001) hx hb hown k_76 (by decide) dX5_use_7 ?_
    exact z_iret X hK hP hD hS dX5_use_9 (by (repeat' split) <;> first | rfl | omega)

theorem hd_X5_pitch : yX5_pitch.cls = RX5 ∧ yX5_pitch.cls ≠ "java/lang/invoke/MethodHandle" ∧ yX5_pitch.cls ≠ "java/lang/invoke/VarHandle" ∧ (parseMethodDescriptor yX5_pitch.desc).map (fun d => d.parameters.length) = some 1 := by decide +kernel
set_option maxHeartbeats 4000000 in
set_option maxRecDepth 100000 in
theorem c_X5_pitch_ok (I : okS nK st le be te ab bl ka bg ln ns me sc pi re bk) (v : Int) (h : -2147483648 ≤ v ∧ v ≤ 2147483647) (hok : 1000 ≤ v ∧ v ≤ 200000) : MI l D cy yX5_pitch wsX5_pitch ({ frames := 2, cells := 0, slots := 0, locals := 42 } : Room) [.ref (q 0), .int (iI v)] (wT q cy nK st le be te ab bl ka bg ln ns me sc pi re bk pa lz go ss sm pf mf) pi (wT q cy nK st le be te ab bl ka bg ln ns me sc v re bk pa lz go ss sm pf mf) := by
  refine MI.ofW (cc := cX5_pitch) (maxL := 3) (ret := (some .int)) (by decide) rfl (Nat.le_of_ble_eq_true rfl) ?_
  intro p e s m below meth c A ls X hK hP hD hA hS hl
  obtain ⟨hx, hb, hml, hr, hts, hown, hlocks⟩ := id X
  have hl : lv_has ls 3 [(0, .ref (q 0)), (1, .int (iI v))] := hl
  have f_13 := hts (Cond.fieldLink RX5 13 "TwoKeys" "pitchNow" "I") (by decide +kernel)
  have n_X5 : ∀ w ∈ u_ws RX5 TX5 9, w ∈ wsX5_pitch := by decide +kernel
  have iK := I.nK
  refine lv_iload_n hx hb dX5_pitch_0 rfl (lv_at hl 1 rfl) ?_
  refine z_callSi (As := [.int (iI v)]) (rest := []) X hK hP hD hA hS hl.1 gX5_pitch_X5_isPitch rfl ⟨rfl, rfl⟩ hd_X5_isPitch ⟨Nat.le_of_ble_eq_true rfl, Nat.le_of_ble_eq_true rfl⟩ rfl (Nat.le_of_ble_eq_true rfl) ⟨Nat.zero_le _, Nat.zero_le _⟩ rfl dX5_pitch_1 (c_X5_isPitch v (by omega)) (fun H locs hP hD hS => ?_)
  refine z_ifp_ne (tgt := 10) hx hb dX5_pitch_4 (by decide) (fun c_1 => ?_) (fun c_1 => ?_)
  · refine lv_aload_n hx hb dX5_pitch_10 rfl (lv_at hl 0 rfl) ?_
    refine va_get (D := D) (ci := 5) (v := .int (iI pi)) (C := RX5) (T := TX5) (N := 9) hx hb hts n_X5 hown hK hP 0 rfl rfl 6 (by decide) f_13 (fun _ h9 => h9) rfl dX5_pitch_11 ?_
    refine lv_istore_n (lv' := [(2, .int (iI pi)), (0, .ref (q 0)), (1, .int (iI v))]) hx hb dX5_pitch_14 rfl hl (by decide) rfl (fun ls hl => ?_)
    refine lv_aload_n hx hb dX5_pitch_15 rfl (lv_at hl 1 rfl) ?_
    refine lv_iload_n hx hb dX5_pitch_16 rfl (lv_at hl 2 rfl) ?_
    refine va_put (D := D) (ci := 5) (v := .int (iI v)) (ty := .int) (C := RX5) (T := TX5) (N := 9) hx hb hts n_X5 tyX5 tyX5_ok nmX5 hown hK hP hD hS 0 rfl rfl 6 (by decide) f_13 (fun _ h9 => h9) rfl (by decide +kernel) rfl rfl (Nat.le_of_ble_eq_true rfl) dX5_pitch_17 (fun H locs hP hD hS => ?_)
    have hP : va_P D vwCl (wT q cy nK st le be te ab bl ka bg ln ns me sc v re bk pa lz go ss sm pf mf) H := hP
    have hD : va_D A (wT q cy nK st le be te ab bl ka bg ln ns me sc v re bk pa lz go ss sm pf mf) := hD
    refine lv_iload_n hx hb dX5_pitch_20 rfl (lv_at hl 0 rfl) ?_
    exact z_iret X hK hP hD hS dX5_pitch_21 (by first | rfl | omega | grind)
  · exact absurd c_1 (by omega)

set_option maxHeartbeats 4000000 in
set_option maxRecDepth 100000 in
theorem c_X5_pitch_no (I : okS nK st le be te ab bl ka bg ln ns me sc pi re bk) (v : Int) (h : -2147483648 ≤ v ∧ v ≤ 2147483647) (hno : ¬ (1000 ≤ v ∧ v ≤ 200000)) : MI l D cy yX5_pitch wsX5_pitch ({ frames := 2, cells := 0, slots := 0, locals := 42 } : Room) [.ref (q 0), .int (iI v)] (wT q cy nK st le be te ab bl ka bg ln ns me sc pi re bk pa lz go ss sm pf mf) (-100002) (wT q cy nK st le be te ab bl ka bg ln ns me sc pi re bk pa lz go ss sm pf mf) := by
  refine MI.ofW (cc := cX5_pitch) (maxL := 3) (ret := (some .int)) (by decide) rfl (Nat.le_of_ble_eq_true rfl) ?_
  intro p e s m below meth c A ls X hK hP hD hA hS hl
  obtain ⟨hx, hb, hml, hr, hts, hown, hlocks⟩ := id X
  have hl : lv_has ls 3 [(0, .ref (q 0)), (1, .int (iI v))] := hl
  have k_65 := hts (Cond.constant RX5 65 (-100002)) (by decide +kernel)
  have iK := I.nK
  refine lv_iload_n hx hb dX5_pitch_0 rfl (lv_at hl 1 rfl) ?_
  refine z_callSi (As := [.int (iI v)]) (rest := []) X hK hP hD hA hS hl.1 gX5_pitch_X5_isPitch rfl ⟨rfl, rfl⟩ hd_X5_isPitch ⟨Nat.le_of_ble_eq_true rfl, Nat.le_of_ble_eq_true rfl⟩ rfl (Nat.le_of_ble_eq_true rfl) ⟨Nat.zero_le _, Nat.zero_le _⟩ rfl dX5_pitch_1 (c_X5_isPitch v (by omega)) (fun H locs hP hD hS => ?_)
  refine z_ifp_ne (tgt := 10) hx hb dX5_pitch_4 (by decide) (fun c_1 => ?_) (fun c_1 => ?_)
  · exact absurd c_1 (by omega)
  · refine z_ldc (n := -100002) hx hb hown k_65 (by decide) dX5_pitch_7 ?_
    exact z_iret X hK hP hD hS dX5_pitch_9 (by (repeat' split) <;> first | rfl | omega)

theorem hd_X5_rest : yX5_rest.cls = RX5 ∧ yX5_rest.cls ≠ "java/lang/invoke/MethodHandle" ∧ yX5_rest.cls ≠ "java/lang/invoke/VarHandle" ∧ (parseMethodDescriptor yX5_rest.desc).map (fun d => d.parameters.length) = some 1 := by decide +kernel
set_option maxHeartbeats 4000000 in
set_option maxRecDepth 100000 in
theorem c_X5_rest_ok (I : okS nK st le be te ab bl ka bg ln ns me sc pi re bk) (g : Int) (h : -2147483648 ≤ g ∧ g ≤ 2147483647) (hok : 0 ≤ g ∧ g ≤ 20) : MI l D cy yX5_rest wsX5_rest ({ frames := 1, cells := 0, slots := 0, locals := 22 } : Room) [.ref (q 0), .int (iI g)] (wT q cy nK st le be te ab bl ka bg ln ns me sc pi re bk pa lz go ss sm pf mf) re (wT q cy nK st le be te ab bl ka bg ln ns me sc pi g bk pa lz go ss sm pf mf) := by
  refine MI.ofW (cc := cX5_rest) (maxL := 3) (ret := (some .int)) (by decide) rfl (Nat.le_of_ble_eq_true rfl) ?_
  intro p e s m below meth c A ls X hK hP hD hA hS hl
  obtain ⟨hx, hb, hml, hr, hts, hown, hlocks⟩ := id X
  have hl : lv_has ls 3 [(0, .ref (q 0)), (1, .int (iI g))] := hl
  have f_16 := hts (Cond.fieldLink RX5 16 "TwoKeys" "restNow" "I") (by decide +kernel)
  have n_X5 : ∀ w ∈ u_ws RX5 TX5 9, w ∈ wsX5_rest := by decide +kernel
  have iK := I.nK
  refine lv_iload_n hx hb dX5_rest_0 rfl (lv_at hl 1 rfl) ?_
  refine lv_iconst (v := iI (0)) hx hb dX5_rest_1 rfl ?_
  refine lv_bipush (v := iI (20)) hx hb dX5_rest_2 (by decide) ?_
  refine z_callSi (As := [.int (iI g), .int (iI 0), .int (iI 20)]) (rest := []) X hK hP hD hA hS hl.1 gX5_rest_X5_within rfl ⟨rfl, rfl⟩ hd_X5_within ⟨Nat.le_of_ble_eq_true rfl, Nat.le_of_ble_eq_true rfl⟩ rfl (Nat.le_of_ble_eq_true rfl) ⟨Nat.zero_le _, Nat.zero_le _⟩ rfl dX5_rest_4 (c_X5_within g 0 20 (by omega)) (fun H locs hP hD hS => ?_)
  refine z_ifp_ne (tgt := 13) hx hb dX5_rest_7 (by decide) (fun c_1 => ?_) (fun c_1 => ?_)
  · refine lv_aload_n hx hb dX5_rest_13 rfl (lv_at hl 0 rfl) ?_
    refine va_get (D := D) (ci := 5) (v := .int (iI re)) (C := RX5) (T := TX5) (N := 9) hx hb hts n_X5 hown hK hP 0 rfl rfl 7 (by decide) f_16 (fun _ h9 => h9) rfl dX5_rest_14 ?_
    refine lv_istore_n (lv' := [(2, .int (iI re)), (0, .ref (q 0)), (1, .int (iI g))]) hx hb dX5_rest_17 rfl hl (by decide) rfl (fun ls hl => ?_)
    refine lv_aload_n hx hb dX5_rest_18 rfl (lv_at hl 1 rfl) ?_
    refine lv_iload_n hx hb dX5_rest_19 rfl (lv_at hl 2 rfl) ?_
    refine va_put (D := D) (ci := 5) (v := .int (iI g)) (ty := .int) (C := RX5) (T := TX5) (N := 9) hx hb hts n_X5 tyX5 tyX5_ok nmX5 hown hK hP hD hS 0 rfl rfl 7 (by decide) f_16 (fun _ h9 => h9) rfl (by decide +kernel) rfl rfl (Nat.le_of_ble_eq_true rfl) dX5_rest_20 (fun H locs hP hD hS => ?_)
    have hP : va_P D vwCl (wT q cy nK st le be te ab bl ka bg ln ns me sc pi g bk pa lz go ss sm pf mf) H := hP
    have hD : va_D A (wT q cy nK st le be te ab bl ka bg ln ns me sc pi g bk pa lz go ss sm pf mf) := hD
    refine lv_iload_n hx hb dX5_rest_23 rfl (lv_at hl 0 rfl) ?_
    exact z_iret X hK hP hD hS dX5_rest_24 (by first | rfl | omega | grind)
  · exact absurd c_1 (by omega)

set_option maxHeartbeats 4000000 in
set_option maxRecDepth 100000 in
theorem c_X5_rest_no (I : okS nK st le be te ab bl ka bg ln ns me sc pi re bk) (g : Int) (h : -2147483648 ≤ g ∧ g ≤ 2147483647) (hno : ¬ (0 ≤ g ∧ g ≤ 20)) : MI l D cy yX5_rest wsX5_rest ({ frames := 1, cells := 0, slots := 0, locals := 22 } : Room) [.ref (q 0), .int (iI g)] (wT q cy nK st le be te ab bl ka bg ln ns me sc pi re bk pa lz go ss sm pf mf) (-100002) (wT q cy nK st le be te ab bl ka bg ln ns me sc pi re bk pa lz go ss sm pf mf) := by
  refine MI.ofW (cc := cX5_rest) (maxL := 3) (ret := (some .int)) (by decide) rfl (Nat.le_of_ble_eq_true rfl) ?_
  intro p e s m below meth c A ls X hK hP hD hA hS hl
  obtain ⟨hx, hb, hml, hr, hts, hown, hlocks⟩ := id X
  have hl : lv_has ls 3 [(0, .ref (q 0)), (1, .int (iI g))] := hl
  have k_65 := hts (Cond.constant RX5 65 (-100002)) (by decide +kernel)
  have iK := I.nK
  refine lv_iload_n hx hb dX5_rest_0 rfl (lv_at hl 1 rfl) ?_
  refine lv_iconst (v := iI (0)) hx hb dX5_rest_1 rfl ?_
  refine lv_bipush (v := iI (20)) hx hb dX5_rest_2 (by decide) ?_
  refine z_callSi (As := [.int (iI g), .int (iI 0), .int (iI 20)]) (rest := []) X hK hP hD hA hS hl.1 gX5_rest_X5_within rfl ⟨rfl, rfl⟩ hd_X5_within ⟨Nat.le_of_ble_eq_true rfl, Nat.le_of_ble_eq_true rfl⟩ rfl (Nat.le_of_ble_eq_true rfl) ⟨Nat.zero_le _, Nat.zero_le _⟩ rfl dX5_rest_4 (c_X5_within g 0 20 (by omega)) (fun H locs hP hD hS => ?_)
  refine z_ifp_ne (tgt := 13) hx hb dX5_rest_7 (by decide) (fun c_1 => ?_) (fun c_1 => ?_)
  · exact absurd c_1 (by omega)
  · refine z_ldc (n := -100002) hx hb hown k_65 (by decide) dX5_rest_10 ?_
    exact z_iret X hK hP hD hS dX5_rest_12 (by (repeat' split) <;> first | rfl | omega)

theorem hd_X5_book : yX5_book.cls = RX5 ∧ yX5_book.cls ≠ "java/lang/invoke/MethodHandle" ∧ yX5_book.cls ≠ "java/lang/invoke/VarHandle" ∧ (parseMethodDescriptor yX5_book.desc).map (fun d => d.parameters.length) = some 1 := by decide +kernel
set_option maxHeartbeats 4000000 in
set_option maxRecDepth 100000 in
theorem c_X5_book_ok (I : okS nK st le be te ab bl ka bg ln ns me sc pi re bk) (v : Int) (h : -2147483648 ≤ v ∧ v ≤ 2147483647) (hok : 0 ≤ v ∧ v ≤ 15) : MI l D cy yX5_book wsX5_book ({ frames := 1, cells := 0, slots := 0, locals := 22 } : Room) [.ref (q 0), .int (iI v)] (wT q cy nK st le be te ab bl ka bg ln ns me sc pi re bk pa lz go ss sm pf mf) bk (wT q cy nK st le be te ab bl ka bg ln ns me sc pi re v pa lz go ss sm pf mf) := by
  refine MI.ofW (cc := cX5_book) (maxL := 3) (ret := (some .int)) (by decide) rfl (Nat.le_of_ble_eq_true rfl) ?_
  intro p e s m below meth c A ls X hK hP hD hA hS hl
  obtain ⟨hx, hb, hml, hr, hts, hown, hlocks⟩ := id X
  have hl : lv_has ls 3 [(0, .ref (q 0)), (1, .int (iI v))] := hl
  have f_19 := hts (Cond.fieldLink RX5 19 "TwoKeys" "bookNow" "I") (by decide +kernel)
  have n_X5 : ∀ w ∈ u_ws RX5 TX5 9, w ∈ wsX5_book := by decide +kernel
  have iK := I.nK
  refine lv_iload_n hx hb dX5_book_0 rfl (lv_at hl 1 rfl) ?_
  refine lv_iconst (v := iI (0)) hx hb dX5_book_1 rfl ?_
  refine lv_bipush (v := iI (15)) hx hb dX5_book_2 (by decide) ?_
  refine z_callSi (As := [.int (iI v), .int (iI 0), .int (iI 15)]) (rest := []) X hK hP hD hA hS hl.1 gX5_book_X5_within rfl ⟨rfl, rfl⟩ hd_X5_within ⟨Nat.le_of_ble_eq_true rfl, Nat.le_of_ble_eq_true rfl⟩ rfl (Nat.le_of_ble_eq_true rfl) ⟨Nat.zero_le _, Nat.zero_le _⟩ rfl dX5_book_4 (c_X5_within v 0 15 (by omega)) (fun H locs hP hD hS => ?_)
  refine z_ifp_ne (tgt := 13) hx hb dX5_book_7 (by decide) (fun c_1 => ?_) (fun c_1 => ?_)
  · refine lv_aload_n hx hb dX5_book_13 rfl (lv_at hl 0 rfl) ?_
    refine va_get (D := D) (ci := 5) (v := .int (iI bk)) (C := RX5) (T := TX5) (N := 9) hx hb hts n_X5 hown hK hP 0 rfl rfl 8 (by decide) f_19 (fun _ h9 => h9) rfl dX5_book_14 ?_
    refine lv_istore_n (lv' := [(2, .int (iI bk)), (0, .ref (q 0)), (1, .int (iI v))]) hx hb dX5_book_17 rfl hl (by decide) rfl (fun ls hl => ?_)
    refine lv_aload_n hx hb dX5_book_18 rfl (lv_at hl 1 rfl) ?_
    refine lv_iload_n hx hb dX5_book_19 rfl (lv_at hl 2 rfl) ?_
    refine va_put (D := D) (ci := 5) (v := .int (iI v)) (ty := .int) (C := RX5) (T := TX5) (N := 9) hx hb hts n_X5 tyX5 tyX5_ok nmX5 hown hK hP hD hS 0 rfl rfl 8 (by decide) f_19 (fun _ h9 => h9) rfl (by decide +kernel) rfl rfl (Nat.le_of_ble_eq_true rfl) dX5_book_20 (fun H locs hP hD hS => ?_)
    have hP : va_P D vwCl (wT q cy nK st le be te ab bl ka bg ln ns me sc pi re v pa lz go ss sm pf mf) H := hP
    have hD : va_D A (wT q cy nK st le be te ab bl ka bg ln ns me sc pi re v pa lz go ss sm pf mf) := hD
    refine lv_iload_n hx hb dX5_book_23 rfl (lv_at hl 0 rfl) ?_
    exact z_iret X hK hP hD hS dX5_book_24 (by first | rfl | omega | grind)
  · exact absurd c_1 (by omega)

set_option maxHeartbeats 4000000 in
set_option maxRecDepth 100000 in
theorem c_X5_book_no (I : okS nK st le be te ab bl ka bg ln ns me sc pi re bk) (v : Int) (h : -2147483648 ≤ v ∧ v ≤ 2147483647) (hno : ¬ (0 ≤ v ∧ v ≤ 15)) : MI l D cy yX5_book wsX5_book ({ frames := 1, cells := 0, slots := 0, locals := 22 } : Room) [.ref (q 0), .int (iI v)] (wT q cy nK st le be te ab bl ka bg ln ns me sc pi re bk pa lz go ss sm pf mf) (-100002) (wT q cy nK st le be te ab bl ka bg ln ns me sc pi re bk pa lz go ss sm pf mf) := by
  refine MI.ofW (cc := cX5_book) (maxL := 3) (ret := (some .int)) (by decide) rfl (Nat.le_of_ble_eq_true rfl) ?_
  intro p e s m below meth c A ls X hK hP hD hA hS hl
  obtain ⟨hx, hb, hml, hr, hts, hown, hlocks⟩ := id X
  have hl : lv_has ls 3 [(0, .ref (q 0)), (1, .int (iI v))] := hl
  have k_65 := hts (Cond.constant RX5 65 (-100002)) (by decide +kernel)
  have iK := I.nK
  refine lv_iload_n hx hb dX5_book_0 rfl (lv_at hl 1 rfl) ?_
  refine lv_iconst (v := iI (0)) hx hb dX5_book_1 rfl ?_
  refine lv_bipush (v := iI (15)) hx hb dX5_book_2 (by decide) ?_
  refine z_callSi (As := [.int (iI v), .int (iI 0), .int (iI 15)]) (rest := []) X hK hP hD hA hS hl.1 gX5_book_X5_within rfl ⟨rfl, rfl⟩ hd_X5_within ⟨Nat.le_of_ble_eq_true rfl, Nat.le_of_ble_eq_true rfl⟩ rfl (Nat.le_of_ble_eq_true rfl) ⟨Nat.zero_le _, Nat.zero_le _⟩ rfl dX5_book_4 (c_X5_within v 0 15 (by omega)) (fun H locs hP hD hS => ?_)
  refine z_ifp_ne (tgt := 13) hx hb dX5_book_7 (by decide) (fun c_1 => ?_) (fun c_1 => ?_)
  · exact absurd c_1 (by omega)
  · refine z_ldc (n := -100002) hx hb hown k_65 (by decide) dX5_book_10 ?_
    exact z_iret X hK hP hD hS dX5_book_12 (by (repeat' split) <;> first | rfl | omega)

theorem hd_X5_wipe : yX5_wipe.cls = RX5 ∧ yX5_wipe.cls ≠ "java/lang/invoke/MethodHandle" ∧ yX5_wipe.cls ≠ "java/lang/invoke/VarHandle" ∧ (parseMethodDescriptor yX5_wipe.desc).map (fun d => d.parameters.length) = some 1 := by decide +kernel
set_option maxHeartbeats 4000000 in
set_option maxRecDepth 100000 in
theorem c_X5_wipe_ok (I : okS nK st le be te ab bl ka bg ln ns me sc pi re bk) (p9 : Int) (h : -2147483648 ≤ p9 ∧ p9 ≤ 2147483647) (hok : 0 ≤ p9 ∧ p9 ≤ 3) : MI l D cy yX5_wipe wsX5_wipe ({ frames := 2, cells := 0, slots := 0, locals := 42 } : Room) [.ref (q 0), .int (iI p9)] (wT q cy nK st le be te ab bl ka bg ln ns me sc pi re bk pa lz go ss sm pf mf) (ns p9) (wT q cy nK st le be te ab bl ka bg ln (uZ ns p9 0) me sc pi re bk pa lz go ss sm pf mf) := by
  refine MI.ofW (cc := cX5_wipe) (maxL := 3) (ret := (some .int)) (by decide) rfl (Nat.le_of_ble_eq_true rfl) ?_
  intro p e s m below meth c A ls X hK hP hD hA hS hl
  obtain ⟨hx, hb, hml, hr, hts, hown, hlocks⟩ := id X
  have hl : lv_has ls 3 [(0, .ref (q 0)), (1, .int (iI p9))] := hl
  have f_41 := hts (Cond.fieldLink RX5 41 "TwoKeys" "music" "LTwoKeys$Music;") (by decide +kernel)
  have f_156 := hts (Cond.fieldLink RX5 156 "TwoKeys$Music" "sizes" "[I") (by decide +kernel)
  have n_X1 : ∀ w ∈ u_ws RX1 TX1 5, w ∈ wsX5_wipe := by decide +kernel
  have n_X5 : ∀ w ∈ u_ws RX5 TX5 9, w ∈ wsX5_wipe := by decide +kernel
  have iK := I.nK
  refine lv_iload_n hx hb dX5_wipe_0 rfl (lv_at hl 1 rfl) ?_
  refine z_callSi (As := [.int (iI p9)]) (rest := []) X hK hP hD hA hS hl.1 gX5_wipe_X5_isPiece rfl ⟨rfl, rfl⟩ hd_X5_isPiece ⟨Nat.le_of_ble_eq_true rfl, Nat.le_of_ble_eq_true rfl⟩ rfl (Nat.le_of_ble_eq_true rfl) ⟨Nat.zero_le _, Nat.zero_le _⟩ rfl dX5_wipe_1 (c_X5_isPiece p9 (by omega)) (fun H locs hP hD hS => ?_)
  refine z_ifp_ne (tgt := 10) hx hb dX5_wipe_4 (by decide) (fun c_1 => ?_) (fun c_1 => ?_)
  · refine lv_aload_n hx hb dX5_wipe_10 rfl (lv_at hl 0 rfl) ?_
    refine va_get (D := D) (ci := 5) (v := .ref (q 9)) (C := RX5) (T := TX5) (N := 9) hx hb hts n_X5 hown hK hP 0 rfl rfl 2 (by decide) f_41 (fun _ h9 => h9) rfl dX5_wipe_11 ?_
    refine va_get (D := D) (ci := 1) (v := .ref (q 13)) (C := RX1) (T := TX1) (N := 5) hx hb hts n_X1 hown hK hP 9 rfl rfl 4 (by decide) f_156 (fun _ h9 => h9) rfl dX5_wipe_14 ?_
    refine lv_iload_n hx hb dX5_wipe_17 rfl (lv_at hl 1 rfl) ?_
    refine z_iald hx hb hK hP 13 0 rfl rfl (by omega) dX5_wipe_18 ?_
    have b_2 := I.ns p9
    refine lv_istore_n (lv' := [(2, .int (iI (ns p9))), (0, .ref (q 0)), (1, .int (iI p9))]) hx hb dX5_wipe_19 rfl hl (by decide) rfl (fun ls hl => ?_)
    refine lv_aload_n hx hb dX5_wipe_20 rfl (lv_at hl 1 rfl) ?_
    refine va_get (D := D) (ci := 5) (v := .ref (q 9)) (C := RX5) (T := TX5) (N := 9) hx hb hts n_X5 hown hK hP 0 rfl rfl 2 (by decide) f_41 (fun _ h9 => h9) rfl dX5_wipe_21 ?_
    refine va_get (D := D) (ci := 1) (v := .ref (q 13)) (C := RX1) (T := TX1) (N := 5) hx hb hts n_X1 hown hK hP 9 rfl rfl 4 (by decide) f_156 (fun _ h9 => h9) rfl dX5_wipe_24 ?_
    refine lv_iload_n hx hb dX5_wipe_27 rfl (lv_at hl 2 rfl) ?_
    refine lv_iconst (v := iI (0)) hx hb dX5_wipe_28 rfl ?_
    refine z_iast (v := 0) hx hb hK hP hD hS 13 0 rfl rfl (by omega) dX5_wipe_29 (fun H locs hP hD hS => ?_)
    have hP : va_P D vwCl (wT q cy nK st le be te ab bl ka bg ln (uZ ns p9 0) me sc pi re bk pa lz go ss sm pf mf) H := hP
    have hD : va_D A (wT q cy nK st le be te ab bl ka bg ln (uZ ns p9 0) me sc pi re bk pa lz go ss sm pf mf) := hD
    refine lv_iload_n hx hb dX5_wipe_30 rfl (lv_at hl 0 rfl) ?_
    exact z_iret X hK hP hD hS dX5_wipe_31 (by first | rfl | omega | grind)
  · exact absurd c_1 (by omega)

set_option maxHeartbeats 4000000 in
set_option maxRecDepth 100000 in
theorem c_X5_wipe_no (I : okS nK st le be te ab bl ka bg ln ns me sc pi re bk) (p9 : Int) (h : -2147483648 ≤ p9 ∧ p9 ≤ 2147483647) (hno : ¬ (0 ≤ p9 ∧ p9 ≤ 3)) : MI l D cy yX5_wipe wsX5_wipe ({ frames := 2, cells := 0, slots := 0, locals := 42 } : Room) [.ref (q 0), .int (iI p9)] (wT q cy nK st le be te ab bl ka bg ln ns me sc pi re bk pa lz go ss sm pf mf) (-100001) (wT q cy nK st le be te ab bl ka bg ln ns me sc pi re bk pa lz go ss sm pf mf) := by
  refine MI.ofW (cc := cX5_wipe) (maxL := 3) (ret := (some .int)) (by decide) rfl (Nat.le_of_ble_eq_true rfl) ?_
  intro p e s m below meth c A ls X hK hP hD hA hS hl
  obtain ⟨hx, hb, hml, hr, hts, hown, hlocks⟩ := id X
  have hl : lv_has ls 3 [(0, .ref (q 0)), (1, .int (iI p9))] := hl
  have k_76 := hts (Cond.constant RX5 76 (-100001)) (by decide +kernel)
  have iK := I.nK
  refine lv_iload_n hx hb dX5_wipe_0 rfl (lv_at hl 1 rfl) ?_
  refine z_callSi (As := [.int (iI p9)]) (rest := []) X hK hP hD hA hS hl.1 gX5_wipe_X5_isPiece rfl ⟨rfl, rfl⟩ hd_X5_isPiece ⟨Nat.le_of_ble_eq_true rfl, Nat.le_of_ble_eq_true rfl⟩ rfl (Nat.le_of_ble_eq_true rfl) ⟨Nat.zero_le _, Nat.zero_le _⟩ rfl dX5_wipe_1 (c_X5_isPiece p9 (by omega)) (fun H locs hP hD hS => ?_)
  refine z_ifp_ne (tgt := 10) hx hb dX5_wipe_4 (by decide) (fun c_1 => ?_) (fun c_1 => ?_)
  · exact absurd c_1 (by omega)
  · refine z_ldc (n := -100001) hx hb hown k_76 (by decide) dX5_wipe_7 ?_
    exact z_iret X hK hP hD hS dX5_wipe_9 (by (repeat' split) <;> first | rfl | omega)

theorem hd_X5_note : yX5_note.cls = RX5 ∧ yX5_note.cls ≠ "java/lang/invoke/MethodHandle" ∧ yX5_note.cls ≠ "java/lang/invoke/VarHandle" ∧ (parseMethodDescriptor yX5_note.desc).map (fun d => d.parameters.length) = some 4 := by decide +kernel
set_option maxHeartbeats 4000000 in
set_option maxRecDepth 100000 in
theorem c_X5_note_ok (I : okS nK st le be te ab bl ka bg ln ns me sc pi re bk) (p9 : Int) (k : Int) (b9 : Int) (l9 : Int) (h : -2147483648 ≤ p9 ∧ p9 ≤ 2147483647 ∧ -2147483648 ≤ k ∧ k ≤ 2147483647 ∧ -2147483648 ≤ b9 ∧ b9 ≤ 2147483647 ∧ -2147483648 ≤ l9 ∧ l9 ≤ 2147483647) (hok : (0 ≤ p9 ∧ p9 ≤ 3) ∧ ((0 ≤ k ∧ k ≤ 23) ∧ (0 ≤ b9 ∧ b9 ≤ 999) ∧ (1 ≤ l9 ∧ l9 ≤ 99)) ∧ (if ns p9 = 0 then 0 else bg (p9 * 40 + ns p9 - 1)) ≤ b9 ∧ ns p9 < 40) : MI l D cy yX5_note wsX5_note ({ frames := 2, cells := 0, slots := 0, locals := 46 } : Room) [.ref (q 0), .int (iI p9), .int (iI k), .int (iI b9), .int (iI l9)] (wT q cy nK st le be te ab bl ka bg ln ns me sc pi re bk pa lz go ss sm pf mf) (ns p9) (wT q cy nK st le be te ab bl (uZ ka (p9 * 40 + ns p9) k) (uZ bg (p9 * 40 + ns p9) b9) (uZ ln (p9 * 40 + ns p9) l9) (uZ ns p9 (ns p9 + 1)) me sc pi re bk pa lz go ss sm pf mf) := by
  refine MI.ofW (cc := cX5_note) (maxL := 5) (ret := (some .int)) (by decide) rfl (Nat.le_of_ble_eq_true rfl) ?_
  intro p e s m below meth c A ls X hK hP hD hA hS hl
  obtain ⟨hx, hb, hml, hr, hts, hown, hlocks⟩ := id X
  have hl : lv_has ls 5 [(0, .ref (q 0)), (1, .int (iI p9)), (2, .int (iI k)), (3, .int (iI b9)), (4, .int (iI l9))] := hl
  have f_41 := hts (Cond.fieldLink RX5 41 "TwoKeys" "music" "LTwoKeys$Music;") (by decide +kernel)
  have n_X5 : ∀ w ∈ u_ws RX5 TX5 9, w ∈ wsX5_note := by decide +kernel
  have iK := I.nK
  have i9 := I.ns p9
  have i8 : 0 ≤ (if ns p9 = 0 then 0 else bg (p9 * 40 + ns p9 - 1)) ∧ (if ns p9 = 0 then 0 else bg (p9 * 40 + ns p9 - 1)) ≤ 999 := by have := I.bg (p9 * 40 + ns p9 - 1); split <;> omega
  refine lv_iload_n hx hb dX5_note_0 rfl (lv_at hl 1 rfl) ?_
  refine z_callSi (As := [.int (iI p9)]) (rest := []) X hK hP hD hA hS hl.1 gX5_note_X5_isPiece rfl ⟨rfl, rfl⟩ hd_X5_isPiece ⟨Nat.le_of_ble_eq_true rfl, Nat.le_of_ble_eq_true rfl⟩ rfl (Nat.le_of_ble_eq_true rfl) ⟨Nat.zero_le _, Nat.zero_le _⟩ rfl dX5_note_1 (c_X5_isPiece p9 (by omega)) (fun H locs hP hD hS => ?_)
  refine z_ifp_ne (tgt := 10) hx hb dX5_note_4 (by decide) (fun c_1 => ?_) (fun c_1 => ?_)
  · refine lv_iload_n hx hb dX5_note_10 rfl (lv_at hl 2 rfl) ?_
    refine lv_iconst (v := iI (0)) hx hb dX5_note_11 rfl ?_
    refine lv_bipush (v := iI (23)) hx hb dX5_note_12 (by decide) ?_
    refine z_callSi (As := [.int (iI k), .int (iI 0), .int (iI 23)]) (rest := []) X hK hP hD hA hS hl.1 gX5_note_X5_within rfl ⟨rfl, rfl⟩ hd_X5_within ⟨Nat.le_of_ble_eq_true rfl, Nat.le_of_ble_eq_true rfl⟩ rfl (Nat.le_of_ble_eq_true rfl) ⟨Nat.zero_le _, Nat.zero_le _⟩ rfl dX5_note_14 (c_X5_within k 0 23 (by omega)) (fun H locs hP hD hS => ?_)
    refine z_ifp_ne (tgt := 23) hx hb dX5_note_17 (by decide) (fun c_2 => ?_) (fun c_2 => ?_)
    · refine lv_iload_n hx hb dX5_note_23 rfl (lv_at hl 3 rfl) ?_
      refine lv_iconst (v := iI (0)) hx hb dX5_note_24 rfl ?_
      refine lv_sipush (v := iI (999)) hx hb dX5_note_25 (by decide) ?_
      refine z_callSi (As := [.int (iI b9), .int (iI 0), .int (iI 999)]) (rest := []) X hK hP hD hA hS hl.1 gX5_note_X5_within rfl ⟨rfl, rfl⟩ hd_X5_within ⟨Nat.le_of_ble_eq_true rfl, Nat.le_of_ble_eq_true rfl⟩ rfl (Nat.le_of_ble_eq_true rfl) ⟨Nat.zero_le _, Nat.zero_le _⟩ rfl dX5_note_28 (c_X5_within b9 0 999 (by omega)) (fun H locs hP hD hS => ?_)
      refine z_ifp_eq (tgt := 45) hx hb dX5_note_31 (by decide) (fun c_3 => ?_) (fun c_3 => ?_)
      · exact absurd c_3 (by omega)
      · refine lv_iload hx hb dX5_note_34 (lv_at hl 4 rfl) ?_
        refine lv_iconst (v := iI (1)) hx hb dX5_note_36 rfl ?_
        refine lv_bipush (v := iI (99)) hx hb dX5_note_37 (by decide) ?_
        refine z_callSi (As := [.int (iI l9), .int (iI 1), .int (iI 99)]) (rest := []) X hK hP hD hA hS hl.1 gX5_note_X5_within rfl ⟨rfl, rfl⟩ hd_X5_within ⟨Nat.le_of_ble_eq_true rfl, Nat.le_of_ble_eq_true rfl⟩ rfl (Nat.le_of_ble_eq_true rfl) ⟨Nat.zero_le _, Nat.zero_le _⟩ rfl dX5_note_39 (c_X5_within l9 1 99 (by omega)) (fun H locs hP hD hS => ?_)
        refine z_ifp_ne (tgt := 48) hx hb dX5_note_42 (by decide) (fun c_4 => ?_) (fun c_4 => ?_)
        · refine lv_iload_n hx hb dX5_note_48 rfl (lv_at hl 3 rfl) ?_
          refine lv_aload_n hx hb dX5_note_49 rfl (lv_at hl 0 rfl) ?_
          refine va_get (D := D) (ci := 5) (v := .ref (q 9)) (C := RX5) (T := TX5) (N := 9) hx hb hts n_X5 hown hK hP 0 rfl rfl 2 (by decide) f_41 (fun _ h9 => h9) rfl dX5_note_50 ?_
          refine lv_iload_n hx hb dX5_note_53 rfl (lv_at hl 1 rfl) ?_
          refine z_callVi (ci := 1) (q0 := 9) (As := [.int (iI p9)]) (rest := [.int (iI b9)]) X hK hP hD hA hS hl.1 gX5_note_X1_lastBegin rfl ⟨rfl, rfl⟩ hd_X1_lastBegin ⟨Nat.le_of_ble_eq_true rfl, Nat.le_of_ble_eq_true rfl⟩ rfl rfl rfl (Nat.le_of_ble_eq_true rfl) ⟨Nat.zero_le _, Nat.zero_le _⟩ rfl dX5_note_54 (c_X1_lastBegin I p9 (by omega)) (fun H locs hP hD hS => ?_)
          refine z_icmp_ge (tgt := 63) hx hb dX5_note_57 (by decide) (by omega) (fun c_5 => ?_) (fun c_5 => ?_)
          · refine lv_aload_n hx hb dX5_note_63 rfl (lv_at hl 0 rfl) ?_
            refine va_get (D := D) (ci := 5) (v := .ref (q 9)) (C := RX5) (T := TX5) (N := 9) hx hb hts n_X5 hown hK hP 0 rfl rfl 2 (by decide) f_41 (fun _ h9 => h9) rfl dX5_note_64 ?_
            refine lv_iload_n hx hb dX5_note_67 rfl (lv_at hl 1 rfl) ?_
            refine z_callVi (ci := 1) (q0 := 9) (As := [.int (iI p9)]) (rest := []) X hK hP hD hA hS hl.1 gX5_note_X1_isFull rfl ⟨rfl, rfl⟩ hd_X1_isFull ⟨Nat.le_of_ble_eq_true rfl, Nat.le_of_ble_eq_true rfl⟩ rfl rfl rfl (Nat.le_of_ble_eq_true rfl) ⟨Nat.zero_le _, Nat.zero_le _⟩ rfl dX5_note_68 (c_X1_isFull I p9 (by omega)) (fun H locs hP hD hS => ?_)
            refine z_ifp_eq (tgt := 77) hx hb dX5_note_71 (by decide) (fun c_6 => ?_) (fun c_6 => ?_)
            · refine lv_aload_n hx hb dX5_note_77 rfl (lv_at hl 0 rfl) ?_
              refine va_get (D := D) (ci := 5) (v := .ref (q 9)) (C := RX5) (T := TX5) (N := 9) hx hb hts n_X5 hown hK hP 0 rfl rfl 2 (by decide) f_41 (fun _ h9 => h9) rfl dX5_note_78 ?_
              refine lv_iload_n hx hb dX5_note_81 rfl (lv_at hl 1 rfl) ?_
              refine lv_iload_n hx hb dX5_note_82 rfl (lv_at hl 2 rfl) ?_
              refine lv_iload_n hx hb dX5_note_83 rfl (lv_at hl 3 rfl) ?_
              refine lv_iload hx hb dX5_note_84 (lv_at hl 4 rfl) ?_
              refine z_callVi (ci := 1) (q0 := 9) (As := [.int (iI p9), .int (iI k), .int (iI b9), .int (iI l9)]) (rest := []) X hK hP hD hA hS hl.1 gX5_note_X1_append rfl ⟨rfl, rfl⟩ hd_X1_append ⟨Nat.le_of_ble_eq_true rfl, Nat.le_of_ble_eq_true rfl⟩ rfl rfl rfl (Nat.le_of_ble_eq_true rfl) ⟨Nat.zero_le _, Nat.zero_le _⟩ rfl dX5_note_86 (c_X1_append I p9 k b9 l9 (by omega) (by omega)) (fun H locs hP hD hS => ?_)
              exact z_iret X hK hP hD hS dX5_note_89 (by first | rfl | omega | grind)
            · exact absurd c_6 (by omega)
          · exact absurd c_5 (by omega)
        · exact absurd c_4 (by omega)
    · exact absurd c_2 (by omega)
  · exact absurd c_1 (by omega)

set_option maxHeartbeats 4000000 in
set_option maxRecDepth 100000 in
theorem c_X5_note_no (I : okS nK st le be te ab bl ka bg ln ns me sc pi re bk) (p9 : Int) (k : Int) (b9 : Int) (l9 : Int) (h : -2147483648 ≤ p9 ∧ p9 ≤ 2147483647 ∧ -2147483648 ≤ k ∧ k ≤ 2147483647 ∧ -2147483648 ≤ b9 ∧ b9 ≤ 2147483647 ∧ -2147483648 ≤ l9 ∧ l9 ≤ 2147483647) (hno : ¬ ((0 ≤ p9 ∧ p9 ≤ 3) ∧ ((0 ≤ k ∧ k ≤ 23) ∧ (0 ≤ b9 ∧ b9 ≤ 999) ∧ (1 ≤ l9 ∧ l9 ≤ 99)) ∧ (if ns p9 = 0 then 0 else bg (p9 * 40 + ns p9 - 1)) ≤ b9 ∧ ns p9 < 40)) : MI l D cy yX5_note wsX5_note ({ frames := 2, cells := 0, slots := 0, locals := 42 } : Room) [.ref (q 0), .int (iI p9), .int (iI k), .int (iI b9), .int (iI l9)] (wT q cy nK st le be te ab bl ka bg ln ns me sc pi re bk pa lz go ss sm pf mf) (if 0 ≤ p9 ∧ p9 ≤ 3 then (if (0 ≤ k ∧ k ≤ 23) ∧ (0 ≤ b9 ∧ b9 ≤ 999) ∧ (1 ≤ l9 ∧ l9 ≤ 99) then (if b9 < (if ns p9 = 0 then 0 else bg (p9 * 40 + ns p9 - 1)) then (-100003) else (-100004)) else (-100002)) else (-100001)) (wT q cy nK st le be te ab bl ka bg ln ns me sc pi re bk pa lz go ss sm pf mf) := by
  refine MI.ofW (cc := cX5_note) (maxL := 5) (ret := (some .int)) (by decide) rfl (Nat.le_of_ble_eq_true rfl) ?_
  intro p e s m below meth c A ls X hK hP hD hA hS hl
  obtain ⟨hx, hb, hml, hr, hts, hown, hlocks⟩ := id X
  have hl : lv_has ls 5 [(0, .ref (q 0)), (1, .int (iI p9)), (2, .int (iI k)), (3, .int (iI b9)), (4, .int (iI l9))] := hl
  have k_65 := hts (Cond.constant RX5 65 (-100002)) (by decide +kernel)
  have f_41 := hts (Cond.fieldLink RX5 41 "TwoKeys" "music" "LTwoKeys$Music;") (by decide +kernel)
  have k_151 := hts (Cond.constant RX5 151 (-100004)) (by decide +kernel)
  have k_147 := hts (Cond.constant RX5 147 (-100003)) (by decide +kernel)
  have k_76 := hts (Cond.constant RX5 76 (-100001)) (by decide +kernel)
  have n_X5 : ∀ w ∈ u_ws RX5 TX5 9, w ∈ wsX5_note := by decide +kernel
  have iK := I.nK
  have i9 := I.ns p9
  have i8 : 0 ≤ (if ns p9 = 0 then 0 else bg (p9 * 40 + ns p9 - 1)) ∧ (if ns p9 = 0 then 0 else bg (p9 * 40 + ns p9 - 1)) ≤ 999 := by have := I.bg (p9 * 40 + ns p9 - 1); split <;> omega
  refine lv_iload_n hx hb dX5_note_0 rfl (lv_at hl 1 rfl) ?_
  refine z_callSi (As := [.int (iI p9)]) (rest := []) X hK hP hD hA hS hl.1 gX5_note_X5_isPiece rfl ⟨rfl, rfl⟩ hd_X5_isPiece ⟨Nat.le_of_ble_eq_true rfl, Nat.le_of_ble_eq_true rfl⟩ rfl (Nat.le_of_ble_eq_true rfl) ⟨Nat.zero_le _, Nat.zero_le _⟩ rfl dX5_note_1 (c_X5_isPiece p9 (by omega)) (fun H locs hP hD hS => ?_)
  refine z_ifp_ne (tgt := 10) hx hb dX5_note_4 (by decide) (fun c_1 => ?_) (fun c_1 => ?_)
  · refine lv_iload_n hx hb dX5_note_10 rfl (lv_at hl 2 rfl) ?_
    refine lv_iconst (v := iI (0)) hx hb dX5_note_11 rfl ?_
    refine lv_bipush (v := iI (23)) hx hb dX5_note_12 (by decide) ?_
    refine z_callSi (As := [.int (iI k), .int (iI 0), .int (iI 23)]) (rest := []) X hK hP hD hA hS hl.1 gX5_note_X5_within rfl ⟨rfl, rfl⟩ hd_X5_within ⟨Nat.le_of_ble_eq_true rfl, Nat.le_of_ble_eq_true rfl⟩ rfl (Nat.le_of_ble_eq_true rfl) ⟨Nat.zero_le _, Nat.zero_le _⟩ rfl dX5_note_14 (c_X5_within k 0 23 (by omega)) (fun H locs hP hD hS => ?_)
    refine z_ifp_ne (tgt := 23) hx hb dX5_note_17 (by decide) (fun c_2 => ?_) (fun c_2 => ?_)
    · refine lv_iload_n hx hb dX5_note_23 rfl (lv_at hl 3 rfl) ?_
      refine lv_iconst (v := iI (0)) hx hb dX5_note_24 rfl ?_
      refine lv_sipush (v := iI (999)) hx hb dX5_note_25 (by decide) ?_
      refine z_callSi (As := [.int (iI b9), .int (iI 0), .int (iI 999)]) (rest := []) X hK hP hD hA hS hl.1 gX5_note_X5_within rfl ⟨rfl, rfl⟩ hd_X5_within ⟨Nat.le_of_ble_eq_true rfl, Nat.le_of_ble_eq_true rfl⟩ rfl (Nat.le_of_ble_eq_true rfl) ⟨Nat.zero_le _, Nat.zero_le _⟩ rfl dX5_note_28 (c_X5_within b9 0 999 (by omega)) (fun H locs hP hD hS => ?_)
      refine z_ifp_eq (tgt := 45) hx hb dX5_note_31 (by decide) (fun c_3 => ?_) (fun c_3 => ?_)
      · refine z_ldc (n := -100002) hx hb hown k_65 (by decide) dX5_note_45 ?_
        exact z_iret X hK hP hD hS dX5_note_47 (by (repeat' split) <;> first | rfl | omega)
      · refine lv_iload hx hb dX5_note_34 (lv_at hl 4 rfl) ?_
        refine lv_iconst (v := iI (1)) hx hb dX5_note_36 rfl ?_
        refine lv_bipush (v := iI (99)) hx hb dX5_note_37 (by decide) ?_
        refine z_callSi (As := [.int (iI l9), .int (iI 1), .int (iI 99)]) (rest := []) X hK hP hD hA hS hl.1 gX5_note_X5_within rfl ⟨rfl, rfl⟩ hd_X5_within ⟨Nat.le_of_ble_eq_true rfl, Nat.le_of_ble_eq_true rfl⟩ rfl (Nat.le_of_ble_eq_true rfl) ⟨Nat.zero_le _, Nat.zero_le _⟩ rfl dX5_note_39 (c_X5_within l9 1 99 (by omega)) (fun H locs hP hD hS => ?_)
        refine z_ifp_ne (tgt := 48) hx hb dX5_note_42 (by decide) (fun c_4 => ?_) (fun c_4 => ?_)
        · refine lv_iload_n hx hb dX5_note_48 rfl (lv_at hl 3 rfl) ?_
          refine lv_aload_n hx hb dX5_note_49 rfl (lv_at hl 0 rfl) ?_
          refine va_get (D := D) (ci := 5) (v := .ref (q 9)) (C := RX5) (T := TX5) (N := 9) hx hb hts n_X5 hown hK hP 0 rfl rfl 2 (by decide) f_41 (fun _ h9 => h9) rfl dX5_note_50 ?_
          refine lv_iload_n hx hb dX5_note_53 rfl (lv_at hl 1 rfl) ?_
          refine z_callVi (ci := 1) (q0 := 9) (As := [.int (iI p9)]) (rest := [.int (iI b9)]) X hK hP hD hA hS hl.1 gX5_note_X1_lastBegin rfl ⟨rfl, rfl⟩ hd_X1_lastBegin ⟨Nat.le_of_ble_eq_true rfl, Nat.le_of_ble_eq_true rfl⟩ rfl rfl rfl (Nat.le_of_ble_eq_true rfl) ⟨Nat.zero_le _, Nat.zero_le _⟩ rfl dX5_note_54 (c_X1_lastBegin I p9 (by omega)) (fun H locs hP hD hS => ?_)
          refine z_icmp_ge (tgt := 63) hx hb dX5_note_57 (by decide) (by omega) (fun c_5 => ?_) (fun c_5 => ?_)
          · refine lv_aload_n hx hb dX5_note_63 rfl (lv_at hl 0 rfl) ?_
            refine va_get (D := D) (ci := 5) (v := .ref (q 9)) (C := RX5) (T := TX5) (N := 9) hx hb hts n_X5 hown hK hP 0 rfl rfl 2 (by decide) f_41 (fun _ h9 => h9) rfl dX5_note_64 ?_
            refine lv_iload_n hx hb dX5_note_67 rfl (lv_at hl 1 rfl) ?_
            refine z_callVi (ci := 1) (q0 := 9) (As := [.int (iI p9)]) (rest := []) X hK hP hD hA hS hl.1 gX5_note_X1_isFull rfl ⟨rfl, rfl⟩ hd_X1_isFull ⟨Nat.le_of_ble_eq_true rfl, Nat.le_of_ble_eq_true rfl⟩ rfl rfl rfl (Nat.le_of_ble_eq_true rfl) ⟨Nat.zero_le _, Nat.zero_le _⟩ rfl dX5_note_68 (c_X1_isFull I p9 (by omega)) (fun H locs hP hD hS => ?_)
            refine z_ifp_eq (tgt := 77) hx hb dX5_note_71 (by decide) (fun c_6 => ?_) (fun c_6 => ?_)
            · exact absurd c_6 (by omega)
            · refine z_ldc (n := -100004) hx hb hown k_151 (by decide) dX5_note_74 ?_
              exact z_iret X hK hP hD hS dX5_note_76 (by (repeat' split) <;> first | rfl | omega)
          · refine z_ldc (n := -100003) hx hb hown k_147 (by decide) dX5_note_60 ?_
            exact z_iret X hK hP hD hS dX5_note_62 (by (repeat' split) <;> first | rfl | omega)
        · refine z_ldc (n := -100002) hx hb hown k_65 (by decide) dX5_note_45 ?_
          exact z_iret X hK hP hD hS dX5_note_47 (by (repeat' split) <;> first | rfl | omega)
    · refine z_ldc (n := -100002) hx hb hown k_65 (by decide) dX5_note_20 ?_
      exact z_iret X hK hP hD hS dX5_note_22 (by (repeat' split) <;> first | rfl | omega)
  · refine z_ldc (n := -100001) hx hb hown k_76 (by decide) dX5_note_7 ?_
    exact z_iret X hK hP hD hS dX5_note_9 (by (repeat' split) <;> first | rfl | omega)

theorem hd_X5_clashes : yX5_clashes.cls = RX5 ∧ yX5_clashes.cls ≠ "java/lang/invoke/MethodHandle" ∧ yX5_clashes.cls ≠ "java/lang/invoke/VarHandle" ∧ (parseMethodDescriptor yX5_clashes.desc).map (fun d => d.parameters.length) = some 1 := by decide +kernel
set_option maxHeartbeats 4000000 in
set_option maxRecDepth 100000 in
theorem c_X5_clashes (I : okS nK st le be te ab bl ka bg ln ns me sc pi re bk) (p9 : Int) (h : -2147483648 ≤ p9 ∧ p9 ≤ 2147483647) : MI l D cy yX5_clashes wsX5_clashes ({ frames := 4, cells := 0, slots := 0, locals := 89 } : Room) [.ref (q 0), .int (iI p9)] (wT q cy nK st le be te ab bl ka bg ln ns me sc pi re bk pa lz go ss sm pf mf) (if 0 ≤ p9 ∧ p9 ≤ 3 then clN nK st ka bg ln (p9 * 40) (p9 * 40 + ns p9) else (-100001)) (wT q cy nK st le be te ab bl ka bg ln ns me sc pi re bk pa lz go ss sm pf mf) := by
  refine MI.ofW (cc := cX5_clashes) (maxL := 2) (ret := (some .int)) (by decide) rfl (Nat.le_of_ble_eq_true rfl) ?_
  intro p e s m below meth c A ls X hK hP hD hA hS hl
  obtain ⟨hx, hb, hml, hr, hts, hown, hlocks⟩ := id X
  have hl : lv_has ls 2 [(0, .ref (q 0)), (1, .int (iI p9))] := hl
  have f_41 := hts (Cond.fieldLink RX5 41 "TwoKeys" "music" "LTwoKeys$Music;") (by decide +kernel)
  have k_76 := hts (Cond.constant RX5 76 (-100001)) (by decide +kernel)
  have n_X5 : ∀ w ∈ u_ws RX5 TX5 9, w ∈ wsX5_clashes := by decide +kernel
  have iK := I.nK
  refine lv_iload_n hx hb dX5_clashes_0 rfl (lv_at hl 1 rfl) ?_
  refine z_callSi (As := [.int (iI p9)]) (rest := []) X hK hP hD hA hS hl.1 gX5_clashes_X5_isPiece rfl ⟨rfl, rfl⟩ hd_X5_isPiece ⟨Nat.le_of_ble_eq_true rfl, Nat.le_of_ble_eq_true rfl⟩ rfl (Nat.le_of_ble_eq_true rfl) ⟨Nat.zero_le _, Nat.zero_le _⟩ rfl dX5_clashes_1 (c_X5_isPiece p9 (by omega)) (fun H locs hP hD hS => ?_)
  refine z_ifp_ne (tgt := 10) hx hb dX5_clashes_4 (by decide) (fun c_1 => ?_) (fun c_1 => ?_)
  · refine lv_aload_n hx hb dX5_clashes_10 rfl (lv_at hl 0 rfl) ?_
    refine va_get (D := D) (ci := 5) (v := .ref (q 9)) (C := RX5) (T := TX5) (N := 9) hx hb hts n_X5 hown hK hP 0 rfl rfl 2 (by decide) f_41 (fun _ h9 => h9) rfl dX5_clashes_11 ?_
    refine lv_iload_n hx hb dX5_clashes_14 rfl (lv_at hl 1 rfl) ?_
    refine z_callVi (ci := 1) (q0 := 9) (As := [.int (iI p9)]) (rest := []) X hK hP hD hA hS hl.1 gX5_clashes_X1_countClashes rfl ⟨rfl, rfl⟩ hd_X1_countClashes ⟨Nat.le_of_ble_eq_true rfl, Nat.le_of_ble_eq_true rfl⟩ rfl rfl rfl (Nat.le_of_ble_eq_true rfl) ⟨Nat.zero_le _, Nat.zero_le _⟩ rfl dX5_clashes_15 (c_X1_countClashes I p9 (by omega)) (fun H locs hP hD hS => ?_)
    exact z_iret X hK hP hD hS dX5_clashes_18 (by (repeat' split) <;> first | rfl | omega)
  · refine z_ldc (n := -100001) hx hb hown k_76 (by decide) dX5_clashes_7 ?_
    exact z_iret X hK hP hD hS dX5_clashes_9 (by (repeat' split) <;> first | rfl | omega)

theorem hd_X5_measure : yX5_measure.cls = RX5 ∧ yX5_measure.cls ≠ "java/lang/invoke/MethodHandle" ∧ yX5_measure.cls ≠ "java/lang/invoke/VarHandle" ∧ (parseMethodDescriptor yX5_measure.desc).map (fun d => d.parameters.length) = some 2 := by decide +kernel
set_option maxHeartbeats 4000000 in
set_option maxRecDepth 100000 in
theorem c_X5_measure_ok (I : okS nK st le be te ab bl ka bg ln ns me sc pi re bk) (k : Int) (t9 : Int) (h : -2147483648 ≤ k ∧ k ≤ 2147483647 ∧ -2147483648 ≤ t9 ∧ t9 ≤ 2147483647) (hok : (0 ≤ k ∧ k < nK) ∧ (t9 = -100009 ∨ (100 ≤ t9 ∧ t9 ≤ 400000))) : MI l D cy yX5_measure wsX5_measure ({ frames := 1, cells := 0, slots := 0, locals := 22 } : Room) [.ref (q 0), .int (iI k), .int (iI t9)] (wT q cy nK st le be te ab bl ka bg ln ns me sc pi re bk pa lz go ss sm pf mf) (me k) (wT q cy nK st le be te ab bl ka bg ln ns (uZ me k t9) sc pi re bk pa lz go ss sm pf mf) := by
  refine MI.ofW (cc := cX5_measure) (maxL := 4) (ret := (some .int)) (by decide) rfl (Nat.le_of_ble_eq_true rfl) ?_
  intro p e s m below meth c A ls X hK hP hD hA hS hl
  obtain ⟨hx, hb, hml, hr, hts, hown, hlocks⟩ := id X
  have hl : lv_has ls 4 [(0, .ref (q 0)), (1, .int (iI k)), (2, .int (iI t9))] := hl
  have f_25 := hts (Cond.fieldLink RX5 25 "TwoKeys" "board" "LTwoKeys$Board;") (by decide +kernel)
  have k_196 := hts (Cond.constant RX5 196 (-100009)) (by decide +kernel)
  have f_57 := hts (Cond.fieldLink RX5 57 "TwoKeys" "oldOne" "LTwoKeys$OldOne;") (by decide +kernel)
  have f_207 := hts (Cond.fieldLink RX5 207 "TwoKeys$OldOne" "measured" "[I") (by decide +kernel)
  have k_206 := hts (Cond.constant RX5 206 (400000)) (by decide +kernel)
  have n_X2 : ∀ w ∈ u_ws RX2 TX2 5, w ∈ wsX5_measure := by decide +kernel
  have n_X5 : ∀ w ∈ u_ws RX5 TX5 9, w ∈ wsX5_measure := by decide +kernel
  have iK := I.nK
  refine lv_aload_n hx hb dX5_measure_0 rfl (lv_at hl 0 rfl) ?_
  refine va_get (D := D) (ci := 5) (v := .ref (q 1)) (C := RX5) (T := TX5) (N := 9) hx hb hts n_X5 hown hK hP 0 rfl rfl 0 (by decide) f_25 (fun _ h9 => h9) rfl dX5_measure_1 ?_
  refine lv_iload_n hx hb dX5_measure_4 rfl (lv_at hl 1 rfl) ?_
  refine z_callVi (ci := 0) (q0 := 1) (As := [.int (iI k)]) (rest := []) X hK hP hD hA hS hl.1 gX5_measure_X0_has rfl ⟨rfl, rfl⟩ hd_X0_has ⟨Nat.le_of_ble_eq_true rfl, Nat.le_of_ble_eq_true rfl⟩ rfl rfl rfl (Nat.le_of_ble_eq_true rfl) ⟨Nat.zero_le _, Nat.zero_le _⟩ rfl dX5_measure_5 (c_X0_has I k (by omega)) (fun H locs hP hD hS => ?_)
  refine z_ifp_ne (tgt := 14) hx hb dX5_measure_8 (by decide) (fun c_1 => ?_) (fun c_1 => ?_)
  · refine lv_iload_n hx hb dX5_measure_14 rfl (lv_at hl 2 rfl) ?_
    refine z_ldc (n := -100009) hx hb hown k_196 (by decide) dX5_measure_15 ?_
    refine z_icmp_eq (tgt := 34) hx hb dX5_measure_17 (by decide) (by omega) (fun c_2 => ?_) (fun c_2 => ?_)
    · refine lv_aload_n hx hb dX5_measure_34 rfl (lv_at hl 0 rfl) ?_
      refine va_get (D := D) (ci := 5) (v := .ref (q 18)) (C := RX5) (T := TX5) (N := 9) hx hb hts n_X5 hown hK hP 0 rfl rfl 4 (by decide) f_57 (fun _ h9 => h9) rfl dX5_measure_35 ?_
      refine va_get (D := D) (ci := 2) (v := .ref (q 19)) (C := RX2) (T := TX2) (N := 5) hx hb hts n_X2 hown hK hP 18 rfl rfl 2 (by decide) f_207 (fun _ h9 => h9) rfl dX5_measure_38 ?_
      refine lv_iload_n hx hb dX5_measure_41 rfl (lv_at hl 1 rfl) ?_
      refine z_iald hx hb hK hP 19 0 rfl rfl (by omega) dX5_measure_42 ?_
      have b_3 := I.me k
      refine lv_istore_n (lv' := [(3, .int (iI (me k))), (0, .ref (q 0)), (1, .int (iI k)), (2, .int (iI t9))]) hx hb dX5_measure_43 rfl hl (by decide) rfl (fun ls hl => ?_)
      refine lv_aload_n hx hb dX5_measure_44 rfl (lv_at hl 1 rfl) ?_
      refine va_get (D := D) (ci := 5) (v := .ref (q 18)) (C := RX5) (T := TX5) (N := 9) hx hb hts n_X5 hown hK hP 0 rfl rfl 4 (by decide) f_57 (fun _ h9 => h9) rfl dX5_measure_45 ?_
      refine va_get (D := D) (ci := 2) (v := .ref (q 19)) (C := RX2) (T := TX2) (N := 5) hx hb hts n_X2 hown hK hP 18 rfl rfl 2 (by decide) f_207 (fun _ h9 => h9) rfl dX5_measure_48 ?_
      refine lv_iload_n hx hb dX5_measure_51 rfl (lv_at hl 2 rfl) ?_
      refine lv_iload_n hx hb dX5_measure_52 rfl (lv_at hl 3 rfl) ?_
      refine z_iast (v := t9) hx hb hK hP hD hS 19 0 rfl rfl (by omega) dX5_measure_53 (fun H locs hP hD hS => ?_)
      have hP : va_P D vwCl (wT q cy nK st le be te ab bl ka bg ln ns (uZ me k t9) sc pi re bk pa lz go ss sm pf mf) H := hP
      have hD : va_D A (wT q cy nK st le be te ab bl ka bg ln ns (uZ me k t9) sc pi re bk pa lz go ss sm pf mf) := hD
      refine lv_iload_n hx hb dX5_measure_54 rfl (lv_at hl 0 rfl) ?_
      exact z_iret X hK hP hD hS dX5_measure_55 (by first | rfl | omega | grind)
    · refine lv_iload_n hx hb dX5_measure_20 rfl (lv_at hl 2 rfl) ?_
      refine lv_bipush (v := iI (100)) hx hb dX5_measure_21 (by decide) ?_
      refine z_ldc (n := 400000) hx hb hown k_206 (by decide) dX5_measure_23 ?_
      refine z_callSi (As := [.int (iI t9), .int (iI 100), .int (iI 400000)]) (rest := []) X hK hP hD hA hS hl.1 gX5_measure_X5_within rfl ⟨rfl, rfl⟩ hd_X5_within ⟨Nat.le_of_ble_eq_true rfl, Nat.le_of_ble_eq_true rfl⟩ rfl (Nat.le_of_ble_eq_true rfl) ⟨Nat.zero_le _, Nat.zero_le _⟩ rfl dX5_measure_25 (c_X5_within t9 100 400000 (by omega)) (fun H locs hP hD hS => ?_)
      refine z_ifp_ne (tgt := 34) hx hb dX5_measure_28 (by decide) (fun c_4 => ?_) (fun c_4 => ?_)
      · refine lv_aload_n hx hb dX5_measure_34 rfl (lv_at hl 0 rfl) ?_
        refine va_get (D := D) (ci := 5) (v := .ref (q 18)) (C := RX5) (T := TX5) (N := 9) hx hb hts n_X5 hown hK hP 0 rfl rfl 4 (by decide) f_57 (fun _ h9 => h9) rfl dX5_measure_35 ?_
        refine va_get (D := D) (ci := 2) (v := .ref (q 19)) (C := RX2) (T := TX2) (N := 5) hx hb hts n_X2 hown hK hP 18 rfl rfl 2 (by decide) f_207 (fun _ h9 => h9) rfl dX5_measure_38 ?_
        refine lv_iload_n hx hb dX5_measure_41 rfl (lv_at hl 1 rfl) ?_
        refine z_iald hx hb hK hP 19 0 rfl rfl (by omega) dX5_measure_42 ?_
        have b_5 := I.me k
        refine lv_istore_n (lv' := [(3, .int (iI (me k))), (0, .ref (q 0)), (1, .int (iI k)), (2, .int (iI t9))]) hx hb dX5_measure_43 rfl hl (by decide) rfl (fun ls hl => ?_)
        refine lv_aload_n hx hb dX5_measure_44 rfl (lv_at hl 1 rfl) ?_
        refine va_get (D := D) (ci := 5) (v := .ref (q 18)) (C := RX5) (T := TX5) (N := 9) hx hb hts n_X5 hown hK hP 0 rfl rfl 4 (by decide) f_57 (fun _ h9 => h9) rfl dX5_measure_45 ?_
        refine va_get (D := D) (ci := 2) (v := .ref (q 19)) (C := RX2) (T := TX2) (N := 5) hx hb hts n_X2 hown hK hP 18 rfl rfl 2 (by decide) f_207 (fun _ h9 => h9) rfl dX5_measure_48 ?_
        refine lv_iload_n hx hb dX5_measure_51 rfl (lv_at hl 2 rfl) ?_
        refine lv_iload_n hx hb dX5_measure_52 rfl (lv_at hl 3 rfl) ?_
        refine z_iast (v := t9) hx hb hK hP hD hS 19 0 rfl rfl (by omega) dX5_measure_53 (fun H locs hP hD hS => ?_)
        have hP : va_P D vwCl (wT q cy nK st le be te ab bl ka bg ln ns (uZ me k t9) sc pi re bk pa lz go ss sm pf mf) H := hP
        have hD : va_D A (wT q cy nK st le be te ab bl ka bg ln ns (uZ me k t9) sc pi re bk pa lz go ss sm pf mf) := hD
        refine lv_iload_n hx hb dX5_measure_54 rfl (lv_at hl 0 rfl) ?_
        exact z_iret X hK hP hD hS dX5_measure_55 (by first | rfl | omega | grind)
      · exact absurd c_4 (by omega)
  · exact absurd c_1 (by omega)

set_option maxHeartbeats 4000000 in
set_option maxRecDepth 100000 in
theorem c_X5_measure_no (I : okS nK st le be te ab bl ka bg ln ns me sc pi re bk) (k : Int) (t9 : Int) (h : -2147483648 ≤ k ∧ k ≤ 2147483647 ∧ -2147483648 ≤ t9 ∧ t9 ≤ 2147483647) (hno : ¬ ((0 ≤ k ∧ k < nK) ∧ (t9 = -100009 ∨ (100 ≤ t9 ∧ t9 ≤ 400000)))) : MI l D cy yX5_measure wsX5_measure ({ frames := 1, cells := 0, slots := 0, locals := 22 } : Room) [.ref (q 0), .int (iI k), .int (iI t9)] (wT q cy nK st le be te ab bl ka bg ln ns me sc pi re bk pa lz go ss sm pf mf) (if 0 ≤ k ∧ k < nK then (-100002) else (-100001)) (wT q cy nK st le be te ab bl ka bg ln ns me sc pi re bk pa lz go ss sm pf mf) := by
  refine MI.ofW (cc := cX5_measure) (maxL := 4) (ret := (some .int)) (by decide) rfl (Nat.le_of_ble_eq_true rfl) ?_
  intro p e s m below meth c A ls X hK hP hD hA hS hl
  obtain ⟨hx, hb, hml, hr, hts, hown, hlocks⟩ := id X
  have hl : lv_has ls 4 [(0, .ref (q 0)), (1, .int (iI k)), (2, .int (iI t9))] := hl
  have f_25 := hts (Cond.fieldLink RX5 25 "TwoKeys" "board" "LTwoKeys$Board;") (by decide +kernel)
  have k_196 := hts (Cond.constant RX5 196 (-100009)) (by decide +kernel)
  have k_206 := hts (Cond.constant RX5 206 (400000)) (by decide +kernel)
  have k_65 := hts (Cond.constant RX5 65 (-100002)) (by decide +kernel)
  have k_76 := hts (Cond.constant RX5 76 (-100001)) (by decide +kernel)
  have n_X5 : ∀ w ∈ u_ws RX5 TX5 9, w ∈ wsX5_measure := by decide +kernel
  have iK := I.nK
  refine lv_aload_n hx hb dX5_measure_0 rfl (lv_at hl 0 rfl) ?_
  refine va_get (D := D) (ci := 5) (v := .ref (q 1)) (C := RX5) (T := TX5) (N := 9) hx hb hts n_X5 hown hK hP 0 rfl rfl 0 (by decide) f_25 (fun _ h9 => h9) rfl dX5_measure_1 ?_
  refine lv_iload_n hx hb dX5_measure_4 rfl (lv_at hl 1 rfl) ?_
  refine z_callVi (ci := 0) (q0 := 1) (As := [.int (iI k)]) (rest := []) X hK hP hD hA hS hl.1 gX5_measure_X0_has rfl ⟨rfl, rfl⟩ hd_X0_has ⟨Nat.le_of_ble_eq_true rfl, Nat.le_of_ble_eq_true rfl⟩ rfl rfl rfl (Nat.le_of_ble_eq_true rfl) ⟨Nat.zero_le _, Nat.zero_le _⟩ rfl dX5_measure_5 (c_X0_has I k (by omega)) (fun H locs hP hD hS => ?_)
  refine z_ifp_ne (tgt := 14) hx hb dX5_measure_8 (by decide) (fun c_1 => ?_) (fun c_1 => ?_)
  · refine lv_iload_n hx hb dX5_measure_14 rfl (lv_at hl 2 rfl) ?_
    refine z_ldc (n := -100009) hx hb hown k_196 (by decide) dX5_measure_15 ?_
    refine z_icmp_eq (tgt := 34) hx hb dX5_measure_17 (by decide) (by omega) (fun c_2 => ?_) (fun c_2 => ?_)
    · exact absurd c_2 (by omega)
    · refine lv_iload_n hx hb dX5_measure_20 rfl (lv_at hl 2 rfl) ?_
      refine lv_bipush (v := iI (100)) hx hb dX5_measure_21 (by decide) ?_
      refine z_ldc (n := 400000) hx hb hown k_206 (by decide) dX5_measure_23 ?_
      refine z_callSi (As := [.int (iI t9), .int (iI 100), .int (iI 400000)]) (rest := []) X hK hP hD hA hS hl.1 gX5_measure_X5_within rfl ⟨rfl, rfl⟩ hd_X5_within ⟨Nat.le_of_ble_eq_true rfl, Nat.le_of_ble_eq_true rfl⟩ rfl (Nat.le_of_ble_eq_true rfl) ⟨Nat.zero_le _, Nat.zero_le _⟩ rfl dX5_measure_25 (c_X5_within t9 100 400000 (by omega)) (fun H locs hP hD hS => ?_)
      refine z_ifp_ne (tgt := 34) hx hb dX5_measure_28 (by decide) (fun c_3 => ?_) (fun c_3 => ?_)
      · exact absurd c_3 (by omega)
      · refine z_ldc (n := -100002) hx hb hown k_65 (by decide) dX5_measure_31 ?_
        exact z_iret X hK hP hD hS dX5_measure_33 (by (repeat' split) <;> first | rfl | omega)
  · refine z_ldc (n := -100001) hx hb hown k_76 (by decide) dX5_measure_11 ?_
    exact z_iret X hK hP hD hS dX5_measure_13 (by (repeat' split) <;> first | rfl | omega)

theorem hd_X5_passes : yX5_passes.cls = RX5 ∧ yX5_passes.cls ≠ "java/lang/invoke/MethodHandle" ∧ yX5_passes.cls ≠ "java/lang/invoke/VarHandle" ∧ (parseMethodDescriptor yX5_passes.desc).map (fun d => d.parameters.length) = some 1 := by decide +kernel
set_option maxHeartbeats 4000000 in
set_option maxRecDepth 100000 in
theorem c_X5_passes (I : okS nK st le be te ab bl ka bg ln ns me sc pi re bk) (p9 : Int) (h : -2147483648 ≤ p9 ∧ p9 ≤ 2147483647) : MI l D cy yX5_passes wsX5_passes ({ frames := 4, cells := 0, slots := 0, locals := 89 } : Room) [.ref (q 0), .int (iI p9)] (wT q cy nK st le be te ab bl ka bg ln ns me sc pi re bk pa lz go ss sm pf mf) (if 0 ≤ p9 ∧ p9 ≤ 3 then bP ((∀ a, p9 * 40 ≤ a → a < p9 * 40 + ns p9 → ka a < nK) ∧ clN nK st ka bg ln (p9 * 40) (p9 * 40 + ns p9) = 0) else (-100001)) (wT q cy nK st le be te ab bl ka bg ln ns me sc pi re bk pa lz go ss sm pf mf) := by
  refine MI.ofW (cc := cX5_passes) (maxL := 2) (ret := (some .int)) (by decide) rfl (Nat.le_of_ble_eq_true rfl) ?_
  intro p e s m below meth c A ls X hK hP hD hA hS hl
  obtain ⟨hx, hb, hml, hr, hts, hown, hlocks⟩ := id X
  have hl : lv_has ls 2 [(0, .ref (q 0)), (1, .int (iI p9))] := hl
  have f_41 := hts (Cond.fieldLink RX5 41 "TwoKeys" "music" "LTwoKeys$Music;") (by decide +kernel)
  have k_76 := hts (Cond.constant RX5 76 (-100001)) (by decide +kernel)
  have n_X5 : ∀ w ∈ u_ws RX5 TX5 9, w ∈ wsX5_passes := by decide +kernel
  have iK := I.nK
  refine lv_iload_n hx hb dX5_passes_0 rfl (lv_at hl 1 rfl) ?_
  refine z_callSi (As := [.int (iI p9)]) (rest := []) X hK hP hD hA hS hl.1 gX5_passes_X5_isPiece rfl ⟨rfl, rfl⟩ hd_X5_isPiece ⟨Nat.le_of_ble_eq_true rfl, Nat.le_of_ble_eq_true rfl⟩ rfl (Nat.le_of_ble_eq_true rfl) ⟨Nat.zero_le _, Nat.zero_le _⟩ rfl dX5_passes_1 (c_X5_isPiece p9 (by omega)) (fun H locs hP hD hS => ?_)
  refine z_ifp_ne (tgt := 10) hx hb dX5_passes_4 (by decide) (fun c_1 => ?_) (fun c_1 => ?_)
  · refine lv_aload_n hx hb dX5_passes_10 rfl (lv_at hl 0 rfl) ?_
    refine va_get (D := D) (ci := 5) (v := .ref (q 9)) (C := RX5) (T := TX5) (N := 9) hx hb hts n_X5 hown hK hP 0 rfl rfl 2 (by decide) f_41 (fun _ h9 => h9) rfl dX5_passes_11 ?_
    refine lv_iload_n hx hb dX5_passes_14 rfl (lv_at hl 1 rfl) ?_
    refine z_callVi (ci := 1) (q0 := 9) (As := [.int (iI p9)]) (rest := []) X hK hP hD hA hS hl.1 gX5_passes_X1_allKeysThere rfl ⟨rfl, rfl⟩ hd_X1_allKeysThere ⟨Nat.le_of_ble_eq_true rfl, Nat.le_of_ble_eq_true rfl⟩ rfl rfl rfl (Nat.le_of_ble_eq_true rfl) ⟨Nat.zero_le _, Nat.zero_le _⟩ rfl dX5_passes_15 (c_X1_allKeysThere I p9 (by omega)) (fun H locs hP hD hS => ?_)
    refine z_ifp_eq (tgt := 36) hx hb dX5_passes_18 (by decide) (fun c_2 => ?_) (fun c_2 => ?_)
    · refine lv_iconst (v := iI (0)) hx hb dX5_passes_36 rfl ?_
      refine z_callSi (As := [.int (iI 0)]) (rest := []) X hK hP hD hA hS hl.1 gX5_passes_X5_asNumber rfl ⟨rfl, rfl⟩ hd_X5_asNumber ⟨Nat.le_of_ble_eq_true rfl, Nat.le_of_ble_eq_true rfl⟩ rfl (Nat.le_of_ble_eq_true rfl) ⟨Nat.zero_le _, Nat.zero_le _⟩ rfl dX5_passes_37 (c_X5_asNumber 0 (by omega)) (fun H locs hP hD hS => ?_)
      exact z_iret X hK hP hD hS dX5_passes_40 (by rw [if_pos (by omega)]; first | exact (bP_1 ⟨by assumption, by assumption⟩).symm | exact (bP_0 (fun z => absurd z.2 (by assumption))).symm | exact (bP_0 (fun z => absurd z.1 (by assumption))).symm)
    · refine lv_aload_n hx hb dX5_passes_21 rfl (lv_at hl 0 rfl) ?_
      refine va_get (D := D) (ci := 5) (v := .ref (q 9)) (C := RX5) (T := TX5) (N := 9) hx hb hts n_X5 hown hK hP 0 rfl rfl 2 (by decide) f_41 (fun _ h9 => h9) rfl dX5_passes_22 ?_
      refine lv_iload_n hx hb dX5_passes_25 rfl (lv_at hl 1 rfl) ?_
      refine z_callVi (ci := 1) (q0 := 9) (As := [.int (iI p9)]) (rest := []) X hK hP hD hA hS hl.1 gX5_passes_X1_countClashes rfl ⟨rfl, rfl⟩ hd_X1_countClashes ⟨Nat.le_of_ble_eq_true rfl, Nat.le_of_ble_eq_true rfl⟩ rfl rfl rfl (Nat.le_of_ble_eq_true rfl) ⟨Nat.zero_le _, Nat.zero_le _⟩ rfl dX5_passes_26 (c_X1_countClashes I p9 (by omega)) (fun H locs hP hD hS => ?_)
      have b7 := I.ns p9
      have b6 := clN_b (nK := nK) (st := st) (ka := ka) (bg := bg) (ln := ln) (lo := p9 * 40) (hi := p9 * 40 + ns p9) (by omega) (by omega)
      refine z_if_ne (tgt := 36) hx hb dX5_passes_29 (by decide) (by omega) (fun c_3 => ?_) (fun c_3 => ?_)
      · refine lv_iconst (v := iI (0)) hx hb dX5_passes_36 rfl ?_
        refine z_callSi (As := [.int (iI 0)]) (rest := []) X hK hP hD hA hS hl.1 gX5_passes_X5_asNumber rfl ⟨rfl, rfl⟩ hd_X5_asNumber ⟨Nat.le_of_ble_eq_true rfl, Nat.le_of_ble_eq_true rfl⟩ rfl (Nat.le_of_ble_eq_true rfl) ⟨Nat.zero_le _, Nat.zero_le _⟩ rfl dX5_passes_37 (c_X5_asNumber 0 (by omega)) (fun H locs hP hD hS => ?_)
        exact z_iret X hK hP hD hS dX5_passes_40 (by rw [if_pos (by omega)]; first | exact (bP_1 ⟨by assumption, by assumption⟩).symm | exact (bP_0 (fun z => absurd z.2 (by assumption))).symm | exact (bP_0 (fun z => absurd z.1 (by assumption))).symm)
      · refine lv_iconst (v := iI (1)) hx hb dX5_passes_32 rfl ?_
        refine lv_goto (tgt := 37) hx hb dX5_passes_33 (by decide) ?_
        refine z_callSi (As := [.int (iI 1)]) (rest := []) X hK hP hD hA hS hl.1 gX5_passes_X5_asNumber rfl ⟨rfl, rfl⟩ hd_X5_asNumber ⟨Nat.le_of_ble_eq_true rfl, Nat.le_of_ble_eq_true rfl⟩ rfl (Nat.le_of_ble_eq_true rfl) ⟨Nat.zero_le _, Nat.zero_le _⟩ rfl dX5_passes_37 (c_X5_asNumber 1 (by omega)) (fun H locs hP hD hS => ?_)
        exact z_iret X hK hP hD hS dX5_passes_40 (by rw [if_pos (by omega)]; first | exact (bP_1 ⟨by assumption, by assumption⟩).symm | exact (bP_0 (fun z => absurd z.2 (by assumption))).symm | exact (bP_0 (fun z => absurd z.1 (by assumption))).symm)
  · refine z_ldc (n := -100001) hx hb hown k_76 (by decide) dX5_passes_7 ?_
    exact z_iret X hK hP hD hS dX5_passes_9 (by (repeat' split) <;> first | rfl | omega)
