variable {l : Launch} {D : va_G} {cy : ClassId} {q : Nat → Nat} {nK sc pi re bk ss sm pf mf th lo : Int} {st le be te ab bl ka bg ln ns me pa lz go co bs gr : Int → Int}
theorem hd_X6_bendBest : yX6_bendBest.cls = RX6 ∧ yX6_bendBest.cls ≠ "java/lang/invoke/MethodHandle" ∧ yX6_bendBest.cls ≠ "java/lang/invoke/VarHandle" ∧ (parseMethodDescriptor yX6_bendBest.desc).map (fun d => d.parameters.length) = some 1 := by decide +kernel
set_option maxHeartbeats 4000000 in
set_option maxRecDepth 100000 in
theorem c_X6_bendBest (I : okS nK st le be te ab bl ka bg ln ns me sc pi re bk) (k : Int) (h : 0 ≤ k ∧ k < 24) : MV l D cy yX6_bendBest wsX6_bendBest ({ frames := 3, cells := 0, slots := 0, locals := 63 } : Room) [.ref (q 0), .int (iI k)] (wM q cy nK st le be te ab bl ka bg ln ns me sc pi re bk th co bs gr lo) (wM q cy nK st le (uZ be k (tb (fun v => aZ (te (st k) * 10000 / (le k + v) - gl ab bl sc pi k)))) te ab bl ka bg ln ns me sc pi re bk th co bs gr lo) := by
  refine MV.ofW (cc := cX6_bendBest) (maxL := 6) (ret := none) (by decide) rfl (Nat.le_of_ble_eq_true rfl) ?_
  intro p e s m below meth c A ls X hK hP hD hA hS hl
  obtain ⟨hx, hb, hml, hr, hts, hown, hlocks⟩ := id X
  have hl : lv_has ls 6 [(0, .ref (q 0)), (1, .int (iI k))] := hl
  have f_20 := hts (Cond.fieldLink RX6 20 "TwoKeysModel" "bent" "[I") (by decide +kernel)
  have n_X6 : ∀ w ∈ u_ws RX6 TX6 21, w ∈ wsX6_bendBest := by decide +kernel
  have iK := I.nK
  have i2 := I.pi
  have g9 := gl_b (s := sc) (p := pi) (k := k) I.ab I.bl (by omega) (by omega)
  refine lv_bipush (v := iI (-40)) hx hb dX6_bendBest_0 (by decide) ?_
  refine lv_istore_n (lv' := [(2, .int (iI (-40))), (0, .ref (q 0)), (1, .int (iI k))]) hx hb dX6_bendBest_2 rfl hl (by decide) rfl (fun ls hl => ?_)
  refine lv_iconst (v := iI (0)) hx hb dX6_bendBest_3 rfl ?_
  refine lv_istore_n (lv' := [(3, .int (iI 0)), (2, .int (iI (-40))), (0, .ref (q 0)), (1, .int (iI k))]) hx hb dX6_bendBest_4 rfl hl (by decide) rfl (fun ls hl => ?_)
  refine lv_bipush (v := iI (-40)) hx hb dX6_bendBest_5 (by decide) ?_
  refine lv_istore (lv' := [(4, .int (iI (-40))), (3, .int (iI 0)), (2, .int (iI (-40))), (0, .ref (q 0)), (1, .int (iI k))]) hx hb dX6_bendBest_7 hl (by decide) rfl (fun ls hl => ?_)
  have L_9 : ∀ (n : Nat) (b : Int) (z : Int) (i : Int) (be1 : Int → Int), (h0 : -40 ≤ i ∧ i ≤ 41) → (hf : 41 - i < n) → (ht : i = -40 ∨ (isTB (fun v => aZ (te (st k) * 10000 / (le k + v) - gl ab bl sc pi k)) (-40) (i - 1) b ∧ z = aZ (te (st k) * 10000 / (le k + b) - gl ab bl sc pi k))) → (hb0 : -40 ≤ b ∧ b ≤ 40) → (hz0 : 0 ≤ z ∧ z ≤ 10000000) → (hbe : ∀ j, j ≠ k → be1 j = be j) → (I1 : okS nK st le be1 te ab bl ka bg ln ns me sc pi re bk) → ∀ (H : Heap) (locs : List Loc) (ls : Array Slot), va_P D vwCl (wM q cy nK st le be1 te ab bl ka bg ln ns me sc pi re bk th co bs gr lo) H → va_D A (wM q cy nK st le be1 te ab bl ka bg ln ns me sc pi re bk th co bs gr lo) → va_S A s.heap H locs → lv_has ls 6 [(4, .int (iI i)), (3, .int (iI z)), (2, .int (iI b)), (0, .ref (q 0)), (1, .int (iI k))] → W p l e ({ frames := 3, cells := 0, slots := 0, locals := 63 } : Room) s m [.ref (q 0), .int (iI k)].toArray below meth c H locs 0 0 (MQ below (zQv D cy (wM q cy nK st le (uZ be k (tb (fun v => aZ (te (st k) * 10000 / (le k + v) - gl ab bl sc pi k)))) te ab bl ka bg ln ns me sc pi re bk th co bs gr lo) A) [.ref (q 0), .int (iI k)].toArray s 0 0 A) (F0 m 9 ls []) := by
    intro n
    induction n with
    | zero =>
      intro b z i be1 h0 hf ht hb0 hz0 hbe I1
      exfalso; omega
    | succ n ih_9 =>
      intro b z i be1 h0 hf ht hb0 hz0 hbe I1 H locs ls hP hD hS hl
      refine lv_iload hx hb dX6_bendBest_9 (lv_at hl 0 rfl) ?_
      refine lv_bipush (v := iI (40)) hx hb dX6_bendBest_11 (by decide) ?_
      refine z_icmp_gt (tgt := 77) hx hb dX6_bendBest_13 (by decide) (by omega) (fun c_1 => ?_) (fun c_1 => ?_)
      · refine lv_aload_n hx hb dX6_bendBest_77 rfl (lv_at hl 3 rfl) ?_
        refine va_get (D := D) (ci := 6) (v := .ref (q 3)) (C := RX6) (T := TX6) (N := 21) hx hb hts n_X6 hown hK hP 0 rfl rfl 4 (by decide) f_20 (fun _ h9 => h9) rfl dX6_bendBest_78 ?_
        refine lv_iload_n hx hb dX6_bendBest_81 rfl (lv_at hl 4 rfl) ?_
        refine lv_iload_n hx hb dX6_bendBest_82 rfl (lv_at hl 2 rfl) ?_
        refine z_iast (v := b) hx hb hK hP hD hS 3 0 rfl rfl (by omega) dX6_bendBest_83 (fun H locs hP hD hS => ?_)
        have hP : va_P D vwCl (wM q cy nK st le (uZ be1 k b) te ab bl ka bg ln ns me sc pi re bk th co bs gr lo) H := hP
        have hD : va_D A (wM q cy nK st le (uZ be1 k b) te ab bl ka bg ln ns me sc pi re bk th co bs gr lo) := hD
        have hw9 : wM q cy nK st le (uZ be1 k b) te ab bl ka bg ln ns me sc pi re bk th co bs gr lo = wM q cy nK st le (uZ be k (tb (fun v => aZ (te (st k) * 10000 / (le k + v) - gl ab bl sc pi k)))) te ab bl ka bg ln ns me sc pi re bk th co bs gr lo := by rcases ht with q | q; (exfalso; omega); rw [show i = 41 by omega] at q; rw [tb_eq (f := fun v => aZ (te (st k) * 10000 / (le k + v) - gl ab bl sc pi k)) q.1, uZ_ext hbe]
        rw [hw9] at hP hD
        exact z_vret X hK hP hD hS dX6_bendBest_84
      · refine lv_aload_n hx hb dX6_bendBest_16 rfl (lv_at hl 3 rfl) ?_
        refine va_get (D := D) (ci := 6) (v := .ref (q 3)) (C := RX6) (T := TX6) (N := 21) hx hb hts n_X6 hown hK hP 0 rfl rfl 4 (by decide) f_20 (fun _ h9 => h9) rfl dX6_bendBest_17 ?_
        refine lv_iload_n hx hb dX6_bendBest_20 rfl (lv_at hl 4 rfl) ?_
        refine lv_iload hx hb dX6_bendBest_21 (lv_at hl 0 rfl) ?_
        refine z_iast (v := i) hx hb hK hP hD hS 3 0 rfl rfl (by omega) dX6_bendBest_23 (fun H locs hP hD hS => ?_)
        have hP : va_P D vwCl (wM q cy nK st le (uZ be1 k i) te ab bl ka bg ln ns me sc pi re bk th co bs gr lo) H := hP
        have hD : va_D A (wM q cy nK st le (uZ be1 k i) te ab bl ka bg ln ns me sc pi re bk th co bs gr lo) := hD
        refine lv_aload_n hx hb dX6_bendBest_24 rfl (lv_at hl 3 rfl) ?_
        refine lv_iload_n hx hb dX6_bendBest_25 rfl (lv_at hl 4 rfl) ?_
        have I2 := okS_be1 (k := k) (v := i) I1 (by omega)
        refine z_callVi (ci := 6) (q0 := 0) (As := [.int (iI k)]) (rest := []) X hK hP hD hA hS hl.1 gX6_bendBest_X6_errorOf rfl ⟨rfl, rfl⟩ hd_X6_errorOf ⟨Nat.le_of_ble_eq_true rfl, Nat.le_of_ble_eq_true rfl⟩ rfl rfl rfl (Nat.le_of_ble_eq_true rfl) ⟨Nat.zero_le _, Nat.zero_le _⟩ rfl dX6_bendBest_26 (c_X6_errorOf I2 k (by omega)) (fun H locs hP hD hS => ?_)
        have e9 : er st le (uZ be1 k i) te ab bl sc pi k = te (st k) * 10000 / (le k + i) - gl ab bl sc pi k := by show te (st k) * 10000 / (le k + uZ be1 k i k) - gl ab bl sc pi k = _; rw [uZ_same]
        have t2 := tn_b (st := st) (k := k) (b := i) I.le I.te (by omega)
        rw [e9]
        refine z_callSi (As := [.int (iI (te (st k) * 10000 / (le k + i) - gl ab bl sc pi k))]) (rest := []) X hK hP hD hA hS hl.1 gX6_bendBest_X6_size rfl ⟨rfl, rfl⟩ hd_X6_size ⟨Nat.le_of_ble_eq_true rfl, Nat.le_of_ble_eq_true rfl⟩ rfl (Nat.le_of_ble_eq_true rfl) ⟨Nat.zero_le _, Nat.zero_le _⟩ rfl dX6_bendBest_29 (c_X6_size (te (st k) * 10000 / (le k + i) - gl ab bl sc pi k) (by omega)) (fun H locs hP hD hS => ?_)
        have u2 := aZ_b (te (st k) * 10000 / (le k + i) - gl ab bl sc pi k)
        refine lv_istore (lv' := [(5, .int (iI (aZ (te (st k) * 10000 / (le k + i) - gl ab bl sc pi k)))), (4, .int (iI i)), (3, .int (iI z)), (2, .int (iI b)), (0, .ref (q 0)), (1, .int (iI k))]) hx hb dX6_bendBest_32 hl (by decide) rfl (fun ls hl => ?_)
        refine lv_iload hx hb dX6_bendBest_34 (lv_at hl 1 rfl) ?_
        refine lv_bipush (v := iI (-40)) hx hb dX6_bendBest_36 (by decide) ?_
        refine z_icmp_eq (tgt := 65) hx hb dX6_bendBest_38 (by decide) (by omega) (fun c_2 => ?_) (fun c_2 => ?_)
        · refine lv_iload hx hb dX6_bendBest_65 (lv_at hl 1 rfl) ?_
          refine lv_istore_n (lv' := [(2, .int (iI i)), (5, .int (iI (aZ (te (st k) * 10000 / (le k + i) - gl ab bl sc pi k)))), (4, .int (iI i)), (3, .int (iI z)), (0, .ref (q 0)), (1, .int (iI k))]) hx hb dX6_bendBest_67 rfl hl (by decide) rfl (fun ls hl => ?_)
          refine lv_iload hx hb dX6_bendBest_68 (lv_at hl 1 rfl) ?_
          refine lv_istore_n (lv' := [(3, .int (iI (aZ (te (st k) * 10000 / (le k + i) - gl ab bl sc pi k)))), (2, .int (iI i)), (5, .int (iI (aZ (te (st k) * 10000 / (le k + i) - gl ab bl sc pi k)))), (4, .int (iI i)), (0, .ref (q 0)), (1, .int (iI k))]) hx hb dX6_bendBest_70 rfl hl (by decide) rfl (fun ls hl => ?_)
          refine lv_iinc (v := iI (i + 1)) (lv' := [(4, .int (iI (i + 1))), (3, .int (iI (aZ (te (st k) * 10000 / (le k + i) - gl ab bl sc pi k)))), (2, .int (iI i)), (5, .int (iI (aZ (te (st k) * 10000 / (le k + i) - gl ab bl sc pi k)))), (0, .ref (q 0)), (1, .int (iI k))]) hx hb dX6_bendBest_71 hl (k := 3) rfl (iI_add _ _) (by decide) rfl (fun ls hl => ?_)
          refine lv_goto (tgt := 9) hx hb dX6_bendBest_74 (by decide) ?_
          exact ih_9 i (aZ (te (st k) * 10000 / (le k + i) - gl ab bl sc pi k)) (i + 1) (uZ be1 k i) (by omega) (by omega) (by first | exact tm_a (f := fun v => aZ (te (st k) * 10000 / (le k + v) - gl ab bl sc pi k)) ht (by omega) | exact tm_b (f := fun v => aZ (te (st k) * 10000 / (le k + v) - gl ab bl sc pi k)) ht (by omega) (by show aZ (te (st k) * 10000 / (le k + i) - gl ab bl sc pi k) < z ∨ (aZ (te (st k) * 10000 / (le k + i) - gl ab bl sc pi k) = z ∧ _); omega) | exact tm_c (f := fun v => aZ (te (st k) * 10000 / (le k + v) - gl ab bl sc pi k)) ht (by omega) (by show z < aZ (te (st k) * 10000 / (le k + i) - gl ab bl sc pi k) ∨ (aZ (te (st k) * 10000 / (le k + i) - gl ab bl sc pi k) = z ∧ _); omega)) (by omega) (by omega) (fun j hj => by rw [uZ_other hj]; exact hbe j hj) I2 _ _ _ hP hD hS (lv_sub hl [0, 1, 2, 4, 5] rfl)
        · refine lv_iload hx hb dX6_bendBest_41 (lv_at hl 0 rfl) ?_
          refine lv_iload_n hx hb dX6_bendBest_43 rfl (lv_at hl 2 rfl) ?_
          refine z_icmp_lt (tgt := 65) hx hb dX6_bendBest_44 (by decide) (by omega) (fun c_3 => ?_) (fun c_3 => ?_)
          · refine lv_iload hx hb dX6_bendBest_65 (lv_at hl 1 rfl) ?_
            refine lv_istore_n (lv' := [(2, .int (iI i)), (5, .int (iI (aZ (te (st k) * 10000 / (le k + i) - gl ab bl sc pi k)))), (4, .int (iI i)), (3, .int (iI z)), (0, .ref (q 0)), (1, .int (iI k))]) hx hb dX6_bendBest_67 rfl hl (by decide) rfl (fun ls hl => ?_)
            refine lv_iload hx hb dX6_bendBest_68 (lv_at hl 1 rfl) ?_
            refine lv_istore_n (lv' := [(3, .int (iI (aZ (te (st k) * 10000 / (le k + i) - gl ab bl sc pi k)))), (2, .int (iI i)), (5, .int (iI (aZ (te (st k) * 10000 / (le k + i) - gl ab bl sc pi k)))), (4, .int (iI i)), (0, .ref (q 0)), (1, .int (iI k))]) hx hb dX6_bendBest_70 rfl hl (by decide) rfl (fun ls hl => ?_)
            refine lv_iinc (v := iI (i + 1)) (lv' := [(4, .int (iI (i + 1))), (3, .int (iI (aZ (te (st k) * 10000 / (le k + i) - gl ab bl sc pi k)))), (2, .int (iI i)), (5, .int (iI (aZ (te (st k) * 10000 / (le k + i) - gl ab bl sc pi k)))), (0, .ref (q 0)), (1, .int (iI k))]) hx hb dX6_bendBest_71 hl (k := 3) rfl (iI_add _ _) (by decide) rfl (fun ls hl => ?_)
            refine lv_goto (tgt := 9) hx hb dX6_bendBest_74 (by decide) ?_
            exact ih_9 i (aZ (te (st k) * 10000 / (le k + i) - gl ab bl sc pi k)) (i + 1) (uZ be1 k i) (by omega) (by omega) (by first | exact tm_a (f := fun v => aZ (te (st k) * 10000 / (le k + v) - gl ab bl sc pi k)) ht (by omega) | exact tm_b (f := fun v => aZ (te (st k) * 10000 / (le k + v) - gl ab bl sc pi k)) ht (by omega) (by show aZ (te (st k) * 10000 / (le k + i) - gl ab bl sc pi k) < z ∨ (aZ (te (st k) * 10000 / (le k + i) - gl ab bl sc pi k) = z ∧ _); omega) | exact tm_c (f := fun v => aZ (te (st k) * 10000 / (le k + v) - gl ab bl sc pi k)) ht (by omega) (by show z < aZ (te (st k) * 10000 / (le k + i) - gl ab bl sc pi k) ∨ (aZ (te (st k) * 10000 / (le k + i) - gl ab bl sc pi k) = z ∧ _); omega)) (by omega) (by omega) (fun j hj => by rw [uZ_other hj]; exact hbe j hj) I2 _ _ _ hP hD hS (lv_sub hl [0, 1, 2, 4, 5] rfl)
          · refine lv_iload hx hb dX6_bendBest_47 (lv_at hl 0 rfl) ?_
            refine lv_iload_n hx hb dX6_bendBest_49 rfl (lv_at hl 2 rfl) ?_
            refine z_icmp_ne (tgt := 71) hx hb dX6_bendBest_50 (by decide) (by omega) (fun c_4 => ?_) (fun c_4 => ?_)
            · refine lv_iinc (v := iI (i + 1)) (lv' := [(4, .int (iI (i + 1))), (5, .int (iI (aZ (te (st k) * 10000 / (le k + i) - gl ab bl sc pi k)))), (3, .int (iI z)), (2, .int (iI b)), (0, .ref (q 0)), (1, .int (iI k))]) hx hb dX6_bendBest_71 hl (k := 1) rfl (iI_add _ _) (by decide) rfl (fun ls hl => ?_)
              refine lv_goto (tgt := 9) hx hb dX6_bendBest_74 (by decide) ?_
              exact ih_9 b z (i + 1) (uZ be1 k i) (by omega) (by omega) (by first | exact tm_a (f := fun v => aZ (te (st k) * 10000 / (le k + v) - gl ab bl sc pi k)) ht (by omega) | exact tm_b (f := fun v => aZ (te (st k) * 10000 / (le k + v) - gl ab bl sc pi k)) ht (by omega) (by show aZ (te (st k) * 10000 / (le k + i) - gl ab bl sc pi k) < z ∨ (aZ (te (st k) * 10000 / (le k + i) - gl ab bl sc pi k) = z ∧ _); omega) | exact tm_c (f := fun v => aZ (te (st k) * 10000 / (le k + v) - gl ab bl sc pi k)) ht (by omega) (by show z < aZ (te (st k) * 10000 / (le k + i) - gl ab bl sc pi k) ∨ (aZ (te (st k) * 10000 / (le k + i) - gl ab bl sc pi k) = z ∧ _); omega)) (by omega) (by omega) (fun j hj => by rw [uZ_other hj]; exact hbe j hj) I2 _ _ _ hP hD hS (lv_sub hl [0, 2, 3, 4, 5] rfl)
            · have u3 := aZ_b i
              have u4 := aZ_b b
              refine lv_iload hx hb dX6_bendBest_53 (lv_at hl 1 rfl) ?_
              refine z_callSi (As := [.int (iI i)]) (rest := []) X hK hP hD hA hS hl.1 gX6_bendBest_X6_size rfl ⟨rfl, rfl⟩ hd_X6_size ⟨Nat.le_of_ble_eq_true rfl, Nat.le_of_ble_eq_true rfl⟩ rfl (Nat.le_of_ble_eq_true rfl) ⟨Nat.zero_le _, Nat.zero_le _⟩ rfl dX6_bendBest_55 (c_X6_size i (by omega)) (fun H locs hP hD hS => ?_)
              refine lv_iload_n hx hb dX6_bendBest_58 rfl (lv_at hl 3 rfl) ?_
              refine z_callSi (As := [.int (iI b)]) (rest := [.int (iI (aZ i))]) X hK hP hD hA hS hl.1 gX6_bendBest_X6_size rfl ⟨rfl, rfl⟩ hd_X6_size ⟨Nat.le_of_ble_eq_true rfl, Nat.le_of_ble_eq_true rfl⟩ rfl (Nat.le_of_ble_eq_true rfl) ⟨Nat.zero_le _, Nat.zero_le _⟩ rfl dX6_bendBest_59 (c_X6_size b (by omega)) (fun H locs hP hD hS => ?_)
              refine z_icmp_ge (tgt := 71) hx hb dX6_bendBest_62 (by decide) (by omega) (fun c_5 => ?_) (fun c_5 => ?_)
              · refine lv_iinc (v := iI (i + 1)) (lv' := [(4, .int (iI (i + 1))), (5, .int (iI (aZ (te (st k) * 10000 / (le k + i) - gl ab bl sc pi k)))), (3, .int (iI z)), (2, .int (iI b)), (0, .ref (q 0)), (1, .int (iI k))]) hx hb dX6_bendBest_71 hl (k := 1) rfl (iI_add _ _) (by decide) rfl (fun ls hl => ?_)
                refine lv_goto (tgt := 9) hx hb dX6_bendBest_74 (by decide) ?_
                exact ih_9 b z (i + 1) (uZ be1 k i) (by omega) (by omega) (by first | exact tm_a (f := fun v => aZ (te (st k) * 10000 / (le k + v) - gl ab bl sc pi k)) ht (by omega) | exact tm_b (f := fun v => aZ (te (st k) * 10000 / (le k + v) - gl ab bl sc pi k)) ht (by omega) (by show aZ (te (st k) * 10000 / (le k + i) - gl ab bl sc pi k) < z ∨ (aZ (te (st k) * 10000 / (le k + i) - gl ab bl sc pi k) = z ∧ _); omega) | exact tm_c (f := fun v => aZ (te (st k) * 10000 / (le k + v) - gl ab bl sc pi k)) ht (by omega) (by show z < aZ (te (st k) * 10000 / (le k + i) - gl ab bl sc pi k) ∨ (aZ (te (st k) * 10000 / (le k + i) - gl ab bl sc pi k) = z ∧ _); omega)) (by omega) (by omega) (fun j hj => by rw [uZ_other hj]; exact hbe j hj) I2 _ _ _ hP hD hS (lv_sub hl [0, 2, 3, 4, 5] rfl)
              · refine lv_iload hx hb dX6_bendBest_65 (lv_at hl 1 rfl) ?_
                refine lv_istore_n (lv' := [(2, .int (iI i)), (5, .int (iI (aZ (te (st k) * 10000 / (le k + i) - gl ab bl sc pi k)))), (4, .int (iI i)), (3, .int (iI z)), (0, .ref (q 0)), (1, .int (iI k))]) hx hb dX6_bendBest_67 rfl hl (by decide) rfl (fun ls hl => ?_)
                refine lv_iload hx hb dX6_bendBest_68 (lv_at hl 1 rfl) ?_
                refine lv_istore_n (lv' := [(3, .int (iI (aZ (te (st k) * 10000 / (le k + i) - gl ab bl sc pi k)))), (2, .int (iI i)), (5, .int (iI (aZ (te (st k) * 10000 / (le k + i) - gl ab bl sc pi k)))), (4, .int (iI i)), (0, .ref (q 0)), (1, .int (iI k))]) hx hb dX6_bendBest_70 rfl hl (by decide) rfl (fun ls hl => ?_)
                refine lv_iinc (v := iI (i + 1)) (lv' := [(4, .int (iI (i + 1))), (3, .int (iI (aZ (te (st k) * 10000 / (le k + i) - gl ab bl sc pi k)))), (2, .int (iI i)), (5, .int (iI (aZ (te (st k) * 10000 / (le k + i) - gl ab bl sc pi k)))), (0, .ref (q 0)), (1, .int (iI k))]) hx hb dX6_bendBest_71 hl (k := 3) rfl (iI_add _ _) (by decide) rfl (fun ls hl => ?_)
                refine lv_goto (tgt := 9) hx hb dX6_bendBest_74 (by decide) ?_
                exact ih_9 i (aZ (te (st k) * 10000 / (le k + i) - gl ab bl sc pi k)) (i + 1) (uZ be1 k i) (by omega) (by omega) (by first | exact tm_a (f := fun v => aZ (te (st k) * 10000 / (le k + v) - gl ab bl sc pi k)) ht (by omega) | exact tm_b (f := fun v => aZ (te (st k) * 10000 / (le k + v) - gl ab bl sc pi k)) ht (by omega) (by show aZ (te (st k) * 10000 / (le k + i) - gl ab bl sc pi k) < z ∨ (aZ (te (st k) * 10000 / (le k + i) - gl ab bl sc pi k) = z ∧ _); omega) | exact tm_c (f := fun v => aZ (te (st k) * 10000 / (le k + v) - gl ab bl sc pi k)) ht (by omega) (by show z < aZ (te (st k) * 10000 / (le k + i) - gl ab bl sc pi k) ∨ (aZ (te (st k) * 10000 / (le k + i) - gl ab bl sc pi k) = z ∧ _); omega)) (by omega) (by omega) (fun j hj => by rw [uZ_other hj]; exact hbe j hj) I2 _ _ _ hP hD hS (lv_sub hl [0, 1, 2, 4, 5] rfl)
  exact L_9 82 (-40) 0 (-40) be (by omega) (by omega) (Or.inl rfl) (by omega) (by omega) (fun j _ => rfl) I _ _ _ hP hD hS (lv_sub hl [0, 1, 2, 3, 4] rfl)

theorem hd_X6_tune : yX6_tune.cls = RX6 ∧ yX6_tune.cls ≠ "java/lang/invoke/MethodHandle" ∧ yX6_tune.cls ≠ "java/lang/invoke/VarHandle" ∧ (parseMethodDescriptor yX6_tune.desc).map (fun d => d.parameters.length) = some 1 := by decide +kernel
set_option maxHeartbeats 4000000 in
set_option maxRecDepth 100000 in
theorem c_X6_tune_ok (I : okS nK st le be te ab bl ka bg ln ns me sc pi re bk) (k : Int) (h : -2147483648 ≤ k ∧ k ≤ 2147483647) (hok : 0 ≤ k ∧ k < nK) : MI l D cy yX6_tune wsX6_tune ({ frames := 4, cells := 0, slots := 0, locals := 88 } : Room) [.ref (q 0), .int (iI k)] (wM q cy nK st le be te ab bl ka bg ln ns me sc pi re bk th co bs gr lo) (er st le (uZ be k (tb (fun v => aZ (te (st k) * 10000 / (le k + v) - gl ab bl sc pi k)))) te ab bl sc pi k) (wM q cy nK st le (uZ be k (tb (fun v => aZ (te (st k) * 10000 / (le k + v) - gl ab bl sc pi k)))) te ab bl ka bg ln ns me sc pi re bk 0 co bs gr lo) := by
  refine MI.ofW (cc := cX6_tune) (maxL := 2) (ret := (some .int)) (by decide) rfl (Nat.le_of_ble_eq_true rfl) ?_
  intro p e s m below meth c A ls X hK hP hD hA hS hl
  obtain ⟨hx, hb, hml, hr, hts, hown, hlocks⟩ := id X
  have hl : lv_has ls 2 [(0, .ref (q 0)), (1, .int (iI k))] := hl
  have f_63 := hts (Cond.fieldLink RX6 63 "TwoKeysModel" "thrown" "I") (by decide +kernel)
  have n_X6 : ∀ w ∈ u_ws RX6 TX6 21, w ∈ wsX6_tune := by decide +kernel
  have iK := I.nK
  refine lv_aload_n hx hb dX6_tune_0 rfl (lv_at hl 0 rfl) ?_
  refine lv_iconst (v := iI (0)) hx hb dX6_tune_1 rfl ?_
  refine va_put (D := D) (ci := 6) (v := .int (iI 0)) (ty := .int) (C := RX6) (T := TX6) (N := 21) hx hb hts n_X6 tyX6 tyX6_ok nmX6 hown hK hP hD hS 0 rfl rfl 0 (by decide) f_63 (fun _ h9 => h9) rfl (by decide +kernel) rfl rfl (Nat.le_of_ble_eq_true rfl) dX6_tune_2 (fun H locs hP hD hS => ?_)
  have hP : va_P D vwCl (wM q cy nK st le be te ab bl ka bg ln ns me sc pi re bk 0 co bs gr lo) H := hP
  have hD : va_D A (wM q cy nK st le be te ab bl ka bg ln ns me sc pi re bk 0 co bs gr lo) := hD
  refine lv_aload_n hx hb dX6_tune_5 rfl (lv_at hl 0 rfl) ?_
  refine lv_iload_n hx hb dX6_tune_6 rfl (lv_at hl 1 rfl) ?_
  refine z_callVi (ci := 6) (q0 := 0) (As := [.int (iI k)]) (rest := []) X hK hP hD hA hS hl.1 gX6_tune_X6_noKey rfl ⟨rfl, rfl⟩ hd_X6_noKey ⟨Nat.le_of_ble_eq_true rfl, Nat.le_of_ble_eq_true rfl⟩ rfl rfl rfl (Nat.le_of_ble_eq_true rfl) ⟨Nat.zero_le _, Nat.zero_le _⟩ rfl dX6_tune_7 (c_X6_noKey I k (by omega)) (fun H locs hP hD hS => ?_)
  refine z_ifp_eq (tgt := 16) hx hb dX6_tune_10 (by decide) (fun c_1 => ?_) (fun c_1 => ?_)
  · refine lv_aload_n hx hb dX6_tune_16 rfl (lv_at hl 0 rfl) ?_
    refine lv_iload_n hx hb dX6_tune_17 rfl (lv_at hl 1 rfl) ?_
    refine z_callVv (ci := 6) (q0 := 0) (As := [.int (iI k)]) (rest := []) X hK hP hD hA hS hl.1 gX6_tune_X6_bendBest rfl ⟨rfl, rfl⟩ hd_X6_bendBest ⟨Nat.le_of_ble_eq_true rfl, Nat.le_of_ble_eq_true rfl⟩ rfl rfl rfl (Nat.le_of_ble_eq_true rfl) ⟨Nat.zero_le _, Nat.zero_le _⟩ rfl dX6_tune_18 (c_X6_bendBest I k (by omega)) (fun H locs hP hD hS => ?_)
    have b9 := tb_is (fun v => aZ (te (st k) * 10000 / (le k + v) - gl ab bl sc pi k))
    have I2 := okS_be1 (k := k) (v := tb (fun v => aZ (te (st k) * 10000 / (le k + v) - gl ab bl sc pi k))) I ⟨b9.1, b9.2.1⟩
    refine lv_aload_n hx hb dX6_tune_21 rfl (lv_at hl 0 rfl) ?_
    refine lv_iload_n hx hb dX6_tune_22 rfl (lv_at hl 1 rfl) ?_
    refine z_callVi (ci := 6) (q0 := 0) (As := [.int (iI k)]) (rest := []) X hK hP hD hA hS hl.1 gX6_tune_X6_errorOf rfl ⟨rfl, rfl⟩ hd_X6_errorOf ⟨Nat.le_of_ble_eq_true rfl, Nat.le_of_ble_eq_true rfl⟩ rfl rfl rfl (Nat.le_of_ble_eq_true rfl) ⟨Nat.zero_le _, Nat.zero_le _⟩ rfl dX6_tune_23 (c_X6_errorOf I2 k (by omega)) (fun H locs hP hD hS => ?_)
    exact z_iret X hK hP hD hS dX6_tune_26 (by first | rfl | omega | grind)
  · exact absurd c_1 (by omega)

set_option maxHeartbeats 4000000 in
set_option maxRecDepth 100000 in
theorem c_X6_tune_no (I : okS nK st le be te ab bl ka bg ln ns me sc pi re bk) (k : Int) (h : -2147483648 ≤ k ∧ k ≤ 2147483647) (hno : ¬ (0 ≤ k ∧ k < nK)) : MI l D cy yX6_tune wsX6_tune ({ frames := 2, cells := 0, slots := 0, locals := 46 } : Room) [.ref (q 0), .int (iI k)] (wM q cy nK st le be te ab bl ka bg ln ns me sc pi re bk th co bs gr lo) (-100001) (wM q cy nK st le be te ab bl ka bg ln ns me sc pi re bk 0 co bs gr lo) := by
  refine MI.ofW (cc := cX6_tune) (maxL := 2) (ret := (some .int)) (by decide) rfl (Nat.le_of_ble_eq_true rfl) ?_
  intro p e s m below meth c A ls X hK hP hD hA hS hl
  obtain ⟨hx, hb, hml, hr, hts, hown, hlocks⟩ := id X
  have hl : lv_has ls 2 [(0, .ref (q 0)), (1, .int (iI k))] := hl
  have f_63 := hts (Cond.fieldLink RX6 63 "TwoKeysModel" "thrown" "I") (by decide +kernel)
  have k_86 := hts (Cond.constant RX6 86 (-100001)) (by decide +kernel)
  have n_X6 : ∀ w ∈ u_ws RX6 TX6 21, w ∈ wsX6_tune := by decide +kernel
  have iK := I.nK
  refine lv_aload_n hx hb dX6_tune_0 rfl (lv_at hl 0 rfl) ?_
  refine lv_iconst (v := iI (0)) hx hb dX6_tune_1 rfl ?_
  refine va_put (D := D) (ci := 6) (v := .int (iI 0)) (ty := .int) (C := RX6) (T := TX6) (N := 21) hx hb hts n_X6 tyX6 tyX6_ok nmX6 hown hK hP hD hS 0 rfl rfl 0 (by decide) f_63 (fun _ h9 => h9) rfl (by decide +kernel) rfl rfl (Nat.le_of_ble_eq_true rfl) dX6_tune_2 (fun H locs hP hD hS => ?_)
  have hP : va_P D vwCl (wM q cy nK st le be te ab bl ka bg ln ns me sc pi re bk 0 co bs gr lo) H := hP
  have hD : va_D A (wM q cy nK st le be te ab bl ka bg ln ns me sc pi re bk 0 co bs gr lo) := hD
  refine lv_aload_n hx hb dX6_tune_5 rfl (lv_at hl 0 rfl) ?_
  refine lv_iload_n hx hb dX6_tune_6 rfl (lv_at hl 1 rfl) ?_
  refine z_callVi (ci := 6) (q0 := 0) (As := [.int (iI k)]) (rest := []) X hK hP hD hA hS hl.1 gX6_tune_X6_noKey rfl ⟨rfl, rfl⟩ hd_X6_noKey ⟨Nat.le_of_ble_eq_true rfl, Nat.le_of_ble_eq_true rfl⟩ rfl rfl rfl (Nat.le_of_ble_eq_true rfl) ⟨Nat.zero_le _, Nat.zero_le _⟩ rfl dX6_tune_7 (c_X6_noKey I k (by omega)) (fun H locs hP hD hS => ?_)
  refine z_ifp_eq (tgt := 16) hx hb dX6_tune_10 (by decide) (fun c_1 => ?_) (fun c_1 => ?_)
  · exact absurd c_1 (by omega)
  · refine z_ldc (n := -100001) hx hb hown k_86 (by decide) dX6_tune_13 ?_
    exact z_iret X hK hP hD hS dX6_tune_15 (by first | rfl | omega | grind)

theorem hd_X6_tuneAll : yX6_tuneAll.cls = RX6 ∧ yX6_tuneAll.cls ≠ "java/lang/invoke/MethodHandle" ∧ yX6_tuneAll.cls ≠ "java/lang/invoke/VarHandle" ∧ (parseMethodDescriptor yX6_tuneAll.desc).map (fun d => d.parameters.length) = some 0 := by decide +kernel
set_option maxHeartbeats 4000000 in
set_option maxRecDepth 100000 in
theorem c_X6_tuneAll (I : okS nK st le be te ab bl ka bg ln ns me sc pi re bk)   : MI l D cy yX6_tuneAll wsX6_tuneAll ({ frames := 4, cells := 0, slots := 0, locals := 88 } : Room) [.ref (q 0)] (wM q cy nK st le be te ab bl ka bg ln ns me sc pi re bk th co bs gr lo) (sZ (fun k => aZ (er st le (tuB st le te ab bl sc pi be nK) te ab bl sc pi k)) 0 nK) (wM q cy nK st le (tuB st le te ab bl sc pi be nK) te ab bl ka bg ln ns me sc pi re bk 0 co bs gr lo) := by
  refine MI.ofW (cc := cX6_tuneAll) (maxL := 2) (ret := (some .int)) (by decide) rfl (Nat.le_of_ble_eq_true rfl) ?_
  intro p e s m below meth c A ls X hK hP hD hA hS hl
  obtain ⟨hx, hb, hml, hr, hts, hown, hlocks⟩ := id X
  have hl : lv_has ls 2 [(0, .ref (q 0))] := hl
  have f_63 := hts (Cond.fieldLink RX6 63 "TwoKeysModel" "thrown" "I") (by decide +kernel)
  have f_7 := hts (Cond.fieldLink RX6 7 "TwoKeysModel" "keys" "I") (by decide +kernel)
  have n_X6 : ∀ w ∈ u_ws RX6 TX6 21, w ∈ wsX6_tuneAll := by decide +kernel
  have iK := I.nK
  refine lv_aload_n hx hb dX6_tuneAll_0 rfl (lv_at hl 0 rfl) ?_
  refine lv_iconst (v := iI (0)) hx hb dX6_tuneAll_1 rfl ?_
  refine va_put (D := D) (ci := 6) (v := .int (iI 0)) (ty := .int) (C := RX6) (T := TX6) (N := 21) hx hb hts n_X6 tyX6 tyX6_ok nmX6 hown hK hP hD hS 0 rfl rfl 0 (by decide) f_63 (fun _ h9 => h9) rfl (by decide +kernel) rfl rfl (Nat.le_of_ble_eq_true rfl) dX6_tuneAll_2 (fun H locs hP hD hS => ?_)
  have hP : va_P D vwCl (wM q cy nK st le be te ab bl ka bg ln ns me sc pi re bk 0 co bs gr lo) H := hP
  have hD : va_D A (wM q cy nK st le be te ab bl ka bg ln ns me sc pi re bk 0 co bs gr lo) := hD
  refine lv_iconst (v := iI (0)) hx hb dX6_tuneAll_5 rfl ?_
  refine lv_istore_n (lv' := [(1, .int (iI 0)), (0, .ref (q 0))]) hx hb dX6_tuneAll_6 rfl hl (by decide) rfl (fun ls hl => ?_)
  have L_7 : ∀ (n : Nat) (i : Int) (be1 : Int → Int), (h0 : 0 ≤ i ∧ i ≤ nK) → (hf : nK - i < n) → (hbe : be1 = tuB st le te ab bl sc pi be i) → ∀ (H : Heap) (locs : List Loc) (ls : Array Slot), va_P D vwCl (wM q cy nK st le be1 te ab bl ka bg ln ns me sc pi re bk 0 co bs gr lo) H → va_D A (wM q cy nK st le be1 te ab bl ka bg ln ns me sc pi re bk 0 co bs gr lo) → va_S A s.heap H locs → lv_has ls 2 [(1, .int (iI i)), (0, .ref (q 0))] → W p l e ({ frames := 4, cells := 0, slots := 0, locals := 88 } : Room) s m [.ref (q 0)].toArray below meth c H locs 0 0 (MQ below (zQi D cy (wM q cy nK st le (tuB st le te ab bl sc pi be nK) te ab bl ka bg ln ns me sc pi re bk 0 co bs gr lo) A (sZ (fun k => aZ (er st le (tuB st le te ab bl sc pi be nK) te ab bl sc pi k)) 0 nK)) [.ref (q 0)].toArray s 0 0 A) (F0 m 7 ls []) := by
    intro n
    induction n with
    | zero =>
      intro i be1 h0 hf hbe
      exfalso; omega
    | succ n ih_7 =>
      intro i be1 h0 hf hbe H locs ls hP hD hS hl
      have I1 : okS nK st le be1 te ab bl ka bg ln ns me sc pi re bk := by rw [hbe]; exact okS_tu I
      refine lv_iload_n hx hb dX6_tuneAll_7 rfl (lv_at hl 0 rfl) ?_
      refine lv_aload_n hx hb dX6_tuneAll_8 rfl (lv_at hl 1 rfl) ?_
      refine va_get (D := D) (ci := 6) (v := .int (iI nK)) (C := RX6) (T := TX6) (N := 21) hx hb hts n_X6 hown hK hP 0 rfl rfl 1 (by decide) f_7 (fun _ h9 => h9) rfl dX6_tuneAll_9 ?_
      refine z_icmp_ge (tgt := 26) hx hb dX6_tuneAll_12 (by decide) (by omega) (fun c_1 => ?_) (fun c_1 => ?_)
      · refine lv_aload_n hx hb dX6_tuneAll_26 rfl (lv_at hl 1 rfl) ?_
        refine z_callVi (ci := 6) (q0 := 0) (As := []) (rest := []) X hK hP hD hA hS hl.1 gX6_tuneAll_X6_allWrong rfl ⟨rfl, rfl⟩ hd_X6_allWrong ⟨Nat.le_of_ble_eq_true rfl, Nat.le_of_ble_eq_true rfl⟩ rfl rfl rfl (Nat.le_of_ble_eq_true rfl) ⟨Nat.zero_le _, Nat.zero_le _⟩ rfl dX6_tuneAll_27 (c_X6_allWrong I1) (fun H locs hP hD hS => ?_)
        have hw9 : wM q cy nK st le be1 te ab bl ka bg ln ns me sc pi re bk 0 co bs gr lo = wM q cy nK st le (tuB st le te ab bl sc pi be nK) te ab bl ka bg ln ns me sc pi re bk 0 co bs gr lo := by rw [hbe, show i = nK by omega]
        rw [hw9] at hP hD
        exact z_iret X hK hP hD hS dX6_tuneAll_30 (by rw [hbe, show i = nK by omega])
      · refine lv_aload_n hx hb dX6_tuneAll_15 rfl (lv_at hl 1 rfl) ?_
        refine lv_iload_n hx hb dX6_tuneAll_16 rfl (lv_at hl 0 rfl) ?_
        refine z_callVv (ci := 6) (q0 := 0) (As := [.int (iI i)]) (rest := []) X hK hP hD hA hS hl.1 gX6_tuneAll_X6_bendBest rfl ⟨rfl, rfl⟩ hd_X6_bendBest ⟨Nat.le_of_ble_eq_true rfl, Nat.le_of_ble_eq_true rfl⟩ rfl rfl rfl (Nat.le_of_ble_eq_true rfl) ⟨Nat.zero_le _, Nat.zero_le _⟩ rfl dX6_tuneAll_17 (c_X6_bendBest I1 i (by omega)) (fun H locs hP hD hS => ?_)
        refine lv_iinc (v := iI (i + 1)) (lv' := [(1, .int (iI (i + 1))), (0, .ref (q 0))]) hx hb dX6_tuneAll_20 hl (k := 0) rfl (iI_add _ _) (by decide) rfl (fun ls hl => ?_)
        refine lv_goto (tgt := 7) hx hb dX6_tuneAll_23 (by decide) ?_
        exact ih_7 (i + 1) (uZ be1 i (tb (fun v => aZ (te (st i) * 10000 / (le i + v) - gl ab bl sc pi i)))) (by omega) (by omega) (by rw [hbe]; exact tuB_s (by omega)) _ _ _ hP hD hS (lv_sub hl [0, 1] rfl)
  exact L_7 25 0 be (by omega) (by omega) tuB_0 _ _ _ hP hD hS (lv_sub hl [0, 1] rfl)
