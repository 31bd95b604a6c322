/-! rows of the law -/
theorem rmS.R {r : Room} {maxL : Nat} (h : rmS r) (hm : maxL ≤ 30) : r.frames + 1 ≤ room_1.frames ∧ 8 + (maxL + 11) + r.locals ≤ room_1.locals := by
  obtain ⟨_, _, h1, h2⟩ := h
  have e1 : room_1.frames = 9 := rfl
  have e2 : room_1.locals = 354 := rfl
  rw [e1, e2]
  omega
theorem and63 (x : Int32) : ∃ z : Int, 0 ≤ z ∧ z ≤ 63 ∧ x &&& 63 = iI z := by
  have hn : (x.toBitVec &&& (63 : Int32).toBitVec).toNat ≤ 63 := by
    rw [BitVec.toNat_and]
    exact Nat.and_le_right
  have e : (x &&& 63).toInt = ((x.toBitVec &&& (63 : Int32).toBitVec).toNat : Int) := by
    show (x &&& 63).toBitVec.toInt = _
    rw [Int32.toBitVec_and]
    exact BitVec.toInt_eq_toNat_of_lt (by omega)
  refine ⟨(x &&& 63).toInt, by omega, by omega, iI_of _⟩
def ar (xs : Nat → Int32) (i j : Int) : Int := (xs (i + j).toNat).toInt
theorem ar_rg (xs : Nat → Int32) (i j : Int) : -2147483648 ≤ ar xs i j ∧ ar xs i j ≤ 2147483647 := rg_of _
abbrev lwL (b t u : Nat) (i : Int) : List (Nat × Value) := [(3, .int (iI i)), (2, .ref u), (1, .ref t), (0, .ref b)]
section LW
variable {p : Program} {l : Launch} {e : Env} {R : Room} {s : State} {m : MethodId} {args : Array Value} {below : List Frame} {meth : Method} {c : Code} {H : Heap} {locs : List Loc} {cells slots : Nat} {Q : State → Prop}
variable {b L : Nat} {xs : Nat → Int32} {A : Nat → Prop} {ls : Array Slot} {rest : List Value} {i : Int} {D : va_G} {cy : ClassId} {qT qM : Nat → Nat} {wt wm : va_W} {t1 u1 pc : Nat}
theorem lw_arg (hx : p.tables.exec = Jvm.exec) (hb : c.code = cL_law) (hX : va_X b L xs s s.heap) (hbl : b < s.heap.size) (hbA : ¬ A b) (hS : va_S A s.heap H locs) (hl : lv_has ls 4 (lwL b t1 u1 i)) (hi : 0 ≤ i ∧ i + 5 ≤ L ∧ L ≤ 2560) (j : Int) (hj : 0 ≤ j ∧ j ≤ 4) (d0 : decode cL_law pc = .ok (.aload_n 0, 1)) (d1 : decode cL_law (pc + 1) = .ok (.iload_n 3, 1)) (d2 : decode cL_law (pc + 2) = .ok (.iconst j, 1)) (d3 : decode cL_law (pc + 3) = .ok (.iadd, 1)) (d4 : decode cL_law (pc + 4) = .ok (.iaload, 1)) (k : W p l e R s m args below meth c H locs cells slots Q (F0 m (pc + 5) ls (.int (iI (ar xs i j)) :: rest))) : W p l e R s m args below meth c H locs cells slots Q (F0 m pc ls rest) := by
  refine lv_aload_n hx hb d0 rfl (lv_at hl 3 rfl) ?_
  refine lv_iload_n hx hb d1 rfl (lv_at hl 0 rfl) ?_
  refine lv_iconst (v := iI j) hx hb d2 rfl ?_
  refine z_iadd hx hb d3 ?_
  refine va_sld hx hb hX hbl hbA hS (iI_in (by omega) (by omega) (by omega)) d4 ?_
  have e : xs (iI (i + j)).toNatClampNeg = iI (ar xs i j) := by
    unfold ar
    rw [← iI_of]
    have z := iI_clamp (i := i + j) (by omega) (by omega)
    exact congrArg xs (by omega)
  rw [e]
  exact k
theorem lw_argb (hx : p.tables.exec = Jvm.exec) (hb : c.code = cL_law) (hX : va_X b L xs s s.heap) (hbl : b < s.heap.size) (hbA : ¬ A b) (hS : va_S A s.heap H locs) (hl : lv_has ls 4 (lwL b t1 u1 i)) (hi : 0 ≤ i ∧ i + 5 ≤ L ∧ L ≤ 2560) (j : Int) (hj : 0 ≤ j ∧ j ≤ 4) (d0 : decode cL_law pc = .ok (.aload_n 0, 1)) (d1 : decode cL_law (pc + 1) = .ok (.iload_n 3, 1)) (d2 : decode cL_law (pc + 2) = .ok (.iconst j, 1)) (d3 : decode cL_law (pc + 3) = .ok (.iadd, 1)) (d4 : decode cL_law (pc + 4) = .ok (.iaload, 1)) (d5 : decode cL_law (pc + 5) = .ok (.ifCond .eq 7, 3)) (d6 : decode cL_law (pc + 8) = .ok (.iconst 1, 1)) (d7 : decode cL_law (pc + 9) = .ok (.goto 4, 3)) (d8 : decode cL_law (pc + 12) = .ok (.iconst 0, 1)) (k : W p l e R s m args below meth c H locs cells slots Q (F0 m (pc + 13) ls (.int (iI (bZ (decide (ar xs i j ≠ 0)))) :: rest))) : W p l e R s m args below meth c H locs cells slots Q (F0 m pc ls rest) := by
  refine lw_arg hx hb hX hbl hbA hS hl hi j hj d0 d1 d2 d3 d4 ?_
  refine z_if_eq (tgt := pc + 12) hx hb d5 (by omega) (ar_rg xs i j) (fun h => ?_) (fun h => ?_)
  · refine lv_iconst (v := iI 0) hx hb d8 rfl ?_
    have e : bZ (decide (ar xs i j ≠ 0)) = 0 := by rw [decide_eq_false (fun q => q h)]; rfl
    rw [e] at k
    exact k
  · refine lv_iconst (v := iI 1) hx hb d6 rfl ?_
    refine lv_goto (tgt := pc + 13) hx hb d7 (by omega) ?_
    have e : bZ (decide (ar xs i j ≠ 0)) = 1 := by rw [decide_eq_true h]; rfl
    rw [e] at k
    exact k
end LW
theorem lw_arr : Cond.arrayClass .int ∈ lw_tbl := wsL_law_in _ (by decide +kernel)
theorem lw_i0 : Cond.instantiable RX0 5 ∈ lw_tbl := wsL_law_in _ (by decide +kernel)
theorem lw_i1 : Cond.instantiable RX1 5 ∈ lw_tbl := wsL_law_in _ (by decide +kernel)
theorem lw_i2 : Cond.instantiable RX2 5 ∈ lw_tbl := wsL_law_in _ (by decide +kernel)
theorem lw_i3 : Cond.instantiable RX3 2 ∈ lw_tbl := wsL_law_in _ (by decide +kernel)
theorem lw_i4 : Cond.instantiable RX4 5 ∈ lw_tbl := wsL_law_in _ (by decide +kernel)
theorem lw_i5 : Cond.instantiable RX5 9 ∈ lw_tbl := wsL_law_in _ (by decide +kernel)
theorem lw_i6 : Cond.instantiable RX6 21 ∈ lw_tbl := wsL_law_in _ (by decide +kernel)
theorem lw_cl7 : Cond.classLink RL 7 RX5 ∈ lw_tbl := wsL_law_in _ (by decide +kernel)
theorem lw_cl10 : Cond.classLink RL 10 RX6 ∈ lw_tbl := wsL_law_in _ (by decide +kernel)
theorem lw_n5 : Cond.initialized RX5 ∈ lw_tbl := wsL_law_in _ (by decide +kernel)
theorem lw_n6 : Cond.initialized RX6 ∈ lw_tbl := wsL_law_in _ (by decide +kernel)
theorem lw_m9 : Cond.methodLink RL 9 yX5_init ∈ lw_tbl := wsL_law_in _ (by decide +kernel)
theorem lw_m12 : Cond.methodLink RL 12 yX6_init ∈ lw_tbl := wsL_law_in _ (by decide +kernel)
theorem lw_x5 : Cond.instanceMethod yX5_init ∈ lw_tbl := wsL_law_in _ (by decide +kernel)
theorem lw_x6 : Cond.instanceMethod yX6_init ∈ lw_tbl := wsL_law_in _ (by decide +kernel)
theorem lw_nest : Cond.methodLinkNest RX5 47 yX4_init "TwoKeys" ∈ lw_tbl := by decide +kernel
