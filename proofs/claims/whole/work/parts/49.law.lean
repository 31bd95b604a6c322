/-! THE CLAIM OUT OF ONE WALK OF THE LAW'S BODY. Your part is whole_start (and what it stands on); all else here is the same for every law, but numbers. -/
def R_law : String := "TwoKeysLaw"
def lw_P (b : Addr) (xs : List Int32) (args : Array Value) (s : State) : Prop := args = #[.ref b] ∧ s.IntsAt b xs ∧ xs.length ≤ 2560 ∧ (Jvm.Cond.and given_1 narrow_1).before args s = true
def lw_Q (_ : Array Value) (s : State) (o : Outcome) (t : State) : Prop := o = .returned (some (.int 1)) ∧ Framed s o t [] 35 3975
def lw_Z (below : List Frame) (a : Array Value) (s : State) : State → Prop := fun t => ∃ o, t.status = .running ∧ Ended t below o ∧ lw_Q a s o t
/-- the law's own end, with 1 on the stack, nothing written that was there before, its room as the claim has it -/
theorem lw_ret {p : Program} {l : Launch} {e : Env} {s : State} {m : MethodId} {below : List Frame} {meth : Method} {c : Code} {b : Nat} (hx : p.tables.exec = Jvm.exec) (hb : c.code = code) (hr : meth.sig.returnType = ret) (hlocks : meth.locks = false) {pc : Nat} {H : Heap} {ls : Array Slot} (hdg : decode code pc = .ok (.ireturn, 1)) : W p l e room_1 s m #[Value.ref b] below meth c H [] 35 3975 (lw_Z below #[Value.ref b] s) (F0 m pc ls [.int 1]) := by
  intro T hT X
  obtain ⟨fs, hret, hrun, hended, hW, hframe⟩ := X.leave (v := some (.int 1)) (hlocks := hlocks) (fun h => by rw [hr] at h; cases h)
  have hmeth' : T.vm.method? m = some meth := X.method'
  refine ⟨T.setFrames fs, ?_, .returned (some (.int 1)), hrun, hended, rfl, ⟨_, rfl⟩, hW, hframe⟩
  jvm_step X.here [X.here.top, hx, hb, hdg, hmeth', hr, ret, narrow_b1]
  (try refine ⟨rfl, ?_⟩); (try refine ⟨rfl, ?_⟩)
  first | (intro acts; rw [hret _ acts rfl rfl rfl]) | rw [hret _ _ rfl rfl rfl]
  exact Steps.refl _
/-- what holds at the law's entry: the machine, the code, the tables' words (any of lw_tbl by 'hts w (by decide +kernel)'), the script of L ints xs at the cell b, what the Statement gives of the start (any of its parts by flat_of_before) -/
def lw_At (p : Program) (s : State) (m : MethodId) (meth : Method) (c : Code) (b L : Nat) (xs : Nat → Int32) : Prop :=
  p.tables.exec = Jvm.exec ∧ c.code = code ∧ meth.sig.returnType = ret ∧ c.maxLocals = 4 ∧ s.vm.findClass R_law = some m.cls ∧ (∀ w ∈ lw_tbl, w.before #[Value.ref b] s = true) ∧ va_X b L xs s s.heap ∧ b < s.heap.size ∧ meth.locks = false ∧ (Jvm.Cond.and given_1 narrow_1).before #[Value.ref b] s = true
section LC
variable {p : Program} {l : Launch} {e : Env} {R : Room} {s : State} {m : MethodId} {args : Array Value} {below : List Frame} {meth : Method} {c : Code} {H : Heap} {locs : List Loc} {cells slots : Nat} {Q : State → Prop}
variable {b L : Nat} {xs : Nat → Int32} {A : Nat → Prop} {ls : Array Slot} {rest : List Value} {i : Int} {D : va_G} {cy : ClassId} {qT qM : Nat → Nat} {wt wm : va_W} {t1 u1 pc : Nat}
set_option maxHeartbeats 4000000 in
theorem law_loop (C0 : lw_At p s m meth c b L xs) (hL : L ≤ 2560) (hK : va_K D vwCl [(cy, .int)] s) : ∀ (n : Nat) (i : Int), 0 ≤ i → i ≤ L → L - i < n → ∀ (wt wm : va_W) (H : Heap) (locs : List Loc) (ls : Array Slot), Sim qT qM cy wt wm → va_P D vwCl wt H → va_P D vwCl wm H → va_D (fun q : Nat => s.heap.size ≤ q) wt → va_D (fun q : Nat => s.heap.size ≤ q) wm → ap wt wm → va_S (fun q : Nat => s.heap.size ≤ q) s.heap H locs → lv_has ls 4 (lwL b (qT 0) (qM 0) i) → W p l e room_1 s m #[.ref b] below meth c H locs 35 3975 (lw_Z below #[Value.ref b] s) (F0 m 18 ls []) := by
  obtain ⟨hx, hb, hr, hml, hown, hts, hX, hbl, hlocks, hgv⟩ := id C0
  have hA : ∀ q : Nat, s.heap.size ≤ q → (fun q : Nat => s.heap.size ≤ q) q := fun _ h => h
  have hbA : ¬ (fun q : Nat => s.heap.size ≤ q) b := Nat.not_le.mpr hbl
  have X : Cx p s m meth c cL_law 4 (some .boolean) wsL_law RL #[.ref b] := ⟨hx, hb, hml, hr, fun w hw => hts w (wsL_law_in w hw), hown, hlocks⟩
  intro n
  induction n with
  | zero =>
    intro i h0 h1 h2
    exfalso
    omega
  | succ n ih =>
    intro i h0 h1 h2 wt wm H locs ls hs hP hP2 hD hD2 hap hS hl
    refine lv_iload_n hx hb dL_law_18 rfl (lv_at hl 0 rfl) ?_
    refine lv_aload_n hx hb dL_law_19 rfl (lv_at hl 3 rfl) ?_
    refine va_slen hx hb hX hbl hbA hS dL_law_20 ?_
    rw [show Int32.ofNat L = iI (L : Int) from nI_iI L]
    refine lv_iconst (v := iI 5) hx hb dL_law_21 rfl ?_
    refine z_isub hx hb dL_law_22 ?_
    refine z_icmp_gt (tgt := 1369) hx hb dL_law_23 (by decide) (by omega) (fun q => ?_) (fun q => ?_)
    · refine lv_iconst (v := 1) hx hb dL_law_1369 (by decide) ?_
      refine va_forget hS.2.2 ?_
      exact lw_ret hx hb hr hlocks dL_law_1370
    · refine law_body X hX hbl hbA hA hK (i := i) ⟨h0, by omega, hL⟩ hl hs hP hP2 hD hD2 hap hS ?_
      intro wt wm H locs hs hP hP2 hD hD2 hap hS
      refine lv_iinc (v := iI (i + 5)) (lv' := lwL b (qT 0) (qM 0) (i + 5)) hx hb dL_law_1363 hl (k := 0) rfl (iI_add _ _) (by decide) rfl (fun ls hl => ?_)
      refine lv_goto (tgt := 18) hx hb dL_law_1366 (by decide) ?_
      exact ih (i + 5) (by omega) (by omega) (by omega) wt wm H locs ls hs hP hP2 hD hD2 hap hS hl
end LC
theorem okS_0 : okS 12 (fun j => if 0 ≤ j ∧ j < 24 then j else 0) (fun _ => 5000) (fun _ => 0) (fun _ => 4000) (fun _ => 1) (fun _ => 1) (fun _ => 0) (fun _ => 0) (fun _ => 0) (fun _ => 0) (fun _ => (-100009)) 0 8000 1 0 := by
  refine ⟨by decide, fun j => ?_, fun _ => (by dsimp only; omega), fun _ => (by dsimp only; omega), fun _ => (by dsimp only; omega), fun _ => (by dsimp only; omega), fun _ => (by dsimp only; omega), fun _ => (by dsimp only; omega), fun _ => (by dsimp only; omega), fun _ => (by dsimp only; omega), fun _ => (by dsimp only; omega), fun _ => Or.inl rfl, by decide, by decide, by decide, by decide, fun p i j _ _ h1 h2 h3 => ?_, fun p i _ _ h1 h2 => ?_⟩
  · show 0 ≤ (if 0 ≤ j ∧ j < 24 then j else 0) ∧ (if 0 ≤ j ∧ j < 24 then j else 0) ≤ 23
    split <;> omega
  · exfalso
    have h3 : j < 0 := h3
    omega
  · exfalso
    have h2 : i < 0 := h2
    omega
theorem wT_0 {cy : ClassId} (h1 o1 a2 a3 a4 a5 o6 a7 a8 o9 a10 a11 a12 a13 o14 a15 a16 a17 o18 a19 : Nat) : [(h1, .inr (5, [.ref o1, .ref o6, .ref o9, .ref o14, .ref o18, .int (iI 0), .int (iI 8000), .int (iI 1), .int (iI 0)])), (o1, .inr (0, [.int (iI 12), .ref a2, .ref a3, .ref a4, .ref a5])), (a2, .inl (cy, 24, .inl (aF (fun j => if 0 ≤ j ∧ j < 24 then j else 0)))), (a3, .inl (cy, 24, .inl (aF (fun _ => 5000)))), (a4, .inl (cy, 24, .inl (aF (fun _ => 0)))), (a5, .inl (cy, 24, .inl (aF (fun _ => 4000)))), (o6, .inr (3, [.ref a7, .ref a8])), (a7, .inl (cy, 60, .inl (aF (fun _ => 1)))), (a8, .inl (cy, 60, .inl (aF (fun _ => 1)))), (o9, .inr (1, [.ref o1, .ref a10, .ref a11, .ref a12, .ref a13])), (a10, .inl (cy, 160, .inl (aF (fun _ => 0)))), (a11, .inl (cy, 160, .inl (aF (fun _ => 0)))), (a12, .inl (cy, 160, .inl (aF (fun _ => 0)))), (a13, .inl (cy, 4, .inl (aF (fun _ => 0)))), (o14, .inr (4, [.ref a15, .ref a16, .ref a17, .int (iI 0), .int (iI 0)])), (a15, .inl (cy, 576, .inl (aF (fun _ => 0)))), (a16, .inl (cy, 625, .inl (aF (fun _ => 0)))), (a17, .inl (cy, 24, .inl (aF (fun _ => 0)))), (o18, .inr (2, [.ref o1, .ref o6, .ref a19, .int (iI 0), .int (iI 0)])), (a19, .inl (cy, 24, .inl (aF (fun _ => (-100009)))))] = wT (fun k => [h1, o1, a2, a3, a4, a5, o6, a7, a8, o9, a10, a11, a12, a13, o14, a15, a16, a17, o18, a19].getD k 0) cy 12 (fun j => if 0 ≤ j ∧ j < 24 then j else 0) (fun _ => 5000) (fun _ => 0) (fun _ => 4000) (fun _ => 1) (fun _ => 1) (fun _ => 0) (fun _ => 0) (fun _ => 0) (fun _ => 0) (fun _ => (-100009)) 0 8000 1 0 (fun _ => 0) (fun _ => 0) (fun _ => 0) 0 0 0 0 := rfl
theorem wM_0 {cy : ClassId} (h2 a1 a2 a3 a4 a5 a6 a7 a8 a9 a10 a11 a12 a13 a14 : Nat) : [(h2, .inr (6, [.int (iI 0), .int (iI 12), .ref a1, .ref a2, .ref a3, .ref a4, .ref a5, .ref a6, .int (iI 0), .int (iI 8000), .ref a7, .ref a8, .ref a9, .ref a10, .int (iI 1), .int (iI 0), .ref a11, .ref a12, .ref a13, .ref a14, .int (iI 0)])), (a1, .inl (cy, 24, .inl (aF (fun j => if 0 ≤ j ∧ j < 24 then j else 0)))), (a2, .inl (cy, 24, .inl (aF (fun _ => 5000)))), (a3, .inl (cy, 24, .inl (aF (fun _ => 0)))), (a4, .inl (cy, 24, .inl (aF (fun _ => 4000)))), (a5, .inl (cy, 60, .inl (aF (fun _ => 1)))), (a6, .inl (cy, 60, .inl (aF (fun _ => 1)))), (a7, .inl (cy, 4, .inl (aF (fun _ => 0)))), (a8, .inl (cy, 160, .inl (aF (fun _ => 0)))), (a9, .inl (cy, 160, .inl (aF (fun _ => 0)))), (a10, .inl (cy, 160, .inl (aF (fun _ => 0)))), (a11, .inl (cy, 24, .inl (aF (fun _ => (-100009))))), (a12, .inl (cy, 576, .inl (aF (fun _ => 0)))), (a13, .inl (cy, 650, .inl (aF (fun _ => 0)))), (a14, .inl (cy, 24, .inl (aF (fun _ => 0))))] = wM (fun k => [h2, a1, a2, a3, a4, a5, a6, a7, a8, a9, a10, a11, a12, a13, a14].getD k 0) cy 12 (fun j => if 0 ≤ j ∧ j < 24 then j else 0) (fun _ => 5000) (fun _ => 0) (fun _ => 4000) (fun _ => 1) (fun _ => 1) (fun _ => 0) (fun _ => 0) (fun _ => 0) (fun _ => 0) (fun _ => (-100009)) 0 8000 1 0 0 (fun _ => 0) (fun _ => 0) (fun _ => 0) 0 := rfl
set_option maxHeartbeats 8000000 in
set_option maxRecDepth 100000 in
theorem whole_start {p : Program} {e : Env} {s : State} {m : MethodId} {below : List Frame} {meth : Method} {c : Code} (l : Launch) {b L : Nat} {xs : Nat → Int32} (hL : L ≤ 2560) (C0 : lw_At p s m meth c b L xs) : W p l e room_1 s m #[Value.ref b] below meth c s.heap [] 0 0 (lw_Z below #[Value.ref b] s) (entryFrame m ([Value.ref b] : List Value).toArray 4) := by
  obtain ⟨hx, hb, hr, hml, hown, hts0, hX, hbl, hlocks, hgv⟩ := id C0
  have hA : ∀ q : Nat, s.heap.size ≤ q → (fun q : Nat => s.heap.size ≤ q) q := fun _ h => h
  have hts : ∀ w ∈ wsL_law, w.before #[Value.ref b] s = true := fun w hw => hts0 w (wsL_law_in w hw)
  have X : Cx p s m meth c cL_law 4 (some .boolean) wsL_law RL #[.ref b] := ⟨hx, hb, hml, hr, hts, hown, hlocks⟩
  obtain ⟨cy, kA, comp, y1, y2, y3⟩ := Cond.arrayClass_spec (hts0 (.arrayClass .int) lw_arr)
  obtain ⟨c0, iS0, hKn0⟩ := u_known (C := RX0) (T := TX0) (N := 5) (n := 5) hts0 inX0 (hts0 (.instantiable RX0 5) lw_i0)
  obtain ⟨c1, iS1, hKn1⟩ := u_known (C := RX1) (T := TX1) (N := 5) (n := 5) hts0 inX1 (hts0 (.instantiable RX1 5) lw_i1)
  obtain ⟨c2, iS2, hKn2⟩ := u_known (C := RX2) (T := TX2) (N := 5) (n := 5) hts0 inX2 (hts0 (.instantiable RX2 5) lw_i2)
  obtain ⟨c3, iS3, hKn3⟩ := u_known (C := RX3) (T := TX3) (N := 2) (n := 2) hts0 inX3 (hts0 (.instantiable RX3 2) lw_i3)
  obtain ⟨c4, iS4, hKn4⟩ := u_known (C := RX4) (T := TX4) (N := 5) (n := 5) hts0 inX4 (hts0 (.instantiable RX4 5) lw_i4)
  obtain ⟨c5, iS5, hKn5⟩ := u_known (C := RX5) (T := TX5) (N := 9) (n := 9) hts0 inX5 (hts0 (.instantiable RX5 9) lw_i5)
  obtain ⟨c6, iS6, hKn6⟩ := u_known (C := RX6) (T := TX6) (N := 21) (n := 21) hts0 inX6 (hts0 (.instantiable RX6 21) lw_i6)
  obtain ⟨dC, dI, hKc⟩ : ∃ (dC : Nat → ClassId) (dI : Nat → Nat → Nat), ∀ (k : Nat) (q : vw_C), vwCl[k]? = some q → u_Kn s q.1 q.2.1 q.2.2 (dC k) (dI k) := by
    refine ⟨fun k => if k = 0 then c0 else if k = 1 then c1 else if k = 2 then c2 else if k = 3 then c3 else if k = 4 then c4 else if k = 5 then c5 else c6, fun k => if k = 0 then iS0 else if k = 1 then iS1 else if k = 2 then iS2 else if k = 3 then iS3 else if k = 4 then iS4 else if k = 5 then iS5 else iS6, ?_⟩
    intro k q hq
    match k, hq with
    | 0, hq => cases hq; exact hKn0
    | 1, hq => cases hq; exact hKn1
    | 2, hq => cases hq; exact hKn2
    | 3, hq => cases hq; exact hKn3
    | 4, hq => cases hq; exact hKn4
    | 5, hq => cases hq; exact hKn5
    | 6, hq => cases hq; exact hKn6
    | k + 7, hq => simp [vwCl] at hq
  have hS : va_S (fun q : Nat => s.heap.size ≤ q) s.heap s.heap [] := va_S.rf
  have hK : va_K (dC, dI) vwCl [(cy, .int)] s := by
    refine ⟨hKc, fun k q h => ?_⟩
    have hz : k < 1 := (List.getElem?_eq_some_iff.mp h).1
    rw [show k = 0 by omega] at h
    cases h
    exact ⟨fun n z => ⟨fun k h => (by cases h), kA, y2, comp, y3⟩, y1⟩
  have hP : va_P (dC, dI) vwCl [] s.heap := fun k q h => by simp at h
  have hD : va_D (fun q : Nat => s.heap.size ≤ q) [] := ⟨fun i j p q h => by simp at h, fun k q h => by simp at h⟩
  have hl := lv_entry ([.ref b]) (n := 4) (Nat.le_of_ble_eq_true rfl)
  rw [lg_entry_eq]
  generalize (lg_sl ([.ref b]) ++ List.replicate (4 - (lg_sl ([.ref b])).length) Slot.unset).toArray = ls at hl ⊢
  have hl : lv_has ls 4 [(0, .ref b)] := hl
  refine va_new (ci := 5) (fs := [.null, .null, .null, .null, .null, .int 0, .int 0, .int 0, .int 0]) (C := RX5) (T := TX5) (N := 9) hx hb hts inlX5 tyX5 tyX5_ok hown (hts0 (.classLink RL 7 RX5) lw_cl7) (hts0 (.instantiable RX5 9) lw_i5) (hts0 (.initialized RX5) lw_n5) hK hP hD hS hA rfl (fun j hj => by rcases (show j = 0 ∨ j = 1 ∨ j = 2 ∨ j = 3 ∨ j = 4 ∨ j = 5 ∨ j = 6 ∨ j = 7 ∨ j = 8 by omega) with rfl | rfl | rfl | rfl | rfl | rfl | rfl | rfl | rfl <;> rfl) (Nat.le_of_ble_eq_true rfl) (Nat.le_of_ble_eq_true rfl) dL_law_0 (fun h1 H hP hD hS => ?_)
  have hP : va_P (dC, dI) vwCl (([] : va_W) ++ [(h1, .inr (5, [.null, .null, .null, .null, .null, .int (iI 0), .int (iI 0), .int (iI 0), .int (iI 0)]))]) H := hP
  have hD : va_D (fun q : Nat => s.heap.size ≤ q) (([] : va_W) ++ [(h1, .inr (5, [.null, .null, .null, .null, .null, .int (iI 0), .int (iI 0), .int (iI 0), .int (iI 0)]))]) := hD
  refine W.widen (k := 1) (n := 9) (by omega) (by omega) ?_
  refine lv_dup hx hb dL_law_3 rfl ?_
  refine z_callCN (wr := []) (w0 := [(h1, .inr (5, [.null, .null, .null, .null, .null, .int (iI 0), .int (iI 0), .int (iI 0), .int (iI 0)]))]) (As := []) (rest := [.ref h1]) (b := h1) (mc := 19) (ms := 1971) X hK hP hD hA hS hl.1 gL_law_X5_init rfl ⟨rfl, rfl⟩ (hts0 (.initialized RX5) lw_n5) (hts0 (.methodLink RL 9 yX5_init) lw_m9) (hts0 (.instanceMethod yX5_init) lw_x5) rfl hd_X5_init ⟨Nat.le_of_ble_eq_true rfl, Nat.le_of_ble_eq_true rfl⟩ rfl (Nat.le_of_ble_eq_true rfl) ⟨Nat.le_of_ble_eq_true rfl, Nat.le_of_ble_eq_true rfl⟩ rfl dL_law_4 (va_Nw.of rfl (hts0 (.methodLinkNest RX5 47 yX4_init "TwoKeys") lw_nest)) (c_X5_init h1) (fun w1 H locs hΨ hP hD hS => ?_)
  obtain ⟨o1, a2, a3, a4, a5, o6, a7, a8, o9, a10, a11, a12, a13, o14, a15, a16, a17, o18, a19, eT⟩ := hΨ
  have eT := eT.trans (wT_0 h1 o1 a2 a3 a4 a5 o6 a7 a8 o9 a10 a11 a12 a13 o14 a15 a16 a17 o18 a19)
  generalize hqT : (fun k => [h1, o1, a2, a3, a4, a5, o6, a7, a8, o9, a10, a11, a12, a13, o14, a15, a16, a17, o18, a19].getD k 0) = qT at eT
  have q0T : qT 0 = h1 := by rw [← hqT]; rfl
  have hP : va_P (dC, dI) vwCl w1 H := hP
  have hD : va_D (fun q : Nat => s.heap.size ≤ q) w1 := hD
  refine W.widen (k := 20) (n := 1980) (by omega) (by omega) ?_
  refine lv_astore_n (lv' := [(1, .ref h1), (0, .ref b)]) hx hb dL_law_7 rfl hl (by decide) rfl (fun ls hl => ?_)
  refine va_new (ci := 6) (fs := [.int 0, .int 0, .null, .null, .null, .null, .null, .null, .int 0, .int 0, .null, .null, .null, .null, .int 0, .int 0, .null, .null, .null, .null, .int 0]) (C := RX6) (T := TX6) (N := 21) hx hb hts inlX6 tyX6 tyX6_ok hown (hts0 (.classLink RL 10 RX6) lw_cl10) (hts0 (.instantiable RX6 21) lw_i6) (hts0 (.initialized RX6) lw_n6) hK hP hD hS hA rfl (fun j hj => by rcases (show j = 0 ∨ j = 1 ∨ j = 2 ∨ j = 3 ∨ j = 4 ∨ j = 5 ∨ j = 6 ∨ j = 7 ∨ j = 8 ∨ j = 9 ∨ j = 10 ∨ j = 11 ∨ j = 12 ∨ j = 13 ∨ j = 14 ∨ j = 15 ∨ j = 16 ∨ j = 17 ∨ j = 18 ∨ j = 19 ∨ j = 20 by omega) with rfl | rfl | rfl | rfl | rfl | rfl | rfl | rfl | rfl | rfl | rfl | rfl | rfl | rfl | rfl | rfl | rfl | rfl | rfl | rfl | rfl <;> rfl) (Nat.le_of_ble_eq_true rfl) (Nat.le_of_ble_eq_true rfl) dL_law_8 (fun h2 H hP hD hS => ?_)
  have hP : va_P (dC, dI) vwCl (w1 ++ [(h2, .inr (6, [.int (iI 0), .int (iI 0), .null, .null, .null, .null, .null, .null, .int (iI 0), .int (iI 0), .null, .null, .null, .null, .int (iI 0), .int (iI 0), .null, .null, .null, .null, .int (iI 0)]))]) H := hP
  have hD : va_D (fun q : Nat => s.heap.size ≤ q) (w1 ++ [(h2, .inr (6, [.int (iI 0), .int (iI 0), .null, .null, .null, .null, .null, .null, .int (iI 0), .int (iI 0), .null, .null, .null, .null, .int (iI 0), .int (iI 0), .null, .null, .null, .null, .int (iI 0)]))]) := hD
  refine W.widen (k := 21) (n := 2001) (by omega) (by omega) ?_
  refine lv_dup hx hb dL_law_11 rfl ?_
  refine z_callC (wr := w1) (w0 := [(h2, .inr (6, [.int (iI 0), .int (iI 0), .null, .null, .null, .null, .null, .null, .int (iI 0), .int (iI 0), .null, .null, .null, .null, .int (iI 0), .int (iI 0), .null, .null, .null, .null, .int (iI 0)]))]) (As := []) (rest := [.ref h2]) (b := h2) (mc := 14) (ms := 1974) X hK hP hD hA hS hl.1 gL_law_X6_init rfl ⟨rfl, rfl⟩ (hts0 (.initialized RX6) lw_n6) (hts0 (.methodLink RL 12 yX6_init) lw_m12) (hts0 (.instanceMethod yX6_init) lw_x6) rfl hd_X6_init ⟨Nat.le_of_ble_eq_true rfl, Nat.le_of_ble_eq_true rfl⟩ rfl (Nat.le_of_ble_eq_true rfl) ⟨Nat.le_of_ble_eq_true rfl, Nat.le_of_ble_eq_true rfl⟩ rfl dL_law_12 (c_X6_init h2) (fun w2 H locs hΨ hP hD hS => ?_)
  obtain ⟨a1b, a2b, a3b, a4b, a5b, a6b, a7b, a8b, a9b, a10b, a11b, a12b, a13b, a14b, eM⟩ := hΨ
  have eM := eM.trans (wM_0 h2 a1b a2b a3b a4b a5b a6b a7b a8b a9b a10b a11b a12b a13b a14b)
  generalize hqM : (fun k => [h2, a1b, a2b, a3b, a4b, a5b, a6b, a7b, a8b, a9b, a10b, a11b, a12b, a13b, a14b].getD k 0) = qM at eM
  have q0M : qM 0 = h2 := by rw [← hqM]; rfl
  refine W.widen (k := 35) (n := 3975) (by omega) (by omega) ?_
  refine lv_astore_n (lv' := [(2, .ref h2), (1, .ref h1), (0, .ref b)]) hx hb dL_law_15 rfl hl (by decide) rfl (fun ls hl => ?_)
  refine lv_iconst (v := iI 0) hx hb dL_law_16 rfl ?_
  refine lv_istore_n (lv' := [(3, .int (iI 0)), (2, .ref h2), (1, .ref h1), (0, .ref b)]) hx hb dL_law_17 rfl hl (by decide) rfl (fun ls hl => ?_)
  refine law_loop (qT := qT) (qM := qM) C0 hL hK (L + 1) 0 (by omega) (by omega) (by omega) w1 w2 H locs ls ⟨_, _, _, _, _, _, _, _, _, _, _, _, _, _, _, _, _, _, _, _, _, _, _, _, _, _, _, _, okS_0, eT, eM⟩ (z_P1 hP) (z_P2 hP) (z_D1 hD) (z_D2 hD) (z_Dap hD).symm hS ?_
  rw [q0T, q0M]
  exact hl
set_option maxHeartbeats 4000000 in
theorem lw_walk (l : Launch) (b : Addr) (xs : List Int32) : MetFree l x (headSpec (Jvm.Cond.code x code maxLocals ret :: tables_1) room_1) (lw_P b xs) (fun _ _ _ _ _ => True) lw_Q := by
  refine MetFree.of_bodyS (code := code) (maxLocals := maxLocals) (ret := ret) (by decide) ?_ ?_
  · intro args s m h hn
    obtain ⟨meth, c, h1, h2, h3, h4, h5, h6, -, -⟩ := Cond.code_spec hn (atoms_spec (ws := Jvm.Cond.code x code maxLocals ret :: tables_1) h _ List.mem_cons_self)
    exact ⟨meth, c, h1, h2, h3, h4, h5, h6⟩
  · intro p e s m args below meth c s₁ B hml0 hP _
    obtain ⟨rfl, hx, hbd, hgv⟩ := hP
    obtain ⟨scr, harrAt, hlist, hof, hsmall⟩ := hx
    obtain ⟨hcb, hkn, -, -⟩ := State.arrayAt?_spec harrAt
    have hown : s.vm.findClass R_law = some m.cls := findClass_of_methodNamed B.named
    have hts0 : ∀ c ∈ (Jvm.Cond.code x code maxLocals ret :: tables_1), c.before #[Value.ref b] s = true := atoms_spec (ws := Jvm.Cond.code x code maxLocals ret :: tables_1) B.pre
    have hts : ∀ w ∈ lw_tbl, w.before #[Value.ref b] s = true := k2_hts_sels lw_privs (fun w hw => hts0 w (List.mem_cons_of_mem _ hw)) lw_privs_ok
    have hml : c.maxLocals = 4 := B.maxLocals_eq (hts0 _ List.mem_cons_self)
    have X₀ : Stand p l e room_1 s m #[Value.ref b] below meth c s₁ [] 0 0 := Stand.of_body B
    have hh0 : s₁.heap = s.heap := by rw [B.state]; rfl
    have hsz : scr.slots.size = xs.length := by rw [← Array.length_toList, hlist, List.length_map]
    have hval : ∀ j : Nat, j < xs.length → scr.slots[j]? = some (.int (xs.getD j 0)) := fun j hj => by
      rw [← Array.getElem?_toList, hlist]
      simp [hj]
    have hbl : b < s.heap.size := (Array.getElem?_eq_some_iff.mp hcb).1
    have hX : va_X b xs.length (fun j => xs.getD j 0) s s.heap := ⟨scr, hcb, hof, hkn, hsz, hval⟩
    have K : W p l e room_1 s m #[Value.ref b] below meth c s₁.heap [] 0 0 (lw_Z below #[Value.ref b] s) (entryFrame m ([Value.ref b] : List Value).toArray 4) := by
      rw [hh0]
      exact whole_start l hbd ⟨B.exec, B.bytes, B.returns, hml, hown, hts, hX, hbl, B.notSynchronized, hgv⟩
    obtain ⟨t, a1, o, b1, b2, b3⟩ := K s₁ rfl X₀
    exact ⟨t, o, a1, b1, b2, b3⟩
theorem lw_pre_spec {args : Array Value} {s : State} (h : (Jvm.Cond.and given_1 narrow_1).before args s = true) (hr : rest_1_c.before args s = true) : ∃ (b : Addr) (xs : List Int32), lw_P b xs args s := by
  have hs := flat_of_before _ h
  have hq := flat_of_before _ hr
  have hc : (Cond.count 1).before args s = true := hs _ (by decide +kernel)
  have harr : (Cond.arrayOf (.arg 0) .int).before args s = true := hs _ (by decide +kernel)
  have hle : (Cond.le (.length (.arg 0)) (.int 2560)).before args s = true := hs _ (by decide +kernel)
  have hlen : (Cond.isInt (.length (.arg 0))).before args s = true := hq _ (by decide +kernel)
  have hall : (Cond.all (.arg 0) (.isInt (.elem (.arg 0) (.index 0)))).before args s = true := hq _ (by decide +kernel)
  obtain ⟨b, xs, hb, hx⟩ := State.ints_of_pre rfl harr hlen hall
  have hsm : xs.length < 2 ^ 31 := hx.choose_spec.2.2.2
  have hev : (Term.length (.arg 0)).eval args s none [] s = some (.int xs.length.toInt32) := hx.length_eval hb
  have hv := Cond.le_ints hev (show (Term.int 2560).eval args s none [] s = some (.int 2560) from rfl)
  have hd : xs.length.toInt32 ≤ 2560 := by
    simpa [Cond.before, Cond.holds, hv] using hle
  have hN : xs.length ≤ 2560 := (Int32.ofNat_le_ofNat hsm (by decide)).mp (show Int32.ofNat xs.length ≤ Int32.ofNat 2560 from hd)
  exact ⟨b, xs, Cond.one_arg hc (show args[0]? = some (.ref b) from hb), hx, hN, h⟩
theorem lw_comes (l : Launch) : Comes l x (Jvm.Cond.code x code maxLocals ret :: tables_1) room_1 (fun tb e args s => Calls_1 tb e args s ∧ rest_1 tb e args s ∧ Pre_1 tb e args s)
    (fun _ _ args s o t => lw_Q args s o t) := by
  intro p e ha hc hk s m args below hf hfit hheap happ hpre
  obtain ⟨b, xs, hP⟩ := lw_pre_spec hpre.2.2 hpre.2.1
  obtain ⟨k, o, h1, h2, h3, hQ⟩ := lw_walk l b xs p e ha hc hk s m args below hf ((Spec.applies_iff_loose hf).mp happ).1 hP trivial
  exact ⟨k, o, h1, h2, h3, hQ⟩
theorem lw_frame {s t : State} {o : Outcome} {args : Array Value} (h : Framed s o t [] 35 3975) :
    Framed s o t (fieldLocs frame_1_writes args s ++ arrayLocs frame_1_arrays args s ++ staticLocs frame_1_statics s) 35 3975 := h
theorem lw_limb (L : Cond) (hL : ∀ (args : Array Value) (s t : State), L.after args s (.returned (some (.int 1))) t = true) :
    ArmFor flags0 classFile x code maxLocals ret World_1 tables_1 room_1 Calls_1 rest_1 Pre_1
      (fun tb e a s o t => postC L tb e a s o t ∧ Framed s o t (fieldLocs frame_1_writes a s ++ arrayLocs frame_1_arrays a s ++ staticLocs frame_1_statics s) 35 3975) := by
  intro l _ _ _ p e ha hc hk s m args below hf hfit hheap happ hpre
  obtain ⟨k, o, h1, h2, h3, rfl, hF⟩ := lw_comes l p e ha hc hk s m args below hf hfit hheap happ hpre
  exact ⟨k, _, h1, h2, h3, hL args s _, lw_frame hF⟩
theorem i_vc : Claimed_1_1 ∧ Claimed_1_2 := ⟨lw_limb limb_1_1 (fun args s t => by simp [limb_1_1, Cond.after, Cond.holds, Cond.value]), lw_limb limb_1_2 (fun args s t => Cond.after_iff.mpr (by
  first | (rw [show limb_1_2 = Cond.eq .result (.int 1) from rfl, Cond.eq_ints (x := 1) (y := 1) rfl rfl]; simp; done) | (simp [limb_1_2, Cond.value, Term.eval]; done)))⟩
