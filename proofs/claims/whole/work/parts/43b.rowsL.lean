/-! calls beside another world -/
def ap (w1 w2 : va_W) : Prop := ∀ (i j : Nat) (x y : Nat × va_E), w1[i]? = some x → w2[j]? = some y → x.1 ≠ y.1
theorem ap.symm {w1 w2 : va_W} (h : ap w1 w2) : ap w2 w1 := fun i j x y hx hy e => h j i y x hy hx e.symm
theorem z_keep {D : va_G} {w0 w1 w2 : va_W} {H H1 : Heap} (hP2 : va_P D vwCl w2 H) (hap : ap w0 w2) (hk : ∀ q : Nat, q < H.size → ¬ va_A w0 H.size q → H1[q]? = H[q]?) (hD1 : va_D (va_A w0 H.size) w1) : va_P D vwCl w2 H1 ∧ ap w1 w2 := by
  have g : ∀ (k : Nat) (x : Nat × va_E), w2[k]? = some x → x.1 < H.size ∧ ¬ va_A w0 H.size x.1 := by
    intro k x hx
    have hl := (hP2 k x hx).lt
    refine ⟨hl, fun h => ?_⟩
    rcases h with ⟨i, e, h⟩ | h
    · exact hap i k (x.1, e) x h hx rfl
    · omega
  refine ⟨fun k x hx => ?_, fun i j x y hx hy hxy => ?_⟩
  · obtain ⟨g1, g2⟩ := g k x hx
    exact (hP2 k x hx).kept (hk x.1 g1 g2)
  · have g2 := (g j y hy).2
    exact g2 (by rw [← hxy]; exact hD1.2 i x hx)
theorem z_at1 {a b : va_W} {k : Nat} {x : Nat × va_E} (h : a[k]? = some x) : (a ++ b)[k]? = some x := by
  rw [List.getElem?_append_left (List.getElem?_eq_some_iff.mp h).1]; exact h
theorem z_at2 {a b : va_W} {k : Nat} {x : Nat × va_E} (h : b[k]? = some x) : (a ++ b)[a.length + k]? = some x := by
  rw [List.getElem?_append_right (by omega), Nat.add_sub_cancel_left]; exact h
theorem z_P1 {D : va_G} {a b : va_W} {H : Heap} (h : va_P D vwCl (a ++ b) H) : va_P D vwCl a H := fun k q hq => h k q (z_at1 hq)
theorem z_P2 {D : va_G} {a b : va_W} {H : Heap} (h : va_P D vwCl (a ++ b) H) : va_P D vwCl b H := fun k q hq => h (a.length + k) q (z_at2 hq)
theorem z_D1 {A : Nat → Prop} {a b : va_W} (h : va_D A (a ++ b)) : va_D A a := ⟨fun i j p q hp hq e => h.1 i j p q (z_at1 hp) (z_at1 hq) e, fun k q hq => h.2 k q (z_at1 hq)⟩
theorem z_D2 {A : Nat → Prop} {a b : va_W} (h : va_D A (a ++ b)) : va_D A b := ⟨fun i j p q hp hq e => by have := h.1 _ _ p q (z_at2 hp) (z_at2 hq) e; omega, fun k q hq => h.2 _ q (z_at2 hq)⟩
theorem z_Dap {A : Nat → Prop} {a b : va_W} (h : va_D A (a ++ b)) : ap b a := fun i j x y hx hy e => by
  have h1 := h.1 _ _ x y (z_at2 hx) (z_at1 hy) e
  have h2 := (List.getElem?_eq_some_iff.mp hy).1
  omega
def MCN (l : Launch) (D : va_G) (cy : ClassId) (y : MethodName) (ws : List Cond) (rm : Room) (av : List Value) (w0 : va_W) (Ψ : va_W → Prop) (mc ms : Nat) (N : Cond) : Prop := ∀ sz : Nat, Met l y ws rm (fun a U => zP D cy w0 sz av a U ∧ va_Nw N U) (zQw D cy (va_A w0 sz) Ψ) mc ms (va_A w0 sz)
theorem MCN.ofW {l : Launch} {D : va_G} {cy : ClassId} {y : MethodName} {ws ws' : List Cond} {rm : Room} {av : List Value} {w0 : va_W} {cc : ByteArray} {maxL mc ms : Nat} {ret : Option FieldType} {Ψ : va_W → Prop} {N : Cond} (hy : plainName y.cls = true) (hw : ws = Cond.code y cc maxL ret :: ws') (hav : (lg_sl av).length ≤ maxL)
    (body : ∀ (p : Program) (e : Env) (s : State) (m : MethodId) (below : List Frame) (meth : Method) (c : Code) (A : Nat → Prop) (ls : Array Slot), Cx p s m meth c cc maxL ret ws y.cls av.toArray → meth.name = y.name → va_Nw N s → va_K D vwCl [(cy, .int)] s → va_P D vwCl w0 s.heap → va_D A w0 → (∀ q, s.heap.size ≤ q → A q) → va_S A s.heap s.heap [] → lv_has ls maxL (lv_args 0 av) → W p l e rm s m av.toArray below meth c s.heap [] 0 0 (MQ below (zQw D cy A Ψ) av.toArray s mc ms A) (F0 m 0 ls [])) : MCN l D cy y ws rm av w0 Ψ mc ms N := by
  intro sz
  refine Met.ofW hy hw ?_
  intro p e s m args below meth c s₁ B hml hv
  obtain ⟨⟨rfl, hsz, hP, hK, hD0⟩, hN⟩ := hv
  subst hsz
  rw [lg_entry_eq]
  exact body p e s m below meth c (va_A w0 s.heap.size) _ ⟨B.exec, B.bytes, hml, B.returns, atoms_spec (ws := ws) B.pre, findClass_of_methodNamed B.named, B.notSynchronized⟩ (name_of_methodNamed B.named B.method).1 hN hK hP (hD0.self) (fun q h => Or.inr h) va_S.rf (lv_entry av hav)
section ZF
variable {p : Program} {l : Launch} {e : Env} {R : Room} {s : State} {m : MethodId} {args : Array Value} {below : List Frame} {meth : Method} {c : Code} {H : Heap} {locs : List Loc} {cells slots : Nat} {Q : State → Prop}
variable {cc : ByteArray} {pc nL : Nat} {ls : Array Slot} {D : va_G} {cy : ClassId} {A : Nat → Prop} {rt : Option FieldType} {Ts : List Cond} {own : String}
theorem z_callF {y : MethodName} {bytes : ByteArray} {maxL n index : Nat} {ret : Option FieldType} {ws ws' : List Cond} {rm : Room} {As rest : List Value} {w0 w2 : va_W} {Ψ : Int → va_W → Prop} {b ci q0 : Nat} {C : String} {fs : List Value} {T : u_T} {N : Nat} (X : Cx p s m meth c cc nL rt Ts own args) (hK : va_K D vwCl [(cy, .int)] s) (hP : va_P D vwCl w0 H) (hP2 : va_P D vwCl w2 H) (hD : va_D A w0) (hap : ap w0 w2) (hA : ∀ q, s.heap.size ≤ q → A q) (hS : va_S A s.heap H locs) (hls : ls.size = nL) (hG : GoodIn Ts (wsV own index C y ws)) (hw : ws = Cond.code y bytes maxL ret :: ws') (hrm : rm.cells = 0 ∧ rm.slots = 0) (hd : y.cls = C ∧ y.cls ≠ "java/lang/invoke/MethodHandle" ∧ y.cls ≠ "java/lang/invoke/VarHandle" ∧ (parseMethodDescriptor y.desc).map (fun d => d.parameters.length) = some n) (hR : rm.frames + 1 ≤ R.frames ∧ 8 + (maxL + 11) + rm.locals ≤ R.locals) (hc : vwCl[ci]? = some (C, T, N)) (he : w0[q0]? = some (b, .inr (ci, fs))) (hn : As.length = n) (hroom : (rest.map fun v => v.category).sum ≤ 8) (hcl : cells ≤ R.cells ∧ slots ≤ R.slots) {st : List Value} (hst : st = As.reverse ++ .ref b :: rest) (hdg : decode cc pc = .ok (.invokevirtual index, 3)) (hM : MR l D cy y ws rm (.ref b :: As) w0 Ψ)
    (kk : ∀ (r : Int) (w1 : va_W) (H1 : Heap) (locs1 : List Loc), Ψ r w1 → va_P D vwCl w1 H1 → va_P D vwCl w2 H1 → va_D A w1 → ap w1 w2 → va_S A s.heap H1 locs1 → W p l e R s m args below meth c H1 locs1 cells slots Q (F0 m (pc + 3) ls (.int (iI r) :: rest))) : W p l e R s m args below meth c H locs cells slots Q (F0 m pc ls st) := by
  obtain ⟨hx, hb, hml, hr, hts, hown, hlocks⟩ := X
  subst hst
  have hFc : ∀ q, va_A w0 H.size q → A q := by
    intro q h
    rcases h with ⟨k, e, h⟩ | h
    · exact hD.2 k (q, e) h
    · exact hA q (Nat.le_trans hS.1 h)
  refine va_calli (va_runV (As := As) (rest := rest) ⟨hx, hb, hml, hown, hts⟩ (hM H.size) (cwV n hts hG hw hrm.1 hrm.2 hd hR) ⟨zP_blind, va_recv (q0 := q0) hK hP hc he, fun U hU hW => ⟨rfl, by rw [hU], by rw [hU]; exact hP, va_K.moved hW.alike hK, hD.weaken (fun _ _ _ _ => trivial)⟩⟩ rfl hn hls rfl (lv_room hroom) hdg hcl) hS (fun q _ h => hFc q h) hFc ?_
  intro x9 u t H1 locs1 ht hvm hw9 hB hz1 hk1 hS1
  obtain ⟨hP1, hK1, hD1⟩ := hB
  rw [ht] at hP1
  obtain ⟨r, rfl, hΨ⟩ := hw9
  obtain ⟨k1, k2⟩ := z_keep hP2 hap hk1 hD1
  exact kk r u H1 locs1 hΨ hP1 k1 (hD1.weaken (fun k q _ h => hFc q.1 h)) k2 hS1
theorem z_callC {y : MethodName} {bytes : ByteArray} {maxL n index mc ms : Nat} {ws ws' : List Cond} {rm : Room} {As rest : List Value} {w0 wr : va_W} {Ψ : va_W → Prop} {b : Nat} (X : Cx p s m meth c cc nL rt Ts own args) (hK : va_K D vwCl [(cy, .int)] s) (hP : va_P D vwCl (wr ++ w0) H) (hD : va_D A (wr ++ w0)) (hA : ∀ q, s.heap.size ≤ q → A q) (hS : va_S A s.heap H locs) (hls : ls.size = nL) (hG : GoodIn Ts ws) (hw : ws = Cond.code y bytes maxL none :: ws') (hrm : rm.cells = mc ∧ rm.slots = ms) (hini : (Cond.initialized y.cls).before args s = true) (hlk : (Cond.methodLink own index y).before args s = true) (hin : (Cond.instanceMethod y).before args s = true) (hy1 : y.name = "<init>") (hd : y.cls ≠ "java/lang/invoke/MethodHandle" ∧ y.cls ≠ "java/lang/invoke/VarHandle" ∧ (parseMethodDescriptor y.desc).map (fun d => d.parameters.length) = some n) (hR : rm.frames + 1 ≤ R.frames ∧ 8 + (maxL + 11) + rm.locals ≤ R.locals) (hn : As.length = n) (hroom : (rest.map fun v => v.category).sum ≤ 8) (hcl : cells + mc ≤ R.cells ∧ slots + ms ≤ R.slots) {st : List Value} (hst : st = As.reverse ++ .ref b :: rest) (hdg : decode cc pc = .ok (.invokespecial index, 3)) (hM : MC l D cy y ws rm (.ref b :: As) w0 Ψ mc ms)
    (kk : ∀ (w1 : va_W) (H1 : Heap) (locs1 : List Loc), Ψ w1 → va_P D vwCl (wr ++ w1) H1 → va_D A (wr ++ w1) → va_S A s.heap H1 locs1 → W p l e R s m args below meth c H1 locs1 (cells + mc) (slots + ms) Q (F0 m (pc + 3) ls rest)) : W p l e R s m args below meth c H locs cells slots Q (F0 m pc ls st) := by
  obtain ⟨hx, hb, hml, hr, hts, hown, hlocks⟩ := X
  subst hst
  have hP0 := z_P2 hP
  have hD0 := z_D2 hD
  have hFc : ∀ q, va_A w0 H.size q → A q := by
    intro q h
    rcases h with ⟨k, e, h⟩ | h
    · exact hD0.2 k (q, e) h
    · exact hA q (Nat.le_trans hS.1 h)
  refine va_callv (va_runI (As := As) (rest := rest) ⟨hx, hb, hml, hown, hts⟩ (hM H.size) (cwI n hts hG hw hrm.1 hrm.2 hini hlk hin hy1 hd hR) ⟨zP_blind, fun U hU hW => ⟨rfl, by rw [hU], by rw [hU]; exact hP0, va_K.moved hW.alike hK, hD0.weaken (fun _ _ _ _ => trivial)⟩⟩ rfl hn hls rfl (lv_room hroom) hdg hcl) hS (fun q _ h => hFc q h) hFc ?_
  intro u t H1 locs1 ht hvm hw9 hB hz1 hk1 hS1
  obtain ⟨hP1, hK1, hD1⟩ := hB
  rw [ht] at hP1
  obtain ⟨k1, k2⟩ := z_keep (z_P1 hP) (z_Dap hD) hk1 hD1
  exact kk u H1 locs1 hw9 (va_P.app k1 hP1) (va_D.app (z_D1 hD) (hD1.weaken (fun k q _ h => hFc q.1 h)) k2.symm) hS1
theorem z_callCn {y : MethodName} {bytes : ByteArray} {maxL n index mc ms : Nat} {host : String} {ws ws' : List Cond} {rm : Room} {As rest : List Value} {w0 wr : va_W} {Ψ : va_W → Prop} {b : Nat} (X : Cx p s m meth c cc nL rt Ts own args) (hK : va_K D vwCl [(cy, .int)] s) (hP : va_P D vwCl (wr ++ w0) H) (hD : va_D A (wr ++ w0)) (hA : ∀ q, s.heap.size ≤ q → A q) (hS : va_S A s.heap H locs) (hls : ls.size = nL) (hG : GoodIn Ts ws) (hw : ws = Cond.code y bytes maxL none :: ws') (hrm : rm.cells = mc ∧ rm.slots = ms) (hini : (Cond.initialized y.cls).before args s = true) (hlk : va_Nw (.methodLinkNest own index y host) s) (hin : (Cond.instanceMethod y).before args s = true) (hy1 : y.name = "<init>") (hd : y.cls ≠ "java/lang/invoke/MethodHandle" ∧ y.cls ≠ "java/lang/invoke/VarHandle" ∧ (parseMethodDescriptor y.desc).map (fun d => d.parameters.length) = some n) (hR : rm.frames + 1 ≤ R.frames ∧ 8 + (maxL + 11) + rm.locals ≤ R.locals) (hn : As.length = n) (hroom : (rest.map fun v => v.category).sum ≤ 8) (hcl : cells + mc ≤ R.cells ∧ slots + ms ≤ R.slots) {st : List Value} (hst : st = As.reverse ++ .ref b :: rest) (hdg : decode cc pc = .ok (.invokespecial index, 3)) (hM : MC l D cy y ws rm (.ref b :: As) w0 Ψ mc ms)
    (kk : ∀ (w1 : va_W) (H1 : Heap) (locs1 : List Loc), Ψ w1 → va_P D vwCl (wr ++ w1) H1 → va_D A (wr ++ w1) → va_S A s.heap H1 locs1 → W p l e R s m args below meth c H1 locs1 (cells + mc) (slots + ms) Q (F0 m (pc + 3) ls rest)) : W p l e R s m args below meth c H locs cells slots Q (F0 m pc ls st) := by
  obtain ⟨hx, hb, hml, hr, hts, hown, hlocks⟩ := X
  subst hst
  have hP0 := z_P2 hP
  have hD0 := z_D2 hD
  have hFc : ∀ q, va_A w0 H.size q → A q := by
    intro q h
    rcases h with ⟨k, e, h⟩ | h
    · exact hD0.2 k (q, e) h
    · exact hA q (Nat.le_trans hS.1 h)
  refine va_callv (va_runIN (As := As) (rest := rest) ⟨hx, hb, hml, hown, hts⟩ (hM H.size) ⟨va_cnB n hts hG hw hrm.1 hrm.2 hlk hini hd hR, hy1, hin⟩ ⟨zP_blind, fun U hU hW => ⟨rfl, by rw [hU], by rw [hU]; exact hP0, va_K.moved hW.alike hK, hD0.weaken (fun _ _ _ _ => trivial)⟩⟩ rfl hn hls rfl (lv_room hroom) hdg hcl) hS (fun q _ h => hFc q h) hFc ?_
  intro u t H1 locs1 ht hvm hw9 hB hz1 hk1 hS1
  obtain ⟨hP1, hK1, hD1⟩ := hB
  rw [ht] at hP1
  obtain ⟨k1, k2⟩ := z_keep (z_P1 hP) (z_Dap hD) hk1 hD1
  exact kk u H1 locs1 hw9 (va_P.app k1 hP1) (va_D.app (z_D1 hD) (hD1.weaken (fun k q _ h => hFc q.1 h)) k2.symm) hS1
theorem z_callCN {y : MethodName} {bytes : ByteArray} {maxL n index mc ms : Nat} {a9 : String} {i9 : Nat} {x9 : MethodName} {h9 : String} {ws ws' : List Cond} {rm : Room} {As rest : List Value} {w0 wr : va_W} {Ψ : va_W → Prop} {b : Nat} (X : Cx p s m meth c cc nL rt Ts own args) (hK : va_K D vwCl [(cy, .int)] s) (hP : va_P D vwCl (wr ++ w0) H) (hD : va_D A (wr ++ w0)) (hA : ∀ q, s.heap.size ≤ q → A q) (hS : va_S A s.heap H locs) (hls : ls.size = nL) (hG : GoodIn Ts ws) (hw : ws = Cond.code y bytes maxL none :: ws') (hrm : rm.cells = mc ∧ rm.slots = ms) (hini : (Cond.initialized y.cls).before args s = true) (hlk : (Cond.methodLink own index y).before args s = true) (hin : (Cond.instanceMethod y).before args s = true) (hy1 : y.name = "<init>") (hd : y.cls ≠ "java/lang/invoke/MethodHandle" ∧ y.cls ≠ "java/lang/invoke/VarHandle" ∧ (parseMethodDescriptor y.desc).map (fun d => d.parameters.length) = some n) (hR : rm.frames + 1 ≤ R.frames ∧ 8 + (maxL + 11) + rm.locals ≤ R.locals) (hn : As.length = n) (hroom : (rest.map fun v => v.category).sum ≤ 8) (hcl : cells + mc ≤ R.cells ∧ slots + ms ≤ R.slots) {st : List Value} (hst : st = As.reverse ++ .ref b :: rest) (hdg : decode cc pc = .ok (.invokespecial index, 3)) (hN : va_Nw (.methodLinkNest a9 i9 x9 h9) s) (hM : MCN l D cy y ws rm (.ref b :: As) w0 Ψ mc ms (.methodLinkNest a9 i9 x9 h9))
    (kk : ∀ (w1 : va_W) (H1 : Heap) (locs1 : List Loc), Ψ w1 → va_P D vwCl (wr ++ w1) H1 → va_D A (wr ++ w1) → va_S A s.heap H1 locs1 → W p l e R s m args below meth c H1 locs1 (cells + mc) (slots + ms) Q (F0 m (pc + 3) ls rest)) : W p l e R s m args below meth c H locs cells slots Q (F0 m pc ls st) := by
  obtain ⟨hx, hb, hml, hr, hts, hown, hlocks⟩ := X
  subst hst
  have hP0 := z_P2 hP
  have hD0 := z_D2 hD
  have hFc : ∀ q, va_A w0 H.size q → A q := by
    intro q h
    rcases h with ⟨k, e, h⟩ | h
    · exact hD0.2 k (q, e) h
    · exact hA q (Nat.le_trans hS.1 h)
  refine va_callv (va_runI (As := As) (rest := rest) ⟨hx, hb, hml, hown, hts⟩ (hM H.size) (cwI n hts hG hw hrm.1 hrm.2 hini hlk hin hy1 hd hR) ⟨fun a U g mk q => ⟨zP_blind a U g mk q.1, va_Nw.same rfl rfl q.2⟩, fun U hU hW => ⟨⟨rfl, by rw [hU], by rw [hU]; exact hP0, va_K.moved hW.alike hK, hD0.weaken (fun _ _ _ _ => trivial)⟩, va_Nw.warmM hW hN⟩⟩ rfl hn hls rfl (lv_room hroom) hdg hcl) hS (fun q _ h => hFc q h) hFc ?_
  intro u t H1 locs1 ht hvm hw9 hB hz1 hk1 hS1
  obtain ⟨hP1, hK1, hD1⟩ := hB
  rw [ht] at hP1
  obtain ⟨k1, k2⟩ := z_keep (z_P1 hP) (z_Dap hD) hk1 hD1
  exact kk u H1 locs1 hw9 (va_P.app k1 hP1) (va_D.app (z_D1 hD) (hD1.weaken (fun k q _ h => hFc q.1 h)) k2.symm) hS1
end ZF
