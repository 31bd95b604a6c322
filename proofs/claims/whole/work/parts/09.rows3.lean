/-! contracts that say of the world behind only what is wanted -/
def zQr (D : va_G) (cy : ClassId) (A : Nat → Prop) (Ψ : Int → va_W → Prop) : Array Value → State → Outcome → State → Prop := va_Qi (fun (x : Int32) (u : va_W) => ∃ r : Int, x = iI r ∧ Ψ r u) (fun u t => zB D cy u A () t) A
def zQw (D : va_G) (cy : ClassId) (A : Nat → Prop) (Ψ : va_W → Prop) : Array Value → State → Outcome → State → Prop := va_Qv (fun (u : va_W) => Ψ u) (fun u t => zB D cy u A () t) A
def MR (l : Launch) (D : va_G) (cy : ClassId) (y : MethodName) (ws : List Cond) (rm : Room) (av : List Value) (w0 : va_W) (Ψ : Int → va_W → Prop) : Prop := ∀ sz : Nat, Met l y ws rm (zP D cy w0 sz av) (zQr D cy (va_A w0 sz) Ψ) 0 0 (va_A w0 sz)
def MW (l : Launch) (D : va_G) (cy : ClassId) (y : MethodName) (ws : List Cond) (rm : Room) (av : List Value) (w0 : va_W) (Ψ : va_W → Prop) : Prop := ∀ sz : Nat, Met l y ws rm (zP D cy w0 sz av) (zQw D cy (va_A w0 sz) Ψ) 0 0 (va_A w0 sz)
section ZC3
variable {l : Launch} {D : va_G} {cy : ClassId} {y : MethodName} {ws ws' : List Cond} {rm : Room} {av : List Value} {w0 : va_W} {cc : ByteArray} {maxL : Nat} {ret : Option FieldType}

theorem MR.ofW {Ψ : Int → va_W → Prop} (hy : plainName y.cls = true) (hw : ws = Cond.code y cc maxL ret :: ws') (hav : (lg_sl av).length ≤ maxL)
    (body : ∀ (p : Program) (e : Env) (s : State) (m : MethodId) (below : List Frame) (meth : Method) (c : Code) (A : Nat → Prop) (ls : Array Slot), Cx p s m meth c cc maxL ret ws y.cls av.toArray → va_K D vwCl [(cy, .int)] s → va_P D vwCl w0 s.heap → va_D A w0 → (∀ q, s.heap.size ≤ q → A q) → va_S A s.heap s.heap [] → lv_has ls maxL (lv_args 0 av) → W p l e rm s m av.toArray below meth c s.heap [] 0 0 (MQ below (zQr D cy A Ψ) av.toArray s 0 0 A) (F0 m 0 ls [])) : MR l D cy y ws rm av w0 Ψ := by
  intro sz
  refine Met.ofW hy hw ?_
  intro p e s m args below meth c s₁ B hml hv
  obtain ⟨rfl, hsz, hP, hK, hD0⟩ := hv
  subst hsz
  rw [lg_entry_eq]
  exact body p e s m below meth c (va_A w0 s.heap.size) _ ⟨B.exec, B.bytes, hml, B.returns, atoms_spec (ws := ws) B.pre, findClass_of_methodNamed B.named, B.notSynchronized⟩ hK hP (hD0.self) (fun q h => Or.inr h) va_S.rf (lv_entry av hav)
theorem MW.ofW {Ψ : va_W → Prop} (hy : plainName y.cls = true) (hw : ws = Cond.code y cc maxL ret :: ws') (hav : (lg_sl av).length ≤ maxL)
    (body : ∀ (p : Program) (e : Env) (s : State) (m : MethodId) (below : List Frame) (meth : Method) (c : Code) (A : Nat → Prop) (ls : Array Slot), Cx p s m meth c cc maxL ret ws y.cls av.toArray → va_K D vwCl [(cy, .int)] s → va_P D vwCl w0 s.heap → va_D A w0 → (∀ q, s.heap.size ≤ q → A q) → va_S A s.heap s.heap [] → lv_has ls maxL (lv_args 0 av) → W p l e rm s m av.toArray below meth c s.heap [] 0 0 (MQ below (zQw D cy A Ψ) av.toArray s 0 0 A) (F0 m 0 ls [])) : MW l D cy y ws rm av w0 Ψ := by
  intro sz
  refine Met.ofW hy hw ?_
  intro p e s m args below meth c s₁ B hml hv
  obtain ⟨rfl, hsz, hP, hK, hD0⟩ := hv
  subst hsz
  rw [lg_entry_eq]
  exact body p e s m below meth c (va_A w0 s.heap.size) _ ⟨B.exec, B.bytes, hml, B.returns, atoms_spec (ws := ws) B.pre, findClass_of_methodNamed B.named, B.notSynchronized⟩ hK hP (hD0.self) (fun q h => Or.inr h) va_S.rf (lv_entry av hav)

end ZC3
section ZD3
variable {p : Program} {l : Launch} {e : Env} {R : Room} {s : State} {m : MethodId} {args : Array Value} {below : List Frame} {meth : Method} {c : Code} {H : Heap} {locs : List Loc} {cells slots : Nat} {Q : State → Prop}
variable {cc : ByteArray} {pc nL : Nat} {ls : Array Slot} {D : va_G} {cy : ClassId} {A : Nat → Prop} {H0 : Heap} {rt : Option FieldType} {Ts : List Cond} {own : String}
theorem z_iretR {w1 : va_W} {v : Int} {Ψ : Int → va_W → Prop} (X : Cx p s m meth c cc nL (some .int) Ts own args) (hK : va_K D vwCl [(cy, .int)] s) (hP : va_P D vwCl w1 H) (hD : va_D A w1) (hS : va_S A s.heap H locs) (hdg : decode cc pc = .ok (.ireturn, 1)) (hv : Ψ v w1) : W p l e R s m args below meth c H locs 0 0 (MQ below (zQr D cy A Ψ) args s 0 0 A) (F0 m pc ls [.int (iI v)]) := by
  obtain ⟨hx, hb, hml, hr, hts, hown, hlocks⟩ := X
  exact W.iret hx hb hr (fun t ht hW => ⟨⟨iI v, w1, rfl, ⟨v, rfl, hv⟩, by rw [ht]; exact hP, va_K.moved hW.alike hK, hD⟩, hS.F ht⟩) hS.2.2 hdg
theorem z_vretR {w1 : va_W} {Ψ : va_W → Prop} (X : Cx p s m meth c cc nL none Ts own args) (hK : va_K D vwCl [(cy, .int)] s) (hP : va_P D vwCl w1 H) (hD : va_D A w1) (hS : va_S A s.heap H locs) (hdg : decode cc pc = .ok (.return_, 1)) (hv : Ψ w1) : W p l e R s m args below meth c H locs 0 0 (MQ below (zQw D cy A Ψ) args s 0 0 A) (F0 m pc ls []) := by
  obtain ⟨hx, hb, hml, hr, hts, hown, hlocks⟩ := X
  exact W.vret hx hb hr (fun t ht hW => ⟨⟨w1, rfl, hv, by rw [ht]; exact hP, va_K.moved hW.alike hK, hD⟩, hS.F ht⟩) hS.2.2 hdg

theorem z_callVr {y : MethodName} {bytes : ByteArray} {maxL n index : Nat} {ret : Option FieldType} {ws ws' : List Cond} {rm : Room} {As rest : List Value} {w0 : va_W} {Ψ : Int → va_W → Prop} {b ci q0 : Nat} {C : String} {fs : List Value} {T : u_T} {N : Nat} (X : Cx p s m meth c cc nL rt Ts own args) (hK : va_K D vwCl [(cy, .int)] s) (hP : va_P D vwCl w0 H) (hD : va_D A w0) (hA : ∀ q, s.heap.size ≤ q → A q) (hS : va_S A s.heap H locs) (hls : ls.size = nL) (hG : GoodIn Ts (wsV own index C y ws)) (hw : ws = Cond.code y bytes maxL ret :: ws') (hrm : rm.cells = 0 ∧ rm.slots = 0) (hd : y.cls = C ∧ y.cls ≠ "java/lang/invoke/MethodHandle" ∧ y.cls ≠ "java/lang/invoke/VarHandle" ∧ (parseMethodDescriptor y.desc).map (fun d => d.parameters.length) = some n) (hR : rm.frames + 1 ≤ R.frames ∧ 8 + (maxL + 11) + rm.locals ≤ R.locals) (hc : vwCl[ci]? = some (C, T, N)) (he : w0[q0]? = some (b, .inr (ci, fs))) (hn : As.length = n) (hroom : (rest.map fun v => v.category).sum ≤ 8) (hcl : cells ≤ R.cells ∧ slots ≤ R.slots) {st : List Value} (hst : st = As.reverse ++ .ref b :: rest) (hdg : decode cc pc = .ok (.invokevirtual index, 3)) (hM : MR l D cy y ws rm (.ref b :: As) w0 Ψ)
    (kk : ∀ (r : Int) (w1 : va_W) (H1 : Heap) (locs1 : List Loc), Ψ r w1 → va_P D vwCl w1 H1 → va_D A w1 → va_S A s.heap H1 locs1 → W p l e R s m args below meth c H1 locs1 cells slots Q (F0 m (pc + 3) ls (.int (iI r) :: rest))) : W p l e R s m args below meth c H locs cells slots Q (F0 m pc ls st) := by
  obtain ⟨hx, hb, hml, hr, hts, hown, hlocks⟩ := X
  subst hst
  have hFc : ∀ q, va_A w0 H.size q → A q := by
    intro q h
    rcases h with ⟨k, e, h⟩ | h
    · exact hD.2 k (q, e) h
    · exact hA q (Nat.le_trans hS.1 h)
  refine va_calli (va_runV (As := As) (rest := rest) ⟨hx, hb, hml, hown, hts⟩ (hM H.size) (cwV n hts hG hw hrm.1 hrm.2 hd hR) ⟨zP_blind, va_recv (q0 := q0) hK hP hc he, fun U hU hW => ⟨rfl, by rw [hU], by rw [hU]; exact hP, va_K.moved hW.alike hK, hD.weaken (fun _ _ _ _ => trivial)⟩⟩ rfl hn hls rfl (lv_room hroom) hdg hcl) hS (fun q _ h => hFc q h) hFc ?_
  intro x9 u t H1 locs1 ht hvm hw9 hB hz1 hk1 hS1
  obtain ⟨hP1, hK1, hD1⟩ := hB
  rw [ht] at hP1
  obtain ⟨r, rfl, hΨ⟩ := hw9
  exact kk r u H1 locs1 hΨ hP1 (hD1.weaken (fun k q _ h => hFc q.1 h)) hS1

theorem z_callVw {y : MethodName} {bytes : ByteArray} {maxL n index : Nat} {ret : Option FieldType} {ws ws' : List Cond} {rm : Room} {As rest : List Value} {w0 : va_W} {Ψ : va_W → Prop} {b ci q0 : Nat} {C : String} {fs : List Value} {T : u_T} {N : Nat} (X : Cx p s m meth c cc nL rt Ts own args) (hK : va_K D vwCl [(cy, .int)] s) (hP : va_P D vwCl w0 H) (hD : va_D A w0) (hA : ∀ q, s.heap.size ≤ q → A q) (hS : va_S A s.heap H locs) (hls : ls.size = nL) (hG : GoodIn Ts (wsV own index C y ws)) (hw : ws = Cond.code y bytes maxL ret :: ws') (hrm : rm.cells = 0 ∧ rm.slots = 0) (hd : y.cls = C ∧ y.cls ≠ "java/lang/invoke/MethodHandle" ∧ y.cls ≠ "java/lang/invoke/VarHandle" ∧ (parseMethodDescriptor y.desc).map (fun d => d.parameters.length) = some n) (hR : rm.frames + 1 ≤ R.frames ∧ 8 + (maxL + 11) + rm.locals ≤ R.locals) (hc : vwCl[ci]? = some (C, T, N)) (he : w0[q0]? = some (b, .inr (ci, fs))) (hn : As.length = n) (hroom : (rest.map fun v => v.category).sum ≤ 8) (hcl : cells ≤ R.cells ∧ slots ≤ R.slots) {st : List Value} (hst : st = As.reverse ++ .ref b :: rest) (hdg : decode cc pc = .ok (.invokevirtual index, 3)) (hM : MW l D cy y ws rm (.ref b :: As) w0 Ψ)
    (kk : ∀ (w1 : va_W) (H1 : Heap) (locs1 : List Loc), Ψ w1 → va_P D vwCl w1 H1 → va_D A w1 → va_S A s.heap H1 locs1 → W p l e R s m args below meth c H1 locs1 cells slots Q (F0 m (pc + 3) ls (rest))) : W p l e R s m args below meth c H locs cells slots Q (F0 m pc ls st) := by
  obtain ⟨hx, hb, hml, hr, hts, hown, hlocks⟩ := X
  subst hst
  have hFc : ∀ q, va_A w0 H.size q → A q := by
    intro q h
    rcases h with ⟨k, e, h⟩ | h
    · exact hD.2 k (q, e) h
    · exact hA q (Nat.le_trans hS.1 h)
  refine va_callv (va_runV (As := As) (rest := rest) ⟨hx, hb, hml, hown, hts⟩ (hM H.size) (cwV n hts hG hw hrm.1 hrm.2 hd hR) ⟨zP_blind, va_recv (q0 := q0) hK hP hc he, fun U hU hW => ⟨rfl, by rw [hU], by rw [hU]; exact hP, va_K.moved hW.alike hK, hD.weaken (fun _ _ _ _ => trivial)⟩⟩ rfl hn hls rfl (lv_room hroom) hdg hcl) hS (fun q _ h => hFc q h) hFc ?_
  intro u t H1 locs1 ht hvm hw9 hB hz1 hk1 hS1
  obtain ⟨hP1, hK1, hD1⟩ := hB
  rw [ht] at hP1
  have hΨ := hw9
  exact kk u H1 locs1 hΨ hP1 (hD1.weaken (fun k q _ h => hFc q.1 h)) hS1

end ZD3
