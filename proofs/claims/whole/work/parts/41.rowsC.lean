/-! constructors -/
def MC (l : Launch) (D : va_G) (cy : ClassId) (y : MethodName) (ws : List Cond) (rm : Room) (av : List Value) (w0 : va_W) (Ψ : va_W → Prop) (mc ms : Nat) : Prop := ∀ sz : Nat, Met l y ws rm (zP D cy w0 sz av) (zQw D cy (va_A w0 sz) Ψ) mc ms (va_A w0 sz)
theorem MC.ofW {l : Launch} {D : va_G} {cy : ClassId} {y : MethodName} {ws ws' : List Cond} {rm : Room} {av : List Value} {w0 : va_W} {cc : ByteArray} {maxL mc ms : Nat} {ret : Option FieldType} {Ψ : va_W → Prop} (hy : plainName y.cls = true) (hw : ws = Cond.code y cc maxL ret :: ws') (hav : (lg_sl av).length ≤ maxL)
    (body : ∀ (p : Program) (e : Env) (s : State) (m : MethodId) (below : List Frame) (meth : Method) (c : Code) (A : Nat → Prop) (ls : Array Slot), Cx p s m meth c cc maxL ret ws y.cls av.toArray → meth.name = y.name → va_K D vwCl [(cy, .int)] s → va_P D vwCl w0 s.heap → va_D A w0 → (∀ q, s.heap.size ≤ q → A q) → va_S A s.heap s.heap [] → lv_has ls maxL (lv_args 0 av) → W p l e rm s m av.toArray below meth c s.heap [] 0 0 (MQ below (zQw D cy A Ψ) av.toArray s mc ms A) (F0 m 0 ls [])) : MC l D cy y ws rm av w0 Ψ mc ms := by
  intro sz
  refine Met.ofW hy hw ?_
  intro p e s m args below meth c s₁ B hml hv
  obtain ⟨rfl, hsz, hP, hK, hD0⟩ := hv
  subst hsz
  rw [lg_entry_eq]
  exact body p e s m below meth c (va_A w0 s.heap.size) _ ⟨B.exec, B.bytes, hml, B.returns, atoms_spec (ws := ws) B.pre, findClass_of_methodNamed B.named, B.notSynchronized⟩ (name_of_methodNamed B.named B.method).1 hK hP (hD0.self) (fun q h => Or.inr h) va_S.rf (lv_entry av hav)
section ZN
variable {p : Program} {l : Launch} {e : Env} {R : Room} {s : State} {m : MethodId} {args : Array Value} {below : List Frame} {meth : Method} {c : Code} {H : Heap} {locs : List Loc} {cells slots : Nat} {Q : State → Prop}
variable {cc : ByteArray} {pc nL : Nat} {ls : Array Slot} {rest : List Value} {D : va_G} {cy : ClassId} {A : Nat → Prop} {H0 : Heap} {Ts : List Cond} {own : String} {ws : va_W}
theorem z_vretC {w1 : va_W} {mc ms : Nat} {Ψ : va_W → Prop} (X : Cx p s m meth c cc nL none Ts own args) (hK : va_K D vwCl [(cy, .int)] s) (hP : va_P D vwCl w1 H) (hD : va_D A w1) (hS : va_S A s.heap H locs) (hdg : decode cc pc = .ok (.return_, 1)) (hv : Ψ w1) : W p l e R s m args below meth c H locs mc ms (MQ below (zQw D cy A Ψ) args s mc ms A) (F0 m pc ls []) := by
  obtain ⟨hx, hb, hml, hr, hts, hown, hlocks⟩ := X
  exact W.vret hx hb hr (fun t ht hW => ⟨⟨w1, rfl, hv, by rw [ht]; exact hP, va_K.moved hW.alike hK, hD⟩, hS.F ht⟩) hS.2.2 hdg
theorem z_newa (hx : p.tables.exec = Jvm.exec) (hb : c.code = cc) (harr : (Cond.arrayClass .int).before args s = true) (hK : va_K D vwCl [(cy, .int)] s) (hP : va_P D vwCl ws H) (hD : va_D A ws) (hS : va_S A H0 H locs) (hA : ∀ q, H0.size ≤ q → A q) (N : Nat) {n : Int} (hn : n = N) (hN : N ≤ 1000) (hcells : cells + 1 ≤ R.cells) (hslots : slots + N ≤ R.slots) (hdg : decode cc pc = .ok (.newarray .int, 2))
    (kk : ∀ (q : Nat) (H1 : Heap), va_P D vwCl (ws ++ [(q, .inl (cy, N, .inl (aF (fun _ => 0))))]) H1 → va_D A (ws ++ [(q, .inl (cy, N, .inl (aF (fun _ => 0))))]) → va_S A H0 H1 locs → W p l e R s m args below meth c H1 locs (cells + 1) (slots + N) Q (F0 m (pc + 2) ls (.ref q :: rest))) : W p l e R s m args below meth c H locs cells slots Q (F0 m pc ls (.int (iI n) :: rest)) := by
  subst hn
  have ez : aF (fun _ => 0) = fun _ => (0 : Int32) := by
    funext j
    exact iI_0.symm
  refine va_newa (atype := .int) (a0 := (N, .inl (aF (fun _ => 0)))) hx hb harr (ty := .int) rfl hK hP hD hS hA (fun cA => by rw [ez]; rfl) ?_ ?_ ?_ hcells hslots hdg ?_
  · intro q
    rw [iI_0, iI_lt ⟨by omega, by omega⟩ ⟨by omega, by omega⟩] at q
    omega
  · have := iI_clamp (i := (N : Int)) (by omega) (by omega)
    omega
  · show N * 4 ≤ 536870912
    omega
  · intro q cA H1 hK1 hP1 hD1 hS1
    have e1 := (hK.2 0 (cy, .int) rfl).2
    have e2 := (hK1.2 1 (cA, .int) rfl).2
    have e : cA = cy := Option.some.inj (Eq.trans (Eq.symm e2) e1)
    subst e
    exact kk q H1 hP1 hD1 hS1
theorem vp_cg {N : Nat} {f g : Int → Int} (h : ∀ j : Int, 0 ≤ j → j < N → f j = g j) : vp_cell cy (N, .inl (aF f)) = vp_cell cy (N, .inl (aF g)) := by
  rw [vp_cell_i, vp_cell_i]
  unfold arrV
  congr 2
  funext j
  show Value.int (iI (f (j.val : Int))) = Value.int (iI (g (j.val : Int)))
  rw [h j.val (by omega) (by have := j.isLt; omega)]
theorem z_cg {N k a : Nat} {f : Int → Int} (g : Int → Int) (hP : va_P D vwCl ws H) (hk : ws[k]? = some (a, .inl (cy, N, .inl (aF f)))) (h : ∀ j : Int, 0 ≤ j → j < N → f j = g j) : va_P D vwCl (ws.set k (a, .inl (cy, N, .inl (aF g)))) H := by
  intro i q hq
  by_cases e : k = i
  · subst e
    have hl : k < ws.length := (List.getElem?_eq_some_iff.mp hk).1
    rw [List.getElem?_set_self hl] at hq
    cases hq
    show H[a]? = some (vp_cell cy (N, .inl (aF g)))
    rw [← vp_cg h]
    exact hP k _ hk
  · rw [List.getElem?_set_ne e] at hq
    exact hP i q hq
theorem z_cgD {N k a : Nat} {f : Int → Int} (g : Int → Int) (hD : va_D A ws) (hk : ws[k]? = some (a, .inl (cy, N, .inl (aF f)))) : va_D A (ws.set k (a, .inl (cy, N, .inl (aF g)))) := hD.set hk
end ZN
