noncomputable def bP (P : Prop) : Int := @ite Int P (Classical.propDecidable P) 1 0
theorem bP_1 {P : Prop} (h : P) : bP P = 1 := if_pos h
theorem bP_0 {P : Prop} (h : ¬ P) : bP P = 0 := if_neg h
theorem bP_b (P : Prop) : 0 ≤ bP P ∧ bP P ≤ 1 := by
  by_cases h : P
  · rw [bP_1 h]; decide
  · rw [bP_0 h]; decide
theorem bP_c {P P2 : Prop} (h : P ↔ P2) : bP P = bP P2 := by rw [propext h]
theorem bP_z {P : Prop} : iI (bP P) = 0 ↔ ¬ P := by
  by_cases h : P
  · rw [bP_1 h]; exact ⟨fun q => absurd q (by decide), fun q => absurd h q⟩
  · rw [bP_0 h]; exact ⟨fun _ => h, fun _ => by decide⟩
theorem bP_if (P : Prop) [Decidable P] : bP P = if P then 1 else 0 := by
  by_cases h : P
  · rw [bP_1 h, if_pos h]
  · rw [bP_0 h, if_neg h]
def shZ (a b : Int) : Int := if b = 0 then a else 2 * a
def srZ (a b : Int) : Int := a / 2 ^ b.toNat
def cmZ (a b : Int) : Int := if b < a then 1 else if a = b then 0 else -1
theorem cmZ_b (a b : Int) : (b < a ∧ cmZ a b = 1) ∨ (a = b ∧ cmZ a b = 0) ∨ (a < b ∧ cmZ a b = -1) := by
  unfold cmZ
  split
  · omega
  · split <;> omega
theorem iI_nI {a : Int} (h : 0 ≤ a) : iI a = nI a.toNat := by
  have e : ((a.toNat : Nat) : Int) = a := by omega
  unfold iI nI
  rw [← e]
  first | rfl | exact Int32.ofInt_eq_ofNat | simp
theorem nI_iI (n : Nat) : nI n = iI (n : Int) := by rw [iI_nI (by omega)]; rfl
theorem shZ_i {a b : Int} (h : 0 ≤ a ∧ a ≤ 1000000 ∧ 0 ≤ b ∧ b ≤ 1) : iI a <<< (iI b &&& 31) = iI (shZ a b) := by
  obtain ⟨h1, h2, h3, h4⟩ := h
  unfold shZ
  rcases (show b = 0 ∨ b = 1 by omega) with rfl | rfl
  · rw [if_pos rfl]; exact sb_shl0 _
  · rw [if_neg (by decide), iI_nI h1, pk_shlN (iI 1 &&& 31) 1 (by decide) (by omega), nI_iI]
    congr 1
    omega
theorem srZ_i {a b : Int} (h : 0 ≤ a ∧ a ≤ 1000000 ∧ 0 ≤ b ∧ b ≤ 3) : iI a >>> (iI b &&& 31) = iI (srZ a b) := by
  obtain ⟨h1, h2, h3, h4⟩ := h
  have e : ((a.toNat : Nat) : Int) = a := by omega
  unfold srZ
  rw [iI_nI h1]
  rcases (show b = 0 ∨ b = 1 ∨ b = 2 ∨ b = 3 by omega) with rfl | rfl | rfl | rfl
  · rw [pk_shrN (by omega) (iI 0 &&& 31) 0 (by decide), nI_iI]
    congr 1
    show ((a.toNat / 1 : Nat) : Int) = a / 1
    omega
  · rw [pk_shrN (by omega) (iI 1 &&& 31) 1 (by decide), nI_iI]
    congr 1
    show ((a.toNat / 2 : Nat) : Int) = a / 2
    omega
  · rw [pk_shrN (by omega) (iI 2 &&& 31) 2 (by decide), nI_iI]
    congr 1
    show ((a.toNat / 4 : Nat) : Int) = a / 4
    omega
  · rw [pk_shrN (by omega) (iI 3 &&& 31) 3 (by decide), nI_iI]
    congr 1
    show ((a.toNat / 8 : Nat) : Int) = a / 8
    omega
theorem and1_i {a : Int} (h : 0 ≤ a ∧ a ≤ 1000000) : iI a &&& iI 1 = iI (a % 2) := by
  rw [iI_nI h.1, pk_andN (by omega) 1 (by decide), nI_iI]
  congr 1
  show ((a.toNat % 2 : Nat) : Int) = a % 2
  omega
theorem cmZ_i {a b : Int} (h : -2147483648 ≤ a ∧ a ≤ 2147483647 ∧ -2147483648 ≤ b ∧ b ≤ 2147483647) : lg_cmp (lI a) (lI b) = iI (cmZ a b) := by
  have ha : rg a := ⟨h.1, h.2.1⟩
  have hb : rg b := ⟨h.2.2.1, h.2.2.2⟩
  unfold lg_cmp cmZ
  by_cases h1 : b < a
  · rw [if_pos ((lI_lt hb ha).mpr h1), if_pos h1]; decide
  · rw [if_neg (fun q => h1 ((lI_lt hb ha).mp q)), if_neg h1]
    by_cases h2 : a = b
    · rw [if_pos (by rw [h2]), if_pos h2]; decide
    · rw [if_neg (fun q => h2 ((lI_eq ha hb).mp q)), if_neg h2]; decide
section ZS
variable {p : Program} {l : Launch} {e : Env} {R : Room} {s : State} {m : MethodId} {args : Array Value} {below : List Frame} {meth : Method} {c : Code} {H : Heap} {locs : List Loc} {cells slots : Nat} {Q : State → Prop}
variable {cc : ByteArray} {pc nL : Nat} {ls : Array Slot} {rest : List Value} {D : va_G} {cy : ClassId} {A : Nat → Prop} {Ts : List Cond} {own : String}
theorem z_ifp_eq (hx : p.tables.exec = Jvm.exec) (hb : c.code = cc) {P : Prop} {off : Int} {tgt : Nat} (hdg : decode cc pc = .ok (.ifCond .eq off, 3)) (ht : (pc : Int) + off = (tgt : Int)) (kt : ¬ P → W p l e R s m args below meth c H locs cells slots Q (F0 m tgt ls rest)) (kf : P → W p l e R s m args below meth c H locs cells slots Q (F0 m (pc + 3) ls rest)) : W p l e R s m args below meth c H locs cells slots Q (F0 m pc ls (.int (iI (bP P)) :: rest)) := lv_if_eq hx hb hdg ht (fun q => kt (bP_z.mp q)) (fun q => kf (Classical.byContradiction fun z => q (bP_z.mpr z)))
theorem z_ifp_ne (hx : p.tables.exec = Jvm.exec) (hb : c.code = cc) {P : Prop} {off : Int} {tgt : Nat} (hdg : decode cc pc = .ok (.ifCond .ne off, 3)) (ht : (pc : Int) + off = (tgt : Int)) (kt : P → W p l e R s m args below meth c H locs cells slots Q (F0 m tgt ls rest)) (kf : ¬ P → W p l e R s m args below meth c H locs cells slots Q (F0 m (pc + 3) ls rest)) : W p l e R s m args below meth c H locs cells slots Q (F0 m pc ls (.int (iI (bP P)) :: rest)) := lv_if_ne hx hb hdg ht (fun q => kt (Classical.byContradiction fun z => q (bP_z.mpr z))) (fun q => kf (bP_z.mp q))
theorem z_pret1 {w1 : va_W} {P : Prop} (X : Cx p s m meth c cc nL (some .boolean) Ts own args) (hK : va_K D vwCl [(cy, .int)] s) (hP : va_P D vwCl w1 H) (hD : va_D A w1) (hS : va_S A s.heap H locs) (hdg : decode cc pc = .ok (.ireturn, 1)) (hp : P) : W p l e R s m args below meth c H locs 0 0 (MQ below (zQi D cy w1 A (bP P)) args s 0 0 A) (F0 m pc ls [.int (iI 1)]) := z_zret (b := true) X hK hP hD hS hdg (bP_1 hp).symm
theorem z_pret0 {w1 : va_W} {P : Prop} (X : Cx p s m meth c cc nL (some .boolean) Ts own args) (hK : va_K D vwCl [(cy, .int)] s) (hP : va_P D vwCl w1 H) (hD : va_D A w1) (hS : va_S A s.heap H locs) (hdg : decode cc pc = .ok (.ireturn, 1)) (hp : ¬ P) : W p l e R s m args below meth c H locs 0 0 (MQ below (zQi D cy w1 A (bP P)) args s 0 0 A) (F0 m pc ls [.int (iI 0)]) := z_zret (b := false) X hK hP hD hS hdg (bP_0 hp).symm
theorem z_pretp {w1 : va_W} {P P2 : Prop} (X : Cx p s m meth c cc nL (some .boolean) Ts own args) (hK : va_K D vwCl [(cy, .int)] s) (hP : va_P D vwCl w1 H) (hD : va_D A w1) (hS : va_S A s.heap H locs) (hdg : decode cc pc = .ok (.ireturn, 1)) (hp : P2 ↔ P) : W p l e R s m args below meth c H locs 0 0 (MQ below (zQi D cy w1 A (bP P)) args s 0 0 A) (F0 m pc ls [.int (iI (bP P2))]) := by
  by_cases h : P2
  · rw [bP_1 h]; exact z_pret1 X hK hP hD hS hdg (hp.mp h)
  · rw [bP_0 h]; exact z_pret0 X hK hP hD hS hdg (fun z => h (hp.mpr z))
theorem z_ishl (hx : p.tables.exec = Jvm.exec) (hb : c.code = cc) {a b : Int} (hdg : decode cc pc = .ok (.ishl, 1)) (h : 0 ≤ a ∧ a ≤ 1000000 ∧ 0 ≤ b ∧ b ≤ 1) (k : W p l e R s m args below meth c H locs cells slots Q (F0 m (pc + 1) ls (.int (iI (shZ a b)) :: rest))) : W p l e R s m args below meth c H locs cells slots Q (F0 m pc ls (.int (iI b) :: .int (iI a) :: rest)) := lv_ishl hx hb hdg (by rw [shZ_i h]; exact k)
theorem z_ishr (hx : p.tables.exec = Jvm.exec) (hb : c.code = cc) {a b : Int} (hdg : decode cc pc = .ok (.ishr, 1)) (h : 0 ≤ a ∧ a ≤ 1000000 ∧ 0 ≤ b ∧ b ≤ 3) (k : W p l e R s m args below meth c H locs cells slots Q (F0 m (pc + 1) ls (.int (iI (srZ a b)) :: rest))) : W p l e R s m args below meth c H locs cells slots Q (F0 m pc ls (.int (iI b) :: .int (iI a) :: rest)) := lv_ishr hx hb hdg (by rw [srZ_i h]; exact k)
theorem z_iand1 (hx : p.tables.exec = Jvm.exec) (hb : c.code = cc) {a : Int} (hdg : decode cc pc = .ok (.iand, 1)) (h : 0 ≤ a ∧ a ≤ 1000000) (k : W p l e R s m args below meth c H locs cells slots Q (F0 m (pc + 1) ls (.int (iI (a % 2)) :: rest))) : W p l e R s m args below meth c H locs cells slots Q (F0 m pc ls (.int (iI 1) :: .int (iI a) :: rest)) := lv_iand hx hb hdg (by rw [and1_i h]; exact k)
theorem z_lcmp (hx : p.tables.exec = Jvm.exec) (hb : c.code = cc) {a b : Int} (hdg : decode cc pc = .ok (.lcmp, 1)) (h : -2147483648 ≤ a ∧ a ≤ 2147483647 ∧ -2147483648 ≤ b ∧ b ≤ 2147483647) (k : W p l e R s m args below meth c H locs cells slots Q (F0 m (pc + 1) ls (.int (iI (cmZ a b)) :: rest))) : W p l e R s m args below meth c H locs cells slots Q (F0 m pc ls (.long (lI b) :: .long (lI a) :: rest)) := W.lcmp hx hb hdg (by rw [cmZ_i h]; exact k)
theorem z_tabIn (hx : p.tables.exec = Jvm.exec) (hb : c.code = cc) {dflt lo hi : Int} {offs : Array Int} {len : Nat} {t z off : Int} {tgt : Nat} (hdg : decode cc pc = .ok (.tableswitch dflt lo hi offs, len)) (h : t = z) (hz : -2147483648 ≤ z ∧ z ≤ 2147483647) (h1 : ¬ z < lo) (h2 : ¬ hi < z) (ho : offs[(z - lo).toNat]? = some off) (ht : (pc : Int) + off = (tgt : Int)) (k : W p l e R s m args below meth c H locs cells slots Q (F0 m tgt ls rest)) : W p l e R s m args below meth c H locs cells slots Q (F0 m pc ls (.int (iI t) :: rest)) := by
  subst h
  have e := iI_toInt (z := t) hz
  exact lv_tableIn hx hb hdg (by rw [e]; exact h1) (by rw [e]; exact h2) (by rw [e]; exact ho) ht k
theorem z_tabOut (hx : p.tables.exec = Jvm.exec) (hb : c.code = cc) {dflt lo hi : Int} {offs : Array Int} {len : Nat} {t : Int} {tgt : Nat} (hdg : decode cc pc = .ok (.tableswitch dflt lo hi offs, len)) (hz : -2147483648 ≤ t ∧ t ≤ 2147483647) (h1 : t < lo ∨ hi < t) (ht : (pc : Int) + dflt = (tgt : Int)) (k : W p l e R s m args below meth c H locs cells slots Q (F0 m tgt ls rest)) : W p l e R s m args below meth c H locs cells slots Q (F0 m pc ls (.int (iI t) :: rest)) := by
  have e := iI_toInt (z := t) hz
  exact lv_tableOut hx hb hdg (by rw [e]; exact h1) ht k
end ZS
