/-! what always holds is kept by every call -/
theorem okS_keys {nK sc pi re bk : Int} {st le be te ab bl ka bg ln ns me : Int → Int} {v : Int} (I : okS nK st le be te ab bl ka bg ln ns me sc pi re bk) (h : 1 ≤ v ∧ v ≤ 24) : okS (v) st le be te ab bl ka bg ln ns me sc pi re bk :=
  ⟨h, I.st, I.le, I.be, I.te, I.ab, I.bl, I.ka, I.bg, I.ln, I.ns, I.me, I.sc, I.pi, I.re, I.bk, I.so, I.l1⟩
theorem okS_strike {nK sc pi re bk : Int} {st le be te ab bl ka bg ln ns me : Int → Int} {k s9 l9 : Int} (I : okS nK st le be te ab bl ka bg ln ns me sc pi re bk) (h : 0 ≤ s9 ∧ s9 ≤ 23) (h2 : 500 ≤ l9 ∧ l9 ≤ 9999) : okS nK (uZ st k s9) (uZ le k l9) (uZ be k 0) te ab bl ka bg ln ns me sc pi re bk :=
  ⟨I.nK, fun j => (by unfold uZ; split; exact h; exact I.st j), fun j => (by unfold uZ; split; exact h2; exact I.le j), fun j => (by unfold uZ; split; omega; exact I.be j), I.te, I.ab, I.bl, I.ka, I.bg, I.ln, I.ns, I.me, I.sc, I.pi, I.re, I.bk, I.so, I.l1⟩
theorem okS_tension {nK sc pi re bk : Int} {st le be te ab bl ka bg ln ns me : Int → Int} {k v : Int} (I : okS nK st le be te ab bl ka bg ln ns me sc pi re bk) (h : 100 ≤ v ∧ v ≤ 20000) : okS nK st le be (uZ te k v) ab bl ka bg ln ns me sc pi re bk :=
  ⟨I.nK, I.st, I.le, I.be, fun j => (by unfold uZ; split; exact h; exact I.te j), I.ab, I.bl, I.ka, I.bg, I.ln, I.ns, I.me, I.sc, I.pi, I.re, I.bk, I.so, I.l1⟩
theorem okS_step {nK sc pi re bk : Int} {st le be te ab bl ka bg ln ns me : Int → Int} {k a9 b9 : Int} (I : okS nK st le be te ab bl ka bg ln ns me sc pi re bk) (h : 1 ≤ a9 ∧ a9 ≤ 999) (h2 : 1 ≤ b9 ∧ b9 ≤ 999) (h3 : a9 ≤ 4 * b9) : okS nK st le be te (uZ ab k a9) (uZ bl k b9) ka bg ln ns me sc pi re bk :=
  ⟨I.nK, I.st, I.le, I.be, I.te, fun j => (by unfold uZ; split; exact h; exact I.ab j), fun j => (by unfold uZ; split; exact ⟨h2.1, h2.2, h3⟩; exact I.bl j), I.ka, I.bg, I.ln, I.ns, I.me, I.sc, I.pi, I.re, I.bk, I.so, I.l1⟩
theorem okS_use {nK sc pi re bk : Int} {st le be te ab bl ka bg ln ns me : Int → Int} {v : Int} (I : okS nK st le be te ab bl ka bg ln ns me sc pi re bk) (h : 0 ≤ v ∧ v ≤ 4) : okS nK st le be te ab bl ka bg ln ns me (v) pi re bk :=
  ⟨I.nK, I.st, I.le, I.be, I.te, I.ab, I.bl, I.ka, I.bg, I.ln, I.ns, I.me, h, I.pi, I.re, I.bk, I.so, I.l1⟩
theorem okS_pitch {nK sc pi re bk : Int} {st le be te ab bl ka bg ln ns me : Int → Int} {v : Int} (I : okS nK st le be te ab bl ka bg ln ns me sc pi re bk) (h : 1000 ≤ v ∧ v ≤ 200000) : okS nK st le be te ab bl ka bg ln ns me sc (v) re bk :=
  ⟨I.nK, I.st, I.le, I.be, I.te, I.ab, I.bl, I.ka, I.bg, I.ln, I.ns, I.me, I.sc, h, I.re, I.bk, I.so, I.l1⟩
theorem okS_rest {nK sc pi re bk : Int} {st le be te ab bl ka bg ln ns me : Int → Int} {v : Int} (I : okS nK st le be te ab bl ka bg ln ns me sc pi re bk) (h : 0 ≤ v ∧ v ≤ 20) : okS nK st le be te ab bl ka bg ln ns me sc pi (v) bk :=
  ⟨I.nK, I.st, I.le, I.be, I.te, I.ab, I.bl, I.ka, I.bg, I.ln, I.ns, I.me, I.sc, I.pi, h, I.bk, I.so, I.l1⟩
theorem okS_book {nK sc pi re bk : Int} {st le be te ab bl ka bg ln ns me : Int → Int} {v : Int} (I : okS nK st le be te ab bl ka bg ln ns me sc pi re bk) (h : 0 ≤ v ∧ v ≤ 15) : okS nK st le be te ab bl ka bg ln ns me sc pi re (v) :=
  ⟨I.nK, I.st, I.le, I.be, I.te, I.ab, I.bl, I.ka, I.bg, I.ln, I.ns, I.me, I.sc, I.pi, I.re, h, I.so, I.l1⟩
theorem okS_measure {nK sc pi re bk : Int} {st le be te ab bl ka bg ln ns me : Int → Int} {k v : Int} (I : okS nK st le be te ab bl ka bg ln ns me sc pi re bk) (h : v = -100009 ∨ (100 ≤ v ∧ v ≤ 400000)) : okS nK st le be te ab bl ka bg ln ns (uZ me k v) sc pi re bk :=
  ⟨I.nK, I.st, I.le, I.be, I.te, I.ab, I.bl, I.ka, I.bg, I.ln, I.ns, fun j => (by unfold uZ; split; exact h; exact I.me j), I.sc, I.pi, I.re, I.bk, I.so, I.l1⟩
theorem okS_stx {nK sc pi re bk : Int} {st le be te ab bl ka bg ln ns me : Int → Int} {s2 : Int → Int} (I : okS nK st le be te ab bl ka bg ln ns me sc pi re bk) (h : ∀ j, 0 ≤ s2 j ∧ s2 j ≤ 23) : okS nK (s2) le be te ab bl ka bg ln ns me sc pi re bk :=
  ⟨I.nK, h, I.le, I.be, I.te, I.ab, I.bl, I.ka, I.bg, I.ln, I.ns, I.me, I.sc, I.pi, I.re, I.bk, I.so, I.l1⟩
theorem okS_wipe {nK sc pi re bk : Int} {st le be te ab bl ka bg ln ns me : Int → Int} {p : Int} (I : okS nK st le be te ab bl ka bg ln ns me sc pi re bk) : okS nK st le be te ab bl ka bg ln (uZ ns p 0) me sc pi re bk :=
  ⟨I.nK, I.st, I.le, I.be, I.te, I.ab, I.bl, I.ka, I.bg, I.ln, fun j => (by unfold uZ; split; omega; exact I.ns j), I.me, I.sc, I.pi, I.re, I.bk, fun a i j h1 h2 h3 h4 h5 => (by by_cases q : a = p; (rw [q, uZ_same] at h5; omega); (rw [uZ_other q] at h5; exact I.so a i j h1 h2 h3 h4 h5)), fun a i h1 h2 h3 h4 => (by by_cases q : a = p; (rw [q, uZ_same] at h4; omega); (rw [uZ_other q] at h4; exact I.l1 a i h1 h2 h3 h4))⟩
theorem okS_note {nK sc pi re bk : Int} {st le be te ab bl ka bg ln ns me : Int → Int} {p k b9 l9 : Int} (I : okS nK st le be te ab bl ka bg ln ns me sc pi re bk) (hp : 0 ≤ p ∧ p ≤ 3) (hk : 0 ≤ k ∧ k ≤ 23) (hb : 0 ≤ b9 ∧ b9 ≤ 999) (hl : 1 ≤ l9 ∧ l9 ≤ 99) (hL : (if ns p = 0 then 0 else bg (p * 40 + ns p - 1)) ≤ b9) (hn : ns p < 40) : okS nK st le be te ab bl (uZ ka (p * 40 + ns p) k) (uZ bg (p * 40 + ns p) b9) (uZ ln (p * 40 + ns p) l9) (uZ ns p (ns p + 1)) me sc pi re bk := by
  have n0 := I.ns p
  refine ⟨I.nK, I.st, I.le, I.be, I.te, I.ab, I.bl, fun j => (by unfold uZ; split; exact hk; exact I.ka j), fun j => (by unfold uZ; split; exact hb; exact I.bg j), fun j => (by unfold uZ; split; omega; exact I.ln j), fun j => (by unfold uZ; split; omega; exact I.ns j), I.me, I.sc, I.pi, I.re, I.bk, ?_, ?_⟩
  · intro a i j h1 h2 h3 h4 h5
    by_cases q : a = p
    · subst q
      rw [uZ_same] at h5
      rcases (show j < ns a ∨ j = ns a by omega) with z | z
      · rw [uZ_other (by omega), uZ_other (by omega)]
        exact I.so a i j h1 h2 h3 h4 z
      · rcases (show i = ns a ∨ i < ns a by omega) with y | y
        · rw [y, z]; exact Int.le_refl _
        · rw [z, show 40 * a + ns a = a * 40 + ns a by omega, uZ_same, uZ_other (by omega)]
          rw [if_neg (by omega)] at hL
          have t := I.so a i (ns a - 1) h1 h2 h3 (by omega) (by omega)
          rw [show 40 * a + (ns a - 1) = a * 40 + ns a - 1 by omega] at t
          omega
    · rw [uZ_other q] at h5
      have m := I.ns a
      rw [uZ_other (by omega), uZ_other (by omega)]
      exact I.so a i j h1 h2 h3 h4 h5
  · intro a i h1 h2 h3 h4
    by_cases q : a = p
    · subst q
      rw [uZ_same] at h4
      rcases (show i < ns a ∨ i = ns a by omega) with z | z
      · rw [uZ_other (by omega)]
        exact I.l1 a i h1 h2 h3 z
      · rw [z, show 40 * a + ns a = a * 40 + ns a by omega, uZ_same]
        omega
    · rw [uZ_other q] at h4
      have m := I.ns a
      rw [uZ_other (by omega)]
      exact I.l1 a i h1 h2 h3 h4
theorem okS_setUp {nK sc pi re bk : Int} {st le be te ab bl ka bg ln ns me : Int → Int} {C : Int → Int → Int} {m S : Int} (I : okS nK st le be te ab bl ka bg ln ns me sc pi re bk) (hC : ∀ a b, 0 ≤ C a b) (hd : dp C nK m S 0 < 1000000) (hS : 1 ≤ S ∧ S ≤ nK) : okS nK (suS C nK m S st nK) le be te ab bl ka bg ln ns me sc pi re bk := by
  refine okS_stx I (fun j => ?_)
  have n0 := I.nK
  unfold suS
  split
  · have z := gF_is (n := nK) (m := m) (k := j) hC hd (by omega) (by omega) (by omega)
    have z1 := z.1
    omega
  · exact I.st j
section MM
variable {l : Launch} {D : va_G} {cy : ClassId} {y : MethodName} {ws : List Cond} {rm : Room} {av : List Value} {w0 w1 : va_W} {r : Int}
theorem MI.toR {Ψ : Int → va_W → Prop} (h : MI l D cy y ws rm av w0 r w1) (hq : Ψ r w1) : MR l D cy y ws rm av w0 Ψ := fun sz => MetFree.mono (h sz) (fun _ _ h => h) (fun _ _ _ _ _ h => h) (fun a s o t _ q => ⟨by
  obtain ⟨⟨x, u, h1, h2, h3⟩, h4⟩ := q.1
  exact ⟨⟨x, w1, h1, ⟨r, h2, hq⟩, h3⟩, h4⟩, q.2⟩)
theorem MR.mono {Ψ Φ : Int → va_W → Prop} (h : MR l D cy y ws rm av w0 Ψ) (hq : ∀ r w, Ψ r w → Φ r w) : MR l D cy y ws rm av w0 Φ := fun sz => MetFree.mono (h sz) (fun _ _ h => h) (fun _ _ _ _ _ h => h) (fun a s o t _ q => ⟨by
  obtain ⟨⟨x, u, h1, ⟨r, h2, h5⟩, h3⟩, h4⟩ := q.1
  exact ⟨⟨x, u, h1, ⟨r, h2, hq r u h5⟩, h3⟩, h4⟩, q.2⟩)
end MM
