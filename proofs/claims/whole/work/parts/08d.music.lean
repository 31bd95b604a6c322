/-! the i-th such number; sums over two stretches; trills; heard; lost -/
theorem sZ_split {f : Int → Int} {a b : Int} (h : a ≤ b) : ∀ n : Nat, sZ f a (b + n) = sZ f a b + sZ f b (b + n)
  | 0 => by rw [show b + ((0 : Nat) : Int) = b by omega, sZ_nil (f := f) (lo := b) (by omega), Int.add_zero]
  | n + 1 => by
    rw [show b + ((n + 1 : Nat) : Int) = b + n + 1 by omega, sZ_step (by omega), sZ_step (by omega), sZ_split h n, Int.add_assoc]
theorem sZ_cut {f : Int → Int} {a b c : Int} (h : a ≤ b) (h2 : b ≤ c) : sZ f a c = sZ f a b + sZ f b c := by
  have := sZ_split (f := f) h (c - b).toNat
  rw [show b + ((c - b).toNat : Int) = c by omega] at this
  exact this
theorem sZ_zero {f : Int → Int} {a b : Int} (h : ∀ j, a ≤ j → j < b → f j = 0) : sZ f a b = 0 := by
  rcases (show b ≤ a ∨ a ≤ b by omega) with q | q
  · exact sZ_nil q
  · have := sZ_b (f := f) (B := 0) q (fun j h1 h2 => by rw [h j h1 h2]; omega)
    omega
theorem sN_add (f g : Int → Int) (lo : Int) : ∀ n : Nat, sN (fun j => f j + g j) lo n = sN f lo n + sN g lo n
  | 0 => rfl
  | n + 1 => by
    show sN (fun j => f j + g j) lo n + (f (lo + n) + g (lo + n)) = sN f lo n + f (lo + n) + (sN g lo n + g (lo + n))
    rw [sN_add f g lo n]
    omega
theorem sZ_add (f g : Int → Int) (lo hi : Int) : sZ (fun j => f j + g j) lo hi = sZ f lo hi + sZ g lo hi := sN_add f g lo _
theorem sN_swap (F : Int → Int → Int) (lo lo2 hi2 : Int) : ∀ n : Nat, sN (fun a => sZ (fun b => F a b) lo2 hi2) lo n = sZ (fun b => sN (fun a => F a b) lo n) lo2 hi2
  | 0 => by
    show (0 : Int) = _
    exact (sZ_zero (fun j _ _ => rfl)).symm
  | n + 1 => by
    show sN (fun a => sZ (fun b => F a b) lo2 hi2) lo n + sZ (fun b => F (lo + n) b) lo2 hi2 = sZ (fun b => sN (fun a => F a b) lo n + F (lo + n) b) lo2 hi2
    rw [sN_swap F lo lo2 hi2 n, sZ_add]
theorem sZ_swap (F : Int → Int → Int) (lo hi lo2 hi2 : Int) : sZ (fun a => sZ (fun b => F a b) lo2 hi2) lo hi = sZ (fun b => sZ (fun a => F a b) lo hi) lo2 hi2 := sN_swap F lo lo2 hi2 _
def isNth (Q : Int → Prop) (hi i j : Int) : Prop := 0 ≤ j ∧ j < hi ∧ Q j ∧ sZ (fun x => bP (Q x)) 0 j = i
theorem isNth_lt {Q : Int → Prop} {hi i j k : Int} (h : isNth Q hi i j) (h2 : isNth Q hi i k) (hl : j < k) : False := by
  have e := sZ_cut (f := fun x => bP (Q x)) (a := 0) (b := j + 1) (c := k) (by have := h.1; omega) (by omega)
  rw [sZ_step h.1] at e
  have e2 := bP_1 h.2.2.1
  have e3 := sZ_c (f := fun x => bP (Q x)) (lo := j + 1) (hi := k) (by omega) (fun x => bP_b _)
  have e4 := h.2.2.2
  have e5 := h2.2.2.2
  omega
theorem isNth_one {Q : Int → Prop} {hi i j k : Int} (h : isNth Q hi i j) (h2 : isNth Q hi i k) : j = k := by
  rcases Int.lt_trichotomy j k with q | q | q
  · exact (isNth_lt h h2 q).elim
  · exact q
  · exact (isNth_lt h2 h q).elim
noncomputable def nth (Q : Int → Prop) (hi i : Int) (res : Int → Int) : Int := @ite Int (∃ j, isNth Q hi i j) (Classical.propDecidable _) (res (Classical.epsilon (isNth Q hi i))) (-100009)
theorem nth_yes {Q : Int → Prop} {hi i j : Int} {res : Int → Int} (h : isNth Q hi i j) : nth Q hi i res = res j := by
  unfold nth
  rw [if_pos ⟨j, h⟩, isNth_one (Classical.epsilon_spec (p := isNth Q hi i) ⟨j, h⟩) h]
theorem nth_no {Q : Int → Prop} {hi i : Int} {res : Int → Int} (h : ∀ j, 0 ≤ j → j < hi → Q j → sZ (fun x => bP (Q x)) 0 j ≠ i) : nth Q hi i res = -100009 := by
  unfold nth
  rw [if_neg]
  intro ⟨j, h1, h2, h3, h4⟩
  exact h j h1 h2 h3 h4
/-! clashes by number: the pair a, b stands at 40 b + a -/
abbrev cqP (nK : Int) (st ka bg ln : Int → Int) (lo n : Int) (j : Int) : Prop := j % 40 < j / 40 ∧ j / 40 < n ∧ clP nK st ka bg ln (lo + j % 40) (lo + j / 40)
noncomputable def clI (nK : Int) (st ka bg ln : Int → Int) (lo n i : Int) : Int := nth (fun j => cqP nK st ka bg ln lo n j) 1600 i (fun j => 40 * (j % 40) + j / 40)
/-- what is known at the place m: so many before it, none of them the wanted one -/
def cqI (Q : Int → Prop) (i m c : Int) : Prop := c = sZ (fun x => bP (Q x)) 0 m ∧ ∀ j, 0 ≤ j → j < m → Q j → sZ (fun x => bP (Q x)) 0 j ≠ i
theorem cqI_0 {Q : Int → Prop} {i : Int} : cqI Q i 0 0 := ⟨(sZ_nil (by omega)).symm, fun j _ _ => by omega⟩
theorem cqI_no {Q : Int → Prop} {i m c : Int} (h : cqI Q i m c) (hm : 0 ≤ m) (hq : ¬ Q m) : cqI Q i (m + 1) c := by
  refine ⟨by rw [sZ_step hm]; (try dsimp only); rw [bP_0 hq, Int.add_zero]; exact h.1, fun j h1 h2 h3 => ?_⟩
  rcases (show j < m ∨ j = m by omega) with g | g
  · exact h.2 j h1 g h3
  · subst g; exact absurd h3 hq
theorem cqI_yes {Q : Int → Prop} {i m c : Int} (h : cqI Q i m c) (hm : 0 ≤ m) (hq : Q m) (hc : c ≠ i) : cqI Q i (m + 1) (c + 1) := by
  refine ⟨by rw [sZ_step hm]; (try dsimp only); rw [bP_1 hq, ← h.1], fun j h1 h2 h3 => ?_⟩
  rcases (show j < m ∨ j = m by omega) with g | g
  · exact h.2 j h1 g h3
  · subst g; rw [← h.1]; exact hc
theorem cqI_skip {Q : Int → Prop} {i m m2 c : Int} (h : cqI Q i m c) (hm : 0 ≤ m) (hl : m ≤ m2) (hq : ∀ j, m ≤ j → j < m2 → ¬ Q j) : cqI Q i m2 c := by
  refine ⟨by rw [sZ_cut hm hl, sZ_zero (fun j h1 h2 => bP_0 (hq j h1 h2)), Int.add_zero]; exact h.1, fun j h1 h2 h3 => ?_⟩
  rcases (show j < m ∨ m ≤ j by omega) with g | g
  · exact h.2 j h1 g h3
  · exact absurd h3 (hq j g h2)
theorem cqI_at {Q : Int → Prop} {i m c hi : Int} {res : Int → Int} (h : cqI Q i m c) (hm : 0 ≤ m) (hl : m < hi) (hq : Q m) (hc : c = i) : res m = nth Q hi i res := (nth_yes ⟨hm, hl, hq, by rw [← h.1]; exact hc⟩).symm
theorem cqI_end {Q : Int → Prop} {i m c : Int} {res : Int → Int} (h : cqI Q i m c) : -100009 = nth Q m i res := (nth_no h.2).symm
theorem cq_at {nK : Int} {st ka bg ln : Int → Int} {lo n a b : Int} (ha : 0 ≤ a) (hab : a < b) (hb : b < n) (hn : n ≤ 40) : cqP nK st ka bg ln lo n (40 * b + a) ↔ clP nK st ka bg ln (lo + a) (lo + b) := by
  have e1 : (40 * b + a) % 40 = a := by omega
  have e2 : (40 * b + a) / 40 = b := by omega
  unfold cqP
  rw [e1, e2]
  exact ⟨fun z => z.2.2, fun z => ⟨hab, hb, z⟩⟩
theorem cq_row {nK : Int} {st ka bg ln : Int → Int} {lo n b j : Int} (h1 : 40 * b + b ≤ j) (h2 : j < 40 * (b + 1)) : ¬ cqP nK st ka bg ln lo n j := by
  intro z
  have := z.1
  omega
theorem cq_hi {nK : Int} {st ka bg ln : Int → Int} {lo n j : Int} (h1 : 40 * n ≤ j) : ¬ cqP nK st ka bg ln lo n j := by
  intro z
  have := z.2.1
  omega
/-! chokes -/
abbrev ckP (nK : Int) (st ka bg ln : Int → Int) (re a b : Int) : Prop := shP nK st (ka a) (ka b) ∧ 0 ≤ bg b - bg a - ln a ∧ bg b - bg a - ln a < re
noncomputable def ckN (nK : Int) (st ka bg ln : Int → Int) (re lo hi : Int) : Int := sZ (fun b => sZ (fun a => bP (ckP nK st ka bg ln re a b)) lo b) lo hi
theorem ck_all {nK : Int} {st ka bg ln : Int → Int} {re lo hi : Int} (h : ∀ a b, lo ≤ b → b ≤ a → a < hi → bg b ≤ bg a) (h1 : ∀ a, lo ≤ a → a < hi → 1 ≤ ln a) : sZ (fun a => sZ (fun b => bP (ckP nK st ka bg ln re a b)) lo hi) lo hi = ckN nK st ka bg ln re lo hi := by
  rw [sZ_swap (fun a b => bP (ckP nK st ka bg ln re a b))]
  unfold ckN
  refine sZ_cong (fun b hb1 hb2 => ?_)
  rw [sZ_cut (a := lo) (b := b) (c := hi) hb1 (by omega), sZ_zero (a := b) (b := hi) (fun a ha1 ha2 => bP_0 (fun z => ?_)), Int.add_zero]
  have e1 := h a b hb1 ha1 ha2
  have e2 := h1 a (by omega) ha2
  have := z.2.1
  omega
