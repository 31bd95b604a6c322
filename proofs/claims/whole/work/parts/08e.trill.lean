abbrev goP (ka bg ln : Int → Int) (f x : Int) : Prop := bg x ≤ bg (x - 1) + ln (x - 1) ∧ ((x = f + 1 ∧ ka x ≠ ka f) ∨ (x ≠ f + 1 ∧ ka x = ka (x - 2)))
def isLast (ka bg ln : Int → Int) (f e l : Int) : Prop := f ≤ l ∧ l < e ∧ (∀ x, f < x → x ≤ l → goP ka bg ln f x) ∧ (l + 1 < e → ¬ goP ka bg ln f (l + 1))
theorem isLast_one {ka bg ln : Int → Int} {f e a b : Int} (ha : isLast ka bg ln f e a) (hb : isLast ka bg ln f e b) : a = b := by
  obtain ⟨a1, a2, a3, a4⟩ := ha
  obtain ⟨b1, b2, b3, b4⟩ := hb
  rcases Int.lt_trichotomy a b with q | q | q
  · exact absurd (b3 (a + 1) (by omega) (by omega)) (a4 (by omega))
  · exact q
  · exact absurd (a3 (b + 1) (by omega) (by omega)) (b4 (by omega))
noncomputable def lot (ka bg ln : Int → Int) (f e : Int) : Int := Classical.epsilon (isLast ka bg ln f e)
theorem lot_eq {ka bg ln : Int → Int} {f e l : Int} (h : isLast ka bg ln f e l) : lot ka bg ln f e = l := isLast_one (Classical.epsilon_spec (p := isLast ka bg ln f e) ⟨l, h⟩) h
theorem isLast_ex {ka bg ln : Int → Int} {f e : Int} : ∀ (n : Nat) (l : Int), f ≤ l → l < e → e - l ≤ n → (∀ x, f < x → x ≤ l → goP ka bg ln f x) → ∃ b, isLast ka bg ln f e b
  | 0, l, h1, h2, h3, h4 => by omega
  | n + 1, l, h1, h2, h3, h4 => by
    by_cases q : l + 1 < e ∧ goP ka bg ln f (l + 1)
    · refine isLast_ex n (l + 1) (by omega) q.1 (by omega) (fun x g1 g2 => ?_)
      rcases (show x ≤ l ∨ x = l + 1 by omega) with g | g
      · exact h4 x g1 g
      · rw [g]; exact q.2
    · exact ⟨l, h1, h2, h4, fun g1 g2 => q ⟨g1, g2⟩⟩
theorem lot_is {ka bg ln : Int → Int} {f e : Int} (h : f < e) : isLast ka bg ln f e (lot ka bg ln f e) := by
  obtain ⟨b, hb⟩ := isLast_ex (ka := ka) (bg := bg) (ln := ln) (f := f) (e := e) (e - f).toNat f (by omega) h (by omega) (fun x g1 g2 => by omega)
  rw [lot_eq hb]
  exact hb
noncomputable def trB (nK : Int) (st ka : Int → Int) (bad : Bool) (f : Int) : Int := if bad = true then bP (shP nK st (ka f) (ka (f + 1))) else 1
noncomputable def trN (lt B : Int → Int) (e : Int) : Nat → Int → Int → Int
  | 0, _, acc => acc
  | n + 1, f, acc => if f < e then (if 3 ≤ lt f - f then trN lt B e n (lt f) (acc + B f) else trN lt B e n (f + 1) acc) else acc
theorem trN_end {lt B : Int → Int} {e f acc : Int} {n : Nat} (h : e ≤ f) : trN lt B e (n + 1) f acc = acc := by
  show (if f < e then _ else acc) = acc
  rw [if_neg (by omega)]
theorem trN_short {lt B : Int → Int} {e f acc : Int} {n : Nat} (h : f < e) (h2 : lt f - f < 3) : trN lt B e (n + 1) f acc = trN lt B e n (f + 1) acc := by
  show (if f < e then (if 3 ≤ lt f - f then trN lt B e n (lt f) (acc + B f) else trN lt B e n (f + 1) acc) else acc) = _
  rw [if_pos h, if_neg (by omega)]
theorem trN_long {lt B : Int → Int} {e f acc : Int} {n : Nat} (h : f < e) (h2 : 3 ≤ lt f - f) : trN lt B e (n + 1) f acc = trN lt B e n (lt f) (acc + B f) := by
  show (if f < e then (if 3 ≤ lt f - f then trN lt B e n (lt f) (acc + B f) else trN lt B e n (f + 1) acc) else acc) = _
  rw [if_pos h, if_pos h2]
noncomputable def trF (nK : Int) (st ka bg ln : Int → Int) (bad : Bool) (lo hi : Int) : Int := trN (fun f => lot ka bg ln f hi) (trB nK st ka bad) hi 41 lo 0
/-! heard -/
abbrev hdP (nK : Int) (st le be ka bg ln : Int → Int) (s t r a : Int) : Prop := (ka a < nK ∧ st (ka a) = s ∧ bg a ≤ t ∧ t < bg a + ln a) ∧ (r = -100009 ∨ le (ka a) + be (ka a) < le r + be r ∨ (le (ka a) + be (ka a) = le r + be r ∧ ka a < r))
def hdN (nK : Int) (st le be ka bg ln : Int → Int) (s t lo : Int) : Nat → Int
  | 0 => -100009
  | n + 1 => if hdP nK st le be ka bg ln s t (hdN nK st le be ka bg ln s t lo n) (lo + n) then ka (lo + n) else hdN nK st le be ka bg ln s t lo n
def hdF (nK : Int) (st le be ka bg ln : Int → Int) (s t lo hi : Int) : Int := hdN nK st le be ka bg ln s t lo (hi - lo).toNat
theorem hdF_0 {nK : Int} {st le be ka bg ln : Int → Int} {s t lo : Int} : hdF nK st le be ka bg ln s t lo lo = -100009 := by
  unfold hdF
  rw [show (lo - lo).toNat = 0 by omega]
  rfl
theorem hdF_s {nK : Int} {st le be ka bg ln : Int → Int} {s t lo a : Int} (h : lo ≤ a) : hdF nK st le be ka bg ln s t lo (a + 1) = if hdP nK st le be ka bg ln s t (hdF nK st le be ka bg ln s t lo a) a then ka a else hdF nK st le be ka bg ln s t lo a := by
  unfold hdF
  rw [show (a + 1 - lo).toNat = (a - lo).toNat + 1 by omega]
  show (if hdP nK st le be ka bg ln s t (hdN nK st le be ka bg ln s t lo (a - lo).toNat) (lo + ((a - lo).toNat : Int)) then ka (lo + ((a - lo).toNat : Int)) else hdN nK st le be ka bg ln s t lo (a - lo).toNat) = _
  rw [show lo + ((a - lo).toNat : Int) = a by omega]
theorem hdN_b {nK : Int} {st le be ka bg ln : Int → Int} {s t lo : Int} (hk : ∀ j, 0 ≤ ka j ∧ ka j ≤ 23) : ∀ n : Nat, hdN nK st le be ka bg ln s t lo n = -100009 ∨ (0 ≤ hdN nK st le be ka bg ln s t lo n ∧ hdN nK st le be ka bg ln s t lo n ≤ 23)
  | 0 => Or.inl rfl
  | n + 1 => by
    show (if _ then ka (lo + n) else hdN nK st le be ka bg ln s t lo n) = _ ∨ (0 ≤ (if _ then ka (lo + n) else hdN nK st le be ka bg ln s t lo n) ∧ (if _ then ka (lo + n) else hdN nK st le be ka bg ln s t lo n) ≤ 23)
    split
    · exact Or.inr (hk _)
    · exact hdN_b hk n
theorem hdF_b {nK : Int} {st le be ka bg ln : Int → Int} {s t lo hi : Int} (hk : ∀ j, 0 ≤ ka j ∧ ka j ≤ 23) : hdF nK st le be ka bg ln s t lo hi = -100009 ∨ (0 ≤ hdF nK st le be ka bg ln s t lo hi ∧ hdF nK st le be ka bg ln s t lo hi ≤ 23) := hdN_b hk _
/-- the class keeps -1 for none -/
def hdI (h nr : Int) : Prop := (nr = -1 ∧ h = -100009) ∨ (0 ≤ nr ∧ nr < 24 ∧ nr = h)
theorem hd_no {nK : Int} {st le be ka bg ln : Int → Int} {s t lo a nr : Int} (h : lo ≤ a) (hr : hdI (hdF nK st le be ka bg ln s t lo a) nr) (hn : ¬ (ka a < nK ∧ st (ka a) = s ∧ bg a ≤ t ∧ t < bg a + ln a)) : hdI (hdF nK st le be ka bg ln s t lo (a + 1)) nr := by
  rw [hdF_s h, if_neg (fun z => hn z.1)]
  exact hr
theorem hd_new {nK : Int} {st le be ka bg ln : Int → Int} {s t lo a nr : Int} (hk : ∀ j, 0 ≤ ka j ∧ ka j ≤ 23) (h : lo ≤ a) (hr : hdI (hdF nK st le be ka bg ln s t lo a) nr) (hy : ka a < nK ∧ st (ka a) = s ∧ bg a ≤ t ∧ t < bg a + ln a) (hc : nr = -1 ∨ (le (ka a) + be (ka a) < le nr + be nr ∨ (le (ka a) + be (ka a) = le nr + be nr ∧ ka a < nr))) : hdI (hdF nK st le be ka bg ln s t lo (a + 1)) (ka a) := by
  have b := hk a
  rw [hdF_s h, if_pos]
  · exact Or.inr ⟨by omega, by omega, rfl⟩
  · refine ⟨hy, ?_⟩
    rcases hr with q | q
    · exact Or.inl q.2
    · rw [← q.2.2]
      rcases hc with z | z
      · exfalso; omega
      · exact Or.inr z
theorem hd_keep {nK : Int} {st le be ka bg ln : Int → Int} {s t lo a nr : Int} (h : lo ≤ a) (hr : hdI (hdF nK st le be ka bg ln s t lo a) nr) (h1 : nr ≠ -1) (hc : ¬ (le (ka a) + be (ka a) < le nr + be nr ∨ (le (ka a) + be (ka a) = le nr + be nr ∧ ka a < nr))) : hdI (hdF nK st le be ka bg ln s t lo (a + 1)) nr := by
  rw [hdF_s h, if_neg]
  · exact hr
  · intro z
    rcases hr with q | q
    · exact h1 q.1
    · rw [← q.2.2] at z
      rcases z.2 with g | g
      · omega
      · exact hc g
/-! lost -/
def cvP (ka bg ln : Int → Int) (k lo at9 t : Int) : Prop := ∃ a, lo ≤ a ∧ a < at9 ∧ ka a = k ∧ bg a ≤ t ∧ t < bg a + ln a
noncomputable def ltN (h : Int → Prop) (ka bg ln : Int → Int) (k lo at9 : Int) : Int := sZ (fun t => bP (cvP ka bg ln k lo at9 t ∧ h t)) 0 1100
def frI (ka bg ln : Int → Int) (k lo at9 fr : Int) : Prop := (0 ≤ fr ∧ fr ≤ 1098) ∧ (∀ a, lo ≤ a → a < at9 → ka a = k → bg a + ln a ≤ fr) ∧ (fr = 0 ∨ ∃ a, lo ≤ a ∧ a < at9 ∧ ka a = k ∧ fr = bg a + ln a)
theorem ltN_0 {h : Int → Prop} {ka bg ln : Int → Int} {k lo : Int} : 0 = ltN h ka bg ln k lo lo := (sZ_zero (fun j _ _ => bP_0 (fun z => by obtain ⟨⟨a, h1, h2, -⟩, -⟩ := z; omega))).symm
theorem fr_0 {ka bg ln : Int → Int} {k lo : Int} : frI ka bg ln k lo lo 0 := ⟨by omega, fun a h1 h2 => by omega, Or.inl rfl⟩
theorem lt_skip {h : Int → Prop} {ka bg ln : Int → Int} {k lo i : Int} (hn : ka i ≠ k) : ltN h ka bg ln k lo (i + 1) = ltN h ka bg ln k lo i := by
  unfold ltN
  refine sZ_cong (fun t _ _ => bP_c ⟨fun z => ?_, fun z => ?_⟩)
  · obtain ⟨⟨a, h1, h2, h3, h4⟩, g⟩ := z
    refine ⟨⟨a, h1, ?_, h3, h4⟩, g⟩
    rcases (show a < i ∨ a = i by omega) with q | q
    · exact q
    · exact absurd (by rw [← q]; exact h3) hn
  · obtain ⟨⟨a, h1, h2, h3, h4⟩, g⟩ := z
    exact ⟨⟨a, h1, by omega, h3, h4⟩, g⟩
theorem fr_skip {ka bg ln : Int → Int} {k lo i fr : Int} (h : frI ka bg ln k lo i fr) (hn : ka i ≠ k) : frI ka bg ln k lo (i + 1) fr := by
  refine ⟨h.1, fun a h1 h2 h3 => ?_, ?_⟩
  · rcases (show a < i ∨ a = i by omega) with q | q
    · exact h.2.1 a h1 q h3
    · exact absurd (by rw [← q]; exact h3) hn
  · rcases h.2.2 with q | ⟨a, h1, h2, h3⟩
    · exact Or.inl q
    · exact Or.inr ⟨a, h1, by omega, h3⟩
theorem fr_note {ka bg ln : Int → Int} {k lo i fr : Int} (h : frI ka bg ln k lo i fr) (hl : lo ≤ i) (hy : ka i = k) (hb : 0 ≤ bg i + ln i ∧ bg i + ln i ≤ 1098) : frI ka bg ln k lo (i + 1) (max fr (bg i + ln i)) := by
  have h0 := h.1
  refine ⟨by omega, fun a h1 h2 h3 => ?_, ?_⟩
  · rcases (show a < i ∨ a = i by omega) with q | q
    · have := h.2.1 a h1 q h3; omega
    · rw [q]; omega
  · rcases (show max fr (bg i + ln i) = fr ∨ max fr (bg i + ln i) = bg i + ln i by omega) with q | q
    · rw [q]
      rcases h.2.2 with z | ⟨a, h1, h2, h3⟩
      · exact Or.inl z
      · exact Or.inr ⟨a, h1, by omega, h3⟩
    · rw [q]; exact Or.inr ⟨i, hl, by omega, hy, rfl⟩
theorem sZ_win {g : Int → Int} {a b : Int} (ha : 0 ≤ a) (hb : b ≤ 1100) : sZ (fun t => if a ≤ t ∧ t < b then g t else 0) 0 1100 = sZ g a b := by
  rcases (show b ≤ a ∨ a < b by omega) with q | q
  · rw [sZ_nil (f := g) q]
    exact sZ_zero (fun j _ _ => if_neg (by omega))
  · rw [sZ_cut (a := 0) (b := a) (c := 1100) ha (by omega), sZ_cut (a := a) (b := b) (c := 1100) (by omega) hb, sZ_zero (a := 0) (b := a) (fun j _ _ => if_neg (by omega)), sZ_zero (a := b) (b := 1100) (fun j _ _ => if_neg (by omega)), Int.zero_add, Int.add_zero]
    exact sZ_cong (fun j h1 h2 => if_pos ⟨h1, h2⟩)
theorem lt_note {h : Int → Prop} {ka bg ln : Int → Int} {k lo i fr : Int} (hf : frI ka bg ln k lo i fr) (hl : lo ≤ i) (hy : ka i = k) (hb : 0 ≤ bg i ∧ bg i + ln i ≤ 1098) (hs : ∀ a, lo ≤ a → a < i → bg a ≤ bg i) : ltN h ka bg ln k lo (i + 1) = ltN h ka bg ln k lo i + sZ (fun t => bP (h t)) (max fr (bg i)) (bg i + ln i) := by
  have h0 := hf.1
  rw [← sZ_win (g := fun t => bP (h t)) (a := max fr (bg i)) (b := bg i + ln i) (by omega) (by omega)]
  unfold ltN
  rw [← sZ_add]
  refine sZ_cong (fun t _ _ => ?_)
  (try dsimp only)
  by_cases hh : h t
  · by_cases q : max fr (bg i) ≤ t ∧ t < bg i + ln i
    · rw [if_pos q, bP_1 hh, bP_1 ⟨⟨i, hl, by omega, hy, by omega, by omega⟩, hh⟩, bP_0, Int.zero_add]
      rintro ⟨⟨a, h1, h2, h3, h4, h5⟩, -⟩
      have := hf.2.1 a h1 h2 h3
      omega
    · rw [if_neg q, Int.add_zero]
      refine bP_c ⟨fun z => ⟨?_, hh⟩, fun z => ⟨?_, hh⟩⟩
      · obtain ⟨⟨a, h1, h2, h3, h4, h5⟩, -⟩ := z
        rcases (show a < i ∨ a = i by omega) with g | g
        · exact ⟨a, h1, g, h3, h4, h5⟩
        · subst g
          rcases hf.2.2 with z | ⟨b, b1, b2, b3, b4⟩
          · exfalso; omega
          · have := hs b b1 b2
            exact ⟨b, b1, b2, b3, by omega, by omega⟩
      · obtain ⟨⟨a, h1, h2, h3, h4⟩, -⟩ := z
        exact ⟨a, h1, by omega, h3, h4⟩
  · rw [bP_0 (fun z => hh z.2), bP_0 (fun z => hh z.2), bP_0 hh]
    split <;> rfl
