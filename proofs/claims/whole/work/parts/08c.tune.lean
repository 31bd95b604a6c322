theorem tune_s1 {f : Int → Int} {i b : Int} (h : isTB f (-(i - 1)) (i - 1) b) (hi : 1 ≤ i) (hc : f (-i) < f b) : isTB f (-i) (i - 1) (-i) := by
  have := (isTB_lo h).2 (by unfold lx; rw [show -(i - 1) - 1 = -i by omega]; omega)
  rw [show -(i - 1) - 1 = -i by omega] at this
  exact this
theorem tune_s2 {f : Int → Int} {i b : Int} (h : isTB f (-(i - 1)) (i - 1) b) (hi : 1 ≤ i) (hc : f b ≤ f (-i)) : isTB f (-i) (i - 1) b := by
  have e := aZ_n (z := -i) (by omega)
  have e2 := aZ_b b
  have h1 := h.1
  have h2 := h.2.1
  have := (isTB_lo h).1 (by unfold lx; rw [show -(i - 1) - 1 = -i by omega]; omega)
  rw [show -(i - 1) - 1 = -i by omega] at this
  exact this
theorem tune_s3 {f : Int → Int} {i b : Int} (h : isTB f (-i) (i - 1) b) (hi : 1 ≤ i) (hc : f i < f b) : isTB f (-(i + 1 - 1)) (i + 1 - 1) i := by
  have := (isTB_hi h).2 (by unfold lx; rw [show i - 1 + 1 = i by omega]; omega)
  rw [show i - 1 + 1 = i by omega] at this
  rw [show i + 1 - 1 = i by omega]
  exact this
theorem tune_s4 {f : Int → Int} {i b : Int} (h : isTB f (-i) (i - 1) b) (hi : 1 ≤ i) (hc : f b ≤ f i) : isTB f (-(i + 1 - 1)) (i + 1 - 1) b := by
  have e := aZ_p (z := i) (by omega)
  have e2 := aZ_b b
  have h1 := h.1
  have h2 := h.2.1
  have := (isTB_hi h).1 (by unfold lx; rw [show i - 1 + 1 = i by omega]; omega)
  rw [show i - 1 + 1 = i by omega] at this
  rw [show i + 1 - 1 = i by omega]
  exact this
theorem tune_0 {f : Int → Int} : isTB f (-(1 - 1)) (1 - 1) 0 := ⟨by omega, by omega, fun v h1 h2 => by rw [show v = 0 by omega]; unfold lx; omega⟩
/-- upwards from -40, as the reference does -/
theorem tuneM_0 {f : Int → Int} : isTB f (-40) (-40) (-40) := ⟨by omega, by omega, fun v h1 h2 => by rw [show v = -40 by omega]; unfold lx; omega⟩
theorem tuneM_lt {f : Int → Int} {i b : Int} (h : isTB f (-40) (i - 1) b) (hc : f i < f b ∨ (f i = f b ∧ aZ i < aZ b)) : isTB f (-40) (i + 1 - 1) i := by
  have := (isTB_hi h).2 (by unfold lx; rw [show i - 1 + 1 = i by omega]; omega)
  rw [show i - 1 + 1 = i by omega] at this
  rw [show i + 1 - 1 = i by omega]
  exact this
theorem tuneM_ge {f : Int → Int} {i b : Int} (h : isTB f (-40) (i - 1) b) (hc : f b < f i ∨ (f i = f b ∧ aZ b ≤ aZ i)) : isTB f (-40) (i + 1 - 1) b := by
  have h2 := h.2.1
  have := (isTB_hi h).1 (by unfold lx; rw [show i - 1 + 1 = i by omega]; omega)
  rw [show i - 1 + 1 = i by omega] at this
  rw [show i + 1 - 1 = i by omega]
  exact this
theorem isTB_ex (f : Int → Int) (lo : Int) : ∀ n : Nat, ∃ b, isTB f lo (lo + n) b
  | 0 => ⟨lo, by omega, by omega, fun v h1 h2 => by rw [show v = lo by omega]; unfold lx; omega⟩
  | n + 1 => by
    obtain ⟨b, hb⟩ := isTB_ex f lo n
    have e : lo + ((n + 1 : Nat) : Int) = lo + n + 1 := by omega
    rw [e]
    have hb2 := hb.2.1
    rcases (show lx f b (lo + n + 1) ∨ lx f (lo + n + 1) b by unfold lx; omega) with q | q
    · exact ⟨_, (isTB_hi hb).1 q⟩
    · exact ⟨_, (isTB_hi hb).2 q⟩
theorem tb_is (f : Int → Int) : isTB f (-40) 40 (tb f) := by
  obtain ⟨b, hb⟩ := isTB_ex f (-40) 80
  rw [show (-40 : Int) + ((80 : Nat) : Int) = 40 by omega] at hb
  rw [tb_eq hb]
  exact hb
/-- the size of the error, by the bend -/
abbrev tf (st le te ab bl : Int → Int) (sc pi k : Int) : Int → Int := fun v => aZ (te (st k) * 10000 / (le k + v) - gl ab bl sc pi k)
noncomputable def tuB (st le te ab bl : Int → Int) (sc pi : Int) (be : Int → Int) (i : Int) : Int → Int := fun j => if 0 ≤ j ∧ j < i then tb (fun v => aZ (te (st j) * 10000 / (le j + v) - gl ab bl sc pi j)) else be j
theorem tuB_0 {st le te ab bl be : Int → Int} {sc pi : Int} : be = tuB st le te ab bl sc pi be 0 := by
  funext j
  unfold tuB
  rw [if_neg (by omega)]
theorem tuB_s {st le te ab bl be : Int → Int} {sc pi i : Int} (h : 0 ≤ i) : uZ (tuB st le te ab bl sc pi be i) i (tb (fun v => aZ (te (st i) * 10000 / (le i + v) - gl ab bl sc pi i))) = tuB st le te ab bl sc pi be (i + 1) := by
  funext j
  unfold uZ tuB
  by_cases q : j = i
  · subst q
    rw [if_pos rfl, if_pos (by omega)]
  · rw [if_neg q]
    by_cases q2 : 0 ≤ j ∧ j < i
    · rw [if_pos q2, if_pos (by omega)]
    · rw [if_neg q2, if_neg (by omega)]
theorem okS_be {nK sc pi re bk : Int} {st le be te ab bl ka bg ln ns me b2 : Int → Int} (I : okS nK st le be te ab bl ka bg ln ns me sc pi re bk) (h : ∀ j, -40 ≤ b2 j ∧ b2 j ≤ 40) : okS nK st le b2 te ab bl ka bg ln ns me sc pi re bk :=
  ⟨I.1, I.2.1, I.2.2.1, h, I.2.2.2.2⟩
theorem okS_be1 {nK sc pi re bk k v : Int} {st le be te ab bl ka bg ln ns me : Int → Int} (I : okS nK st le be te ab bl ka bg ln ns me sc pi re bk) (h : -40 ≤ v ∧ v ≤ 40) : okS nK st le (uZ be k v) te ab bl ka bg ln ns me sc pi re bk :=
  okS_be I (fun j => by unfold uZ; split; exact h; exact I.be j)
theorem okS_tu {nK sc pi re bk i : Int} {st le be te ab bl ka bg ln ns me : Int → Int} (I : okS nK st le be te ab bl ka bg ln ns me sc pi re bk) : okS nK st le (tuB st le te ab bl sc pi be i) te ab bl ka bg ln ns me sc pi re bk :=
  okS_be I (fun j => by
    unfold tuB
    split
    · have := tb_is (fun v => aZ (te (st j) * 10000 / (le j + v) - gl ab bl sc pi j)); exact ⟨this.1, this.2.1⟩
    · exact I.be j)
theorem uZ_same {f : Int → Int} {i v : Int} : uZ f i v i = v := if_pos rfl
theorem uZ_other {f : Int → Int} {i v j : Int} (h : j ≠ i) : uZ f i v j = f j := if_neg h
theorem uZ_uZ {f : Int → Int} {i v w : Int} : uZ (uZ f i v) i w = uZ f i w := by
  funext j
  unfold uZ
  split <;> rfl
theorem uZ_ext {f g : Int → Int} {i v : Int} (h : ∀ j, j ≠ i → g j = f j) : uZ g i v = uZ f i v := by
  funext j
  unfold uZ
  split
  · rfl
  · exact h j (by assumption)
theorem tm_a {f : Int → Int} {i b z : Int} (_ : i = -40 ∨ (isTB f (-40) (i - 1) b ∧ z = f b)) (hi : i = -40) : i + 1 = -40 ∨ (isTB f (-40) (i + 1 - 1) i ∧ f i = f i) := by
  subst hi
  exact Or.inr ⟨tuneM_0, rfl⟩
theorem tm_b {f : Int → Int} {i b z : Int} (h : i = -40 ∨ (isTB f (-40) (i - 1) b ∧ z = f b)) (hi : i ≠ -40) (hc : f i < z ∨ (f i = z ∧ aZ i < aZ b)) : i + 1 = -40 ∨ (isTB f (-40) (i + 1 - 1) i ∧ f i = f i) := by
  rcases h with q | q
  · exact absurd q hi
  · exact Or.inr ⟨tuneM_lt q.1 (by rw [← q.2]; exact hc), rfl⟩
theorem tm_c {f : Int → Int} {i b z : Int} (h : i = -40 ∨ (isTB f (-40) (i - 1) b ∧ z = f b)) (hi : i ≠ -40) (hc : z < f i ∨ (f i = z ∧ aZ b ≤ aZ i)) : i + 1 = -40 ∨ (isTB f (-40) (i + 1 - 1) b ∧ z = f b) := by
  rcases h with q | q
  · exact absurd q hi
  · exact Or.inr ⟨tuneM_ge q.1 (by rw [← q.2]; exact hc), q.2⟩
