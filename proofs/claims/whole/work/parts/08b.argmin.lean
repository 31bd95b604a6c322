/-! the first of a stretch with the least value -/
def isAM (g : Int → Int) (lo hi b : Int) : Prop := lo ≤ b ∧ b < hi ∧ (∀ v, lo ≤ v → v < b → g b < g v) ∧ (∀ v, b ≤ v → v < hi → g b ≤ g v)
theorem isAM_one {g : Int → Int} {lo hi a b : Int} (ha : isAM g lo hi a) (hb : isAM g lo hi b) : a = b := by
  obtain ⟨a1, a2, a3, a4⟩ := ha
  obtain ⟨b1, b2, b3, b4⟩ := hb
  rcases Int.lt_trichotomy a b with h | h | h
  · have x := b3 a a1 h
    have y := a4 b (by omega) b2
    omega
  · exact h
  · have x := a3 b b1 h
    have y := b4 a (by omega) a2
    omega
theorem isAM_lt {g : Int → Int} {lo i b : Int} (h : isAM g lo i b) (hc : g i < g b) : isAM g lo (i + 1) i := by
  obtain ⟨h1, h2, h3, h4⟩ := h
  refine ⟨by omega, by omega, fun v a c => ?_, fun v a c => ?_⟩
  · rcases (show v < b ∨ b ≤ v by omega) with q | q
    · have := h3 v a q; omega
    · have := h4 v q c; omega
  · rw [show v = i by omega]; omega
theorem isAM_ge {g : Int → Int} {lo i b : Int} (h : isAM g lo i b) (hc : g b ≤ g i) : isAM g lo (i + 1) b := by
  obtain ⟨h1, h2, h3, h4⟩ := h
  refine ⟨h1, by omega, h3, fun v a c => ?_⟩
  rcases (show v < i ∨ v = i by omega) with q | q
  · exact h4 v a q
  · rw [q]; exact hc
theorem isAM_1 {g : Int → Int} {lo : Int} : isAM g lo (lo + 1) lo := ⟨by omega, by omega, fun v a c => by omega, fun v a c => by rw [show v = lo by omega]; omega⟩
theorem isAM_up {g : Int → Int} {lo i hi b : Int} (h : isAM g lo i b) (hi1 : i ≤ hi) (hc : ∀ v, i ≤ v → v < hi → g b ≤ g v) : isAM g lo hi b := by
  obtain ⟨h1, h2, h3, h4⟩ := h
  refine ⟨h1, by omega, h3, fun v a c => ?_⟩
  rcases (show v < i ∨ i ≤ v by omega) with q | q
  · exact h4 v a q
  · exact hc v q c
theorem isAM_dnle {g : Int → Int} {i hi b : Int} (h : isAM g (i + 1) hi b) (hc : g i ≤ g b) : isAM g i hi i := by
  obtain ⟨h1, h2, h3, h4⟩ := h
  refine ⟨by omega, by omega, fun v a c => by omega, fun v a c => ?_⟩
  rcases (show v = i ∨ (i + 1 ≤ v ∧ v < b) ∨ b ≤ v by omega) with q | q | q
  · rw [q]; omega
  · have := h3 v q.1 q.2; omega
  · have := h4 v q c; omega
theorem isAM_dngt {g : Int → Int} {i hi b : Int} (h : isAM g (i + 1) hi b) (hc : g b < g i) : isAM g i hi b := by
  obtain ⟨h1, h2, h3, h4⟩ := h
  refine ⟨by omega, by omega, fun v a c => ?_, h4⟩
  rcases (show v = i ∨ i + 1 ≤ v by omega) with q | q
  · rw [q]; exact hc
  · exact h3 v q c
theorem isAM_dn {g : Int → Int} {lo i hi b : Int} (h : isAM g i hi b) (hi1 : lo ≤ i) (hc : ∀ v, lo ≤ v → v < i → g b < g v) : isAM g lo hi b := by
  obtain ⟨h1, h2, h3, h4⟩ := h
  refine ⟨by omega, by omega, fun v a c => ?_, h4⟩
  rcases (show v < i ∨ i ≤ v by omega) with q | q
  · exact hc v a q
  · exact h3 v q c
noncomputable def am (g : Int → Int) (lo hi : Int) : Int := Classical.epsilon (isAM g lo hi)
theorem am_eq {g : Int → Int} {lo hi b : Int} (h : isAM g lo hi b) : am g lo hi = b := isAM_one (Classical.epsilon_spec (p := isAM g lo hi) ⟨b, h⟩) h
theorem isAM_ex (g : Int → Int) (lo : Int) : ∀ n : Nat, ∃ b, isAM g lo (lo + n + 1) b
  | 0 => ⟨lo, by rw [show lo + ((0 : Nat) : Int) + 1 = lo + 1 by omega]; exact isAM_1⟩
  | n + 1 => by
    obtain ⟨b, hb⟩ := isAM_ex g lo n
    rcases (show g (lo + n + 1) < g b ∨ g b ≤ g (lo + n + 1) by omega) with q | q
    · exact ⟨_, by rw [show lo + ((n + 1 : Nat) : Int) + 1 = lo + n + 1 + 1 by omega]; exact isAM_lt hb q⟩
    · exact ⟨_, by rw [show lo + ((n + 1 : Nat) : Int) + 1 = lo + n + 1 + 1 by omega]; exact isAM_ge hb q⟩
theorem am_is {g : Int → Int} {lo hi : Int} (h : lo < hi) : isAM g lo hi (am g lo hi) := by
  obtain ⟨b, hb⟩ := isAM_ex g lo (hi - lo - 1).toNat
  rw [show lo + ((hi - lo - 1).toNat : Int) + 1 = hi by omega] at hb
  rw [am_eq hb]
  exact hb
theorem am_cong {g f : Int → Int} {lo hi : Int} (h : ∀ v, lo ≤ v → v < hi → g v = f v) (hl : lo < hi) : am g lo hi = am f lo hi := by
  have := am_is (g := g) hl
  obtain ⟨h1, h2, h3, h4⟩ := this
  refine (am_eq ⟨h1, h2, fun v a c => ?_, fun v a c => ?_⟩).symm
  · rw [← h _ h1 h2, ← h v a (by omega)]; exact h3 v a c
  · rw [← h _ h1 h2, ← h v (by omega) c]; exact h4 v a c
/-! the bend: least size of the error, then least size of the bend, then the lesser -/
def lx (f : Int → Int) (b v : Int) : Prop := f b < f v ∨ (f b = f v ∧ (aZ b < aZ v ∨ (aZ b = aZ v ∧ b ≤ v)))
def isTB (f : Int → Int) (lo hi b : Int) : Prop := lo ≤ b ∧ b ≤ hi ∧ ∀ v, lo ≤ v → v ≤ hi → lx f b v
theorem isTB_one {f : Int → Int} {lo hi a b : Int} (ha : isTB f lo hi a) (hb : isTB f lo hi b) : a = b := by
  have x := ha.2.2 b hb.1 hb.2.1
  have y := hb.2.2 a ha.1 ha.2.1
  unfold lx at x y
  omega
noncomputable def tb (f : Int → Int) : Int := Classical.epsilon (isTB f (-40) 40)
theorem tb_eq {f : Int → Int} {b : Int} (h : isTB f (-40) 40 b) : tb f = b := isTB_one (Classical.epsilon_spec (p := isTB f (-40) 40) ⟨b, h⟩) h
theorem aZ_n {z : Int} (h : z ≤ 0) : aZ z = -z := by unfold aZ; split <;> omega
theorem aZ_p {z : Int} (h : 0 ≤ z) : aZ z = z := by unfold aZ; split <;> omega
/-- one more above -/
theorem isTB_hi {f : Int → Int} {lo hi b : Int} (h : isTB f lo hi b) : (lx f b (hi + 1) → isTB f lo (hi + 1) b) ∧ (lx f (hi + 1) b → isTB f lo (hi + 1) (hi + 1)) := by
  obtain ⟨h1, h2, h3⟩ := h
  refine ⟨fun q => ⟨h1, by omega, fun v a c => ?_⟩, fun q => ⟨by omega, by omega, fun v a c => ?_⟩⟩
  · rcases (show v ≤ hi ∨ v = hi + 1 by omega) with z | z
    · exact h3 v a z
    · rw [z]; exact q
  · rcases (show v ≤ hi ∨ v = hi + 1 by omega) with z | z
    · have := h3 v a z
      unfold lx at this q ⊢
      omega
    · rw [z]; unfold lx; omega
theorem isTB_lo {f : Int → Int} {lo hi b : Int} (h : isTB f lo hi b) : (lx f b (lo - 1) → isTB f (lo - 1) hi b) ∧ (lx f (lo - 1) b → isTB f (lo - 1) hi (lo - 1)) := by
  obtain ⟨h1, h2, h3⟩ := h
  refine ⟨fun q => ⟨by omega, by omega, fun v a c => ?_⟩, fun q => ⟨by omega, by omega, fun v a c => ?_⟩⟩
  · rcases (show lo ≤ v ∨ v = lo - 1 by omega) with z | z
    · exact h3 v z c
    · rw [z]; exact q
  · rcases (show lo ≤ v ∨ v = lo - 1 by omega) with z | z
    · have := h3 v z c
      unfold lx at this q ⊢
      omega
    · rw [z]; unfold lx; omega
/-! steps of 'and' loops -/
theorem od_f {i : Bool} {A : Prop} {b : Int} {a : Int} {X Y : Int → Prop} (h : i = true ↔ A ∧ ∀ y, a < y → y < b → X y → Y y) (hi : i = false) : (false = true ↔ A ∧ ∀ y, a < y → y < b + 1 → X y → Y y) := by
  constructor
  · intro z; cases z
  · intro z
    have := h.mpr ⟨z.1, fun y h1 h2 h3 => z.2 y h1 (by omega) h3⟩
    rw [hi] at this
    exact this
theorem od_t {i : Bool} {A : Prop} {b : Int} {a : Int} {X Y : Int → Prop} (h : i = true ↔ A ∧ ∀ y, a < y → y < b → X y → Y y) (hi : i = true) (hb : X b → Y b) : (true = true ↔ A ∧ ∀ y, a < y → y < b + 1 → X y → Y y) := by
  constructor
  · intro _
    have z := h.mp hi
    refine ⟨z.1, fun y h1 h2 h3 => ?_⟩
    rcases (show y < b ∨ y = b by omega) with g | g
    · exact z.2 y h1 g h3
    · subst g; exact hb h3
  · intro _; rfl
theorem od_x {i : Bool} {A : Prop} {b : Int} {a : Int} {X Y : Int → Prop} (h : i = true ↔ A ∧ ∀ y, a < y → y < b → X y → Y y) (ha : a < b) (hb : X b ∧ ¬ Y b) : (false = true ↔ A ∧ ∀ y, a < y → y < b + 1 → X y → Y y) := by
  constructor
  · intro z; cases z
  · intro z
    exact absurd (z.2 b ha (by omega) hb.1) hb.2
theorem pa_f {i : Bool} {a b : Int} {Y : Int → Prop} (h : i = true ↔ ∀ y, a ≤ y → y < b → Y y) (hi : i = false) : (false = true ↔ ∀ y, a ≤ y → y < b + 1 → Y y) := by
  constructor
  · intro z; cases z
  · intro z
    have := h.mpr (fun y h1 h2 => z y h1 (by omega))
    rw [hi] at this
    exact this
theorem pa_t {i : Bool} {a b : Int} {Y : Int → Prop} (h : i = true ↔ ∀ y, a ≤ y → y < b → Y y) (hi : i = true) (hb : Y b) : (true = true ↔ ∀ y, a ≤ y → y < b + 1 → Y y) := by
  constructor
  · intro _ y h1 h2
    rcases (show y < b ∨ y = b by omega) with g | g
    · exact h.mp hi y h1 g
    · subst g; exact hb
  · intro _; rfl
theorem pa_x {i : Bool} {a b : Int} {Y : Int → Prop} (h : i = true ↔ ∀ y, a ≤ y → y < b → Y y) (ha : a ≤ b) (hb : ¬ Y b) : (false = true ↔ ∀ y, a ≤ y → y < b + 1 → Y y) := by
  constructor
  · intro z; cases z
  · intro z
    exact absurd (z b ha (by omega)) hb
