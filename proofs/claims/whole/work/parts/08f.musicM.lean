theorem go_y {ka bg ln : Int → Int} {f a : Int} (h1 : f ≤ a) (h2 : bg (a + 1) ≤ bg a + ln a) (h3 : ka (a + 1) ≠ ka a) (h4 : a = f ∨ ka (a + 1) = ka (a - 1)) : goP ka bg ln f (a + 1) := by
  unfold goP
  rw [show a + 1 - 1 = a by omega, show a + 1 - 2 = a - 1 by omega]
  refine ⟨h2, ?_⟩
  by_cases q : a = f
  · subst q; exact Or.inl ⟨rfl, h3⟩
  · exact Or.inr ⟨by omega, by rcases h4 with z | z; exact absurd z q; exact z⟩
theorem go_n {ka bg ln : Int → Int} {f a : Int} (h1 : f ≤ a) (hN : f < a → ka a ≠ ka (a - 1)) (hc : ¬ (bg (a + 1) ≤ bg a + ln a ∧ ka (a + 1) ≠ ka a ∧ (a = f ∨ ka (a + 1) = ka (a - 1)))) : ¬ goP ka bg ln f (a + 1) := by
  unfold goP
  rw [show a + 1 - 1 = a by omega, show a + 1 - 2 = a - 1 by omega]
  intro z
  refine hc ⟨z.1, ?_⟩
  rcases z.2 with q | q
  · have e : a = f := by omega
    subst e
    exact ⟨q.2, Or.inl rfl⟩
  · exact ⟨fun g => hN (by omega) (by rw [← g]; exact q.2), Or.inr q.2⟩
theorem hdM_y {nK : Int} {st le be ka bg ln : Int → Int} {s t lo a r : Int} (h : lo ≤ a) (hr : r = hdF nK st le be ka bg ln s t lo a) (hp : hdP nK st le be ka bg ln s t r a) : ka a = hdF nK st le be ka bg ln s t lo (a + 1) := by
  rw [hdF_s h, ← hr, if_pos hp]
theorem hdM_n {nK : Int} {st le be ka bg ln : Int → Int} {s t lo a r : Int} (h : lo ≤ a) (hr : r = hdF nK st le be ka bg ln s t lo a) (hp : ¬ hdP nK st le be ka bg ln s t r a) : r = hdF nK st le be ka bg ln s t lo (a + 1) := by
  rw [hdF_s h, ← hr, if_neg hp]
theorem cv_t {pr : Bool} {ka bg ln : Int → Int} {k lo a t : Int} (hr : pr = true ↔ cvP ka bg ln k lo a t) (hp : pr = true) : true = true ↔ cvP ka bg ln k lo (a + 1) t :=
  ⟨fun _ => by obtain ⟨x, h1, h2, h3⟩ := hr.mp hp; exact ⟨x, h1, by omega, h3⟩, fun _ => rfl⟩
theorem cv_y {pr : Bool} {ka bg ln : Int → Int} {k lo a t : Int} (_ : pr = true ↔ cvP ka bg ln k lo a t) (hl : lo ≤ a) (hk : ka a = k) (ht : bg a ≤ t ∧ t ≤ bg a + ln a - 1) : true = true ↔ cvP ka bg ln k lo (a + 1) t :=
  ⟨fun _ => ⟨a, hl, by omega, hk, by omega, by omega⟩, fun _ => rfl⟩
theorem cv_n {pr : Bool} {ka bg ln : Int → Int} {k lo a t : Int} (hr : pr = true ↔ cvP ka bg ln k lo a t) (hp : pr = false) (hn : ¬ (ka a = k ∧ bg a ≤ t ∧ t ≤ bg a + ln a - 1)) : false = true ↔ cvP ka bg ln k lo (a + 1) t := by
  refine ⟨fun z => (by cases z), fun z => ?_⟩
  obtain ⟨x, h1, h2, h3, h4, h5⟩ := z
  rcases (show x < a ∨ x = a by omega) with q | q
  · have := hr.mpr ⟨x, h1, q, h3, h4, h5⟩
    rw [hp] at this
    exact this
  · subst q
    exact absurd ⟨h3, h4, by omega⟩ hn
theorem cv_0 {ka bg ln : Int → Int} {k lo t : Int} : false = true ↔ cvP ka bg ln k lo lo t := ⟨fun z => (by cases z), fun z => by obtain ⟨x, h1, h2, -⟩ := z; omega⟩
