/-! sharings: pairs of notes of the book -/
noncomputable def npS (ns : Int → Int) (bk : Int) (f : Int → Int → Int) : Int := sZ (fun p => if srZ bk p % 2 = 1 then sZ (fun b => sZ (fun a => f a b) (40 * p) b) (40 * p) (40 * p + ns p) else 0) 0 4
abbrev tgP (ka bg ln : Int → Int) (a b x y : Int) : Prop := (a ≤ ka x ∧ ka x ≤ b) ∧ (a ≤ ka y ∧ ka y ≤ b) ∧ ka x ≠ ka y ∧ onP bg ln x y
abbrev prP (ka bg ln : Int → Int) (j x y : Int) : Prop := (ka x ≠ ka y ∧ onP bg ln x y) ∧ min (ka x) (ka y) * 24 + max (ka x) (ka y) = j
noncomputable def tog (ka bg ln ns : Int → Int) (bk a b : Int) : Int := npS ns bk (fun x y => bP (tgP ka bg ln a b x y))
noncomputable def prN (ka bg ln ns : Int → Int) (bk j : Int) : Int := npS ns bk (fun x y => bP (prP ka bg ln j x y))
def blw (P : Int → Int) (a u : Int) : Int := sZ (fun x => P (x * 24 + u)) a u
theorem sZ_one {P : Prop} {c lo hi : Int} : sZ (fun j => bP (j = c ∧ P)) lo hi = bP ((lo ≤ c ∧ c < hi) ∧ P) := by
  by_cases hp : P
  · by_cases hc : lo ≤ c ∧ c < hi
    · rw [bP_1 ⟨hc, hp⟩, sZ_cut (a := lo) (b := c) (c := hi) hc.1 (by omega), sZ_cut (a := c) (b := c + 1) (c := hi) (by omega) (by omega), sZ_step (Int.le_refl c), sZ_nil (f := fun j => bP (j = c ∧ P)) (lo := c) (hi := c) (by omega), sZ_zero (a := lo) (b := c) (fun j _ _ => bP_0 (fun z => by have := z.1; omega)), sZ_zero (a := c + 1) (b := hi) (fun j _ _ => bP_0 (fun z => by have := z.1; omega)), bP_1 ⟨rfl, hp⟩]
      rfl
    · rw [bP_0 (fun z => hc z.1)]
      exact sZ_zero (fun j h1 h2 => bP_0 (fun z => hc (by have := z.1; omega)))
  · rw [bP_0 (fun z => hp z.2)]
    exact sZ_zero (fun j _ _ => bP_0 (fun z => hp z.2))
theorem npS_sum (ns : Int → Int) (bk lo hi : Int) (F : Int → Int → Int → Int) : npS ns bk (fun x y => sZ (fun u => F u x y) lo hi) = sZ (fun u => npS ns bk (F u)) lo hi := by
  unfold npS
  rw [sZ_swap (fun u p => if srZ bk p % 2 = 1 then sZ (fun b => sZ (fun a => F u a b) (40 * p) b) (40 * p) (40 * p + ns p) else 0) lo hi 0 4]
  refine sZ_cong (fun p _ _ => ?_)
  by_cases q : srZ bk p % 2 = 1
  · rw [if_pos q]
    rw [show (fun u => if srZ bk p % 2 = 1 then sZ (fun b => sZ (fun a => F u a b) (40 * p) b) (40 * p) (40 * p + ns p) else 0) = fun u => sZ (fun b => sZ (fun a => F u a b) (40 * p) b) (40 * p) (40 * p + ns p) from funext fun u => if_pos q]
    rw [sZ_swap (fun u b => sZ (fun a => F u a b) (40 * p) b) lo hi (40 * p) (40 * p + ns p)]
    exact sZ_cong (fun b _ _ => sZ_swap (fun a u => F u a b) (40 * p) b lo hi)
  · rw [if_neg q]
    exact (sZ_zero (fun u _ _ => if_neg q)).symm
theorem npS_b {ns : Int → Int} {bk : Int} {f : Int → Int → Int} (hn : ∀ j, 0 ≤ ns j ∧ ns j ≤ 40) (h : ∀ x y, 0 ≤ f x y ∧ f x y ≤ 1) : 0 ≤ npS ns bk f ∧ npS ns bk f ≤ 6400 := by
  have := sZ_b (f := fun p => if srZ bk p % 2 = 1 then sZ (fun b => sZ (fun a => f a b) (40 * p) b) (40 * p) (40 * p + ns p) else 0) (lo := 0) (hi := 4) (B := 1600) (by omega) (fun p _ _ => by
    (try dsimp only)
    split
    · have n := hn p
      have := sZ_b (f := fun b => sZ (fun a => f a b) (40 * p) b) (lo := 40 * p) (hi := 40 * p + ns p) (B := 40) (by omega) (fun b h1 h2 => by
        have := sZ_c (f := fun a => f a b) (lo := 40 * p) (hi := b) h1 (fun a => h a b)
        (try dsimp only at this ⊢)
        omega)
      have e : (40 * p + ns p - 40 * p) * 40 = ns p * 40 := by rw [show 40 * p + ns p - 40 * p = ns p by omega]
      omega
    · omega)
  unfold npS
  omega
theorem tog_pt {ka bg ln : Int → Int} {a b x y : Int} (hk : ∀ j, 0 ≤ ka j ∧ ka j ≤ 23) (ha : 0 ≤ a) (hb : b ≤ 23) : bP (tgP ka bg ln a b x y) = sZ (fun u => sZ (fun lo => bP (prP ka bg ln (lo * 24 + u) x y)) a u) a (b + 1) := by
  have kx := hk x
  have ky := hk y
  by_cases q : ka x ≠ ka y ∧ onP bg ln x y
  · have e1 : sZ (fun u => sZ (fun lo => bP (prP ka bg ln (lo * 24 + u) x y)) a u) a (b + 1) = sZ (fun u => bP (u = max (ka x) (ka y) ∧ (a ≤ min (ka x) (ka y)))) a (b + 1) := by
      refine sZ_cong (fun u h1 h2 => ?_)
      have e2 : sZ (fun lo => bP (prP ka bg ln (lo * 24 + u) x y)) a u = sZ (fun lo => bP (lo = min (ka x) (ka y) ∧ u = max (ka x) (ka y))) a u := sZ_cong (fun lo g1 g2 => bP_c ⟨fun z => by have := z.2; omega, fun z => ⟨q, by have z1 := z.1; have z2 := z.2; rw [z1, z2]⟩⟩)
      rw [e2, sZ_one]
      refine bP_c ⟨fun z => ⟨z.2, z.1.1⟩, fun z => ⟨⟨z.2, ?_⟩, z.1⟩⟩
      have := z.1
      have := q.1
      omega
    rw [e1, sZ_one]
    refine bP_c ⟨fun z => ?_, fun z => ?_⟩
    · have z1 := z.1
      have z2 := z.2.1
      omega
    · have z1 := z.1
      have z2 := z.2
      exact ⟨by omega, by omega, q⟩
  · rw [bP_0 (fun z => q z.2.2)]
    exact (sZ_zero (fun u _ _ => sZ_zero (fun lo _ _ => bP_0 (fun z => q z.1)))).symm
theorem tog_eq {ka bg ln ns : Int → Int} {bk a b : Int} (hk : ∀ j, 0 ≤ ka j ∧ ka j ≤ 23) (ha : 0 ≤ a) (hb : b ≤ 23) : tog ka bg ln ns bk a b = sZ (fun u => blw (prN ka bg ln ns bk) a u) a (b + 1) := by
  unfold tog blw prN
  rw [show (fun x y => bP (tgP ka bg ln a b x y)) = fun x y => sZ (fun u => sZ (fun lo => bP (prP ka bg ln (lo * 24 + u) x y)) a u) a (b + 1) from funext fun x => funext fun y => tog_pt hk ha hb]
  rw [npS_sum]
  exact sZ_cong (fun u _ _ => npS_sum ns bk a u (fun lo x y => bP (prP ka bg ln (lo * 24 + u) x y)))
theorem tog_b {ka bg ln ns : Int → Int} {bk a b : Int} (hn : ∀ j, 0 ≤ ns j ∧ ns j ≤ 40) : 0 ≤ tog ka bg ln ns bk a b ∧ tog ka bg ln ns bk a b ≤ 6400 := npS_b hn (fun _ _ => bP_b _)
theorem tog_one {ka bg ln ns : Int → Int} {bk a : Int} : tog ka bg ln ns bk a a = 0 := by
  unfold tog npS
  refine sZ_zero (fun p _ _ => ?_)
  split
  · exact sZ_zero (fun b _ _ => sZ_zero (fun x _ _ => bP_0 (fun z => z.2.2.1 (by have := z.1; have := z.2.1; omega))))
  · rfl
/-! the least over a stretch, and the table of sharings -/
def mnN (g : Int → Int) (lo : Int) : Nat → Int
  | 0 => 1000000
  | k + 1 => min (mnN g lo k) (g (lo + k))
def mnZ (g : Int → Int) (lo hi : Int) : Int := mnN g lo (hi - lo).toNat
theorem mnZ_0 {g : Int → Int} {lo hi : Int} (h : hi ≤ lo) : mnZ g lo hi = 1000000 := by
  unfold mnZ
  rw [show (hi - lo).toNat = 0 by omega]
  rfl
theorem mnZ_s {g : Int → Int} {lo i : Int} (h : lo ≤ i) : mnZ g lo (i + 1) = min (mnZ g lo i) (g i) := by
  unfold mnZ
  rw [show (i + 1 - lo).toNat = (i - lo).toNat + 1 by omega]
  show min (mnN g lo (i - lo).toNat) (g (lo + ((i - lo).toNat : Int))) = _
  rw [show lo + ((i - lo).toNat : Int) = i by omega]
theorem mnN_b {g : Int → Int} {lo : Int} (hg : ∀ x, 0 ≤ g x) : ∀ k : Nat, 0 ≤ mnN g lo k ∧ mnN g lo k ≤ 1000000
  | 0 => by show (0 : Int) ≤ 1000000 ∧ (1000000 : Int) ≤ 1000000; omega
  | k + 1 => by
    have h1 := mnN_b (lo := lo) hg k
    have h2 := hg (lo + k)
    show 0 ≤ min (mnN g lo k) (g (lo + k)) ∧ min (mnN g lo k) (g (lo + k)) ≤ 1000000
    omega
theorem mnN_cong {g f : Int → Int} {lo : Int} : ∀ k : Nat, (∀ x, lo ≤ x → x < lo + k → g x = f x) → mnN g lo k = mnN f lo k
  | 0, _ => rfl
  | k + 1, h => by
    show min (mnN g lo k) (g (lo + k)) = min (mnN f lo k) (f (lo + k))
    rw [mnN_cong k (fun x h1 h2 => h x h1 (by omega)), h (lo + k) (by omega) (by omega)]
theorem mnZ_cong {g f : Int → Int} {lo hi : Int} (h : ∀ x, lo ≤ x → x < hi → g x = f x) : mnZ g lo hi = mnZ f lo hi := mnN_cong _ (fun x h1 h2 => h x h1 (by omega))
theorem mnN_le {g : Int → Int} {lo : Int} : ∀ (k : Nat) (x : Int), lo ≤ x → x < lo + k → mnN g lo k ≤ g x
  | 0, x, h1, h2 => by omega
  | k + 1, x, h1, h2 => by
    show min (mnN g lo k) (g (lo + k)) ≤ g x
    rcases (show x < lo + k ∨ x = lo + k by omega) with q | q
    · have := mnN_le (g := g) k x h1 q; omega
    · rw [q]; omega
theorem mnZ_le {g : Int → Int} {lo hi x : Int} (h1 : lo ≤ x) (h2 : x < hi) : mnZ g lo hi ≤ g x := mnN_le _ x h1 (by omega)
theorem mnN_at {g : Int → Int} {lo : Int} : ∀ k : Nat, mnN g lo k < 1000000 → ∃ x, lo ≤ x ∧ x < lo + k ∧ g x = mnN g lo k
  | 0, h => by exact absurd h (by show ¬ (1000000 : Int) < 1000000; omega)
  | k + 1, h => by
    have e : mnN g lo (k + 1) = min (mnN g lo k) (g (lo + k)) := rfl
    rw [e] at h ⊢
    rcases (show g (lo + k) ≤ mnN g lo k ∨ mnN g lo k < g (lo + k) by omega) with q | q
    · exact ⟨lo + k, by omega, by omega, by omega⟩
    · obtain ⟨x, h1, h2, h3⟩ := mnN_at (g := g) (lo := lo) k (by omega)
      exact ⟨x, h1, by omega, by omega⟩
theorem mnZ_at {g : Int → Int} {lo hi : Int} (h : mnZ g lo hi < 1000000) : ∃ x, lo ≤ x ∧ x < hi ∧ g x = mnZ g lo hi := by
  obtain ⟨x, h1, h2, h3⟩ := mnN_at _ h
  refine ⟨x, h1, ?_, h3⟩
  omega
def dpN (C : Int → Int → Int) (n m : Int) : Nat → Int → Int
  | 0, a => if a = n then 0 else 1000000
  | s + 1, a => mnZ (fun x => C a (x - 1) + dpN C n m s x) (a + 1) (min n (a + m) + 1)
def dp (C : Int → Int → Int) (n m s a : Int) : Int := dpN C n m s.toNat a
theorem dp_0 {C : Int → Int → Int} {n m a : Int} : dp C n m 0 a = if a = n then 0 else 1000000 := rfl
theorem dp_s {C : Int → Int → Int} {n m s a : Int} (h : 1 ≤ s) : dp C n m s a = mnZ (fun x => C a (x - 1) + dp C n m (s - 1) x) (a + 1) (min n (a + m) + 1) := by
  unfold dp
  rw [show s.toNat = (s - 1).toNat + 1 by omega]
  rfl
theorem dpN_b {C : Int → Int → Int} {n m : Int} (hC : ∀ a b, 0 ≤ C a b) : ∀ (s : Nat) (a : Int), 0 ≤ dpN C n m s a ∧ dpN C n m s a ≤ 1000000
  | 0, a => by show 0 ≤ (if a = n then (0 : Int) else 1000000) ∧ (if a = n then (0 : Int) else 1000000) ≤ 1000000; split <;> omega
  | s + 1, a => mnN_b (fun x => by have := dpN_b (n := n) (m := m) hC s x; have := hC a (x - 1); omega) _
theorem dp_b {C : Int → Int → Int} {n m s a : Int} (hC : ∀ a b, 0 ≤ C a b) : 0 ≤ dp C n m s a ∧ dp C n m s a ≤ 1000000 := dpN_b hC _ a
/-- beyond the last key, and with too many strings, nothing goes -/
theorem dpN_many {C : Int → Int → Int} {n m : Int} (hC : ∀ a b, 0 ≤ C a b) : ∀ (s : Nat) (a : Int), n - a < s → dpN C n m s a = 1000000
  | 0, a, h => by show (if a = n then (0 : Int) else 1000000) = 1000000; rw [if_neg (by omega)]
  | s + 1, a, h => by
    rcases (show dpN C n m (s + 1) a < 1000000 ∨ dpN C n m (s + 1) a = 1000000 by have := dpN_b (n := n) (m := m) hC (s + 1) a; omega) with q | q
    · exfalso
      obtain ⟨x, h1, h2, h3⟩ := mnZ_at (g := fun x => C a (x - 1) + dpN C n m s x) q
      have e := dpN_many (n := n) (m := m) hC s x (by omega)
      have c := hC a (x - 1)
      have h3 : C a (x - 1) + dpN C n m s x = dpN C n m (s + 1) a := h3
      omega
    · exact q
theorem dp_many {C : Int → Int → Int} {n m s a : Int} (hC : ∀ a b, 0 ≤ C a b) (h : n - a < s) (hs : 0 ≤ s) : dp C n m s a = 1000000 := dpN_many hC _ a (by omega)
/-- a string for each key never clashes -/
theorem dpN_each {C : Int → Int → Int} {n m : Int} (hC : ∀ a b, 0 ≤ C a b) (h1 : ∀ a, C a a = 0) (hm : 1 ≤ m) : ∀ (s : Nat) (a : Int), n - a = s → dpN C n m s a = 0
  | 0, a, h => by show (if a = n then (0 : Int) else 1000000) = 0; rw [if_pos (by omega)]
  | s + 1, a, h => by
    have e := dpN_each (n := n) (m := m) hC h1 hm s (a + 1) (by omega)
    have b := dpN_b (n := n) (m := m) hC (s + 1) a
    have l := mnZ_le (g := fun x => C a (x - 1) + dpN C n m s x) (lo := a + 1) (hi := min n (a + m) + 1) (x := a + 1) (by omega) (by omega)
    have l : dpN C n m (s + 1) a ≤ C a (a + 1 - 1) + dpN C n m s (a + 1) := l
    rw [e, show a + 1 - 1 = a by omega, h1] at l
    omega
/-- with clashes forbidden: nothing, or too much -/
def noC (C : Int → Int → Int) : Int → Int → Int := fun a b => if 0 < C a b then 1000000 else C a b
theorem dpN_no {C : Int → Int → Int} {n m : Int} (hC : ∀ a b, 0 ≤ C a b) : ∀ (s : Nat) (a : Int), (dpN C n m s a = 0 → dpN (noC C) n m s a = 0) ∧ (dpN C n m s a ≠ 0 → dpN (noC C) n m s a = 1000000)
  | 0, a => by
    show ((if a = n then (0 : Int) else 1000000) = 0 → (if a = n then (0 : Int) else 1000000) = 0) ∧ ((if a = n then (0 : Int) else 1000000) ≠ 0 → (if a = n then (0 : Int) else 1000000) = 1000000)
    split <;> omega
  | s + 1, a => by
    have hN : ∀ a b, 0 ≤ noC C a b := fun a b => by unfold noC; have := hC a b; split <;> omega
    constructor
    · intro h
      obtain ⟨x, h1, h2, h3⟩ := mnZ_at (g := fun x => C a (x - 1) + dpN C n m s x) (lo := a + 1) (hi := min n (a + m) + 1) (by show dpN C n m (s + 1) a < 1000000; omega)
      have h3 : C a (x - 1) + dpN C n m s x = dpN C n m (s + 1) a := h3
      have c := hC a (x - 1)
      have d := dpN_b (n := n) (m := m) hC s x
      have e := (dpN_no (n := n) (m := m) hC s x).1 (by omega)
      have l := mnZ_le (g := fun x => noC C a (x - 1) + dpN (noC C) n m s x) (lo := a + 1) (hi := min n (a + m) + 1) (x := x) h1 h2
      have l : dpN (noC C) n m (s + 1) a ≤ noC C a (x - 1) + dpN (noC C) n m s x := l
      have z : noC C a (x - 1) = 0 := by unfold noC; rw [if_neg (by omega)]; omega
      have b := dpN_b (n := n) (m := m) hN (s + 1) a
      omega
    · intro h
      rcases (show dpN (noC C) n m (s + 1) a < 1000000 ∨ dpN (noC C) n m (s + 1) a = 1000000 by have := dpN_b (n := n) (m := m) hN (s + 1) a; omega) with q | q
      · exfalso
        obtain ⟨x, h1, h2, h3⟩ := mnZ_at (g := fun x => noC C a (x - 1) + dpN (noC C) n m s x) q
        have h3 : noC C a (x - 1) + dpN (noC C) n m s x = dpN (noC C) n m (s + 1) a := h3
        have nn := hN a (x - 1)
        have dd := dpN_b (n := n) (m := m) hN s x
        have c0 : C a (x - 1) = 0 := by
          rcases (show 0 < C a (x - 1) ∨ C a (x - 1) = 0 by have := hC a (x - 1); omega) with z | z
          · exfalso
            have : noC C a (x - 1) = 1000000 := by unfold noC; rw [if_pos z]
            omega
          · exact z
        have d0 : dpN C n m s x = 0 := by
          rcases (show dpN C n m s x = 0 ∨ dpN C n m s x ≠ 0 by omega) with z | z
          · exact z
          · have := (dpN_no (n := n) (m := m) hC s x).2 z; omega
        have l := mnZ_le (g := fun x => C a (x - 1) + dpN C n m s x) (lo := a + 1) (hi := min n (a + m) + 1) (x := x) h1 h2
        have l : dpN C n m (s + 1) a ≤ C a (x - 1) + dpN C n m s x := l
        have b := dpN_b (n := n) (m := m) hC (s + 1) a
        omega
      · exact q
/-! the class's rows -/
def apP (pa : Int → Int) (x y : Int) : Int → Int := if x = y then pa else uZ pa (min x y * 24 + max x y) (pa (min x y * 24 + max x y) + 1)
theorem apP_at {pa ka bg ln : Int → Int} {x y j : Int} (h : onP bg ln x y) : apP pa (ka x) (ka y) j = pa j + bP (prP ka bg ln j x y) := by
  unfold apP
  by_cases q : ka x = ka y
  · rw [if_pos q, bP_0 (fun z => z.1.1 q), Int.add_zero]
  · rw [if_neg q]
    by_cases g : min (ka x) (ka y) * 24 + max (ka x) (ka y) = j
    · rw [bP_1 ⟨⟨q, h⟩, g⟩, g, uZ_same]
    · rw [bP_0 (fun z => g z.2), uZ_other (fun z => g z.symm), Int.add_zero]
def clS (pa : Int → Int) (a b : Int) : Int := sZ (fun u => blw pa a u) a (b + 1)
theorem clS_s {pa : Int → Int} {a b : Int} (h : a ≤ b) : clS pa a b = clS pa a (b - 1) + blw pa a b := by
  unfold clS
  rw [sZ_step h, show b - 1 + 1 = b by omega]
theorem clS_0 {pa : Int → Int} {a b : Int} (h : b < a) : clS pa a b = 0 := sZ_nil (by omega)
/-- the first of 1 .. n with nothing, or n -/
def isFw (f : Int → Int) (n s : Int) : Prop := (1 ≤ s ∧ s ≤ n) ∧ (∀ t, 1 ≤ t → t < s → f t ≠ 0) ∧ (s < n → f s = 0)
theorem isFw_one {f : Int → Int} {n s t : Int} (h : isFw f n s) (g : isFw f n t) : s = t := by
  obtain ⟨h1, h2, h3⟩ := h
  obtain ⟨g1, g2, g3⟩ := g
  rcases Int.lt_trichotomy s t with q | q | q
  · exact absurd (h3 (by omega)) (g2 s (by omega) q)
  · exact q
  · exact absurd (g3 (by omega)) (h2 t (by omega) q)
noncomputable def fw (f : Int → Int) (n : Int) : Int := Classical.epsilon (isFw f n)
theorem fw_eq {f : Int → Int} {n s : Int} (h : isFw f n s) : fw f n = s := isFw_one (Classical.epsilon_spec (p := isFw f n) ⟨s, h⟩) h
/-- the first of 1 .. L with the least, if that isn't too much -/
def bsI (f : Int → Int) (i b v : Int) : Prop := (b = -100009 ∧ v = 1000000 ∧ ∀ t, 1 ≤ t → t < i → 1000000 ≤ f t) ∨ (isAM f 1 i b ∧ v = f b ∧ f b < 1000000)
noncomputable def bsF (f : Int → Int) (L : Int) : Int := @ite Int (∃ t, 1 ≤ t ∧ t ≤ L ∧ f t < 1000000) (Classical.propDecidable _) (am f 1 (L + 1)) (-100009)
theorem bs_0 {f : Int → Int} : bsI f 1 (-100009) 1000000 := Or.inl ⟨rfl, rfl, fun t h1 h2 => by omega⟩
theorem bs_lt {f : Int → Int} {i b v : Int} (h : bsI f i b v) (hi : 1 ≤ i) (hc : f i < v) : bsI f (i + 1) i (f i) := by
  rcases h with q | q
  · refine Or.inr ⟨⟨hi, by omega, fun t h1 h2 => ?_, fun t h1 h2 => by rw [show t = i by omega]; omega⟩, rfl, by have := q.2.1; omega⟩
    have := q.2.2 t h1 h2
    have := q.2.1
    omega
  · exact Or.inr ⟨isAM_lt q.1 (by rw [← q.2.1]; exact hc), rfl, by have h1 := q.2.1; have h2 := q.2.2; omega⟩
theorem bs_ge {f : Int → Int} {i b v : Int} (h : bsI f i b v) (hc : v ≤ f i) : bsI f (i + 1) b v := by
  rcases h with q | q
  · refine Or.inl ⟨q.1, q.2.1, fun t h1 h2 => ?_⟩
    rcases (show t < i ∨ t = i by omega) with g | g
    · exact q.2.2 t h1 g
    · rw [g]; have := q.2.1; omega
  · exact Or.inr ⟨isAM_ge q.1 (by rw [← q.2.1]; exact hc), q.2⟩
theorem bs_end {f : Int → Int} {L b v : Int} (h : bsI f (L + 1) b v) : b = bsF f L := by
  unfold bsF
  rcases h with q | q
  · rw [if_neg]
    · exact q.1
    · intro ⟨t, h1, h2, h3⟩
      have := q.2.2 t h1 (by omega)
      omega
  · have h1 := q.1.1
    have h2 := q.1.2.1
    rw [if_pos ⟨b, by omega, by omega, q.2.2⟩, am_eq q.1]
