/-! sums over a stretch of whole numbers -/
def sN (f : Int → Int) (lo : Int) : Nat → Int
  | 0 => 0
  | n + 1 => sN f lo n + f (lo + n)
def sZ (f : Int → Int) (lo hi : Int) : Int := sN f lo (hi - lo).toNat
theorem sZ_nil {f : Int → Int} {lo hi : Int} (h : hi ≤ lo) : sZ f lo hi = 0 := by
  unfold sZ
  rw [show (hi - lo).toNat = 0 by omega]
  rfl
theorem sZ_step {f : Int → Int} {lo i : Int} (h : lo ≤ i) : sZ f lo (i + 1) = sZ f lo i + f i := by
  unfold sZ
  rw [show (i + 1 - lo).toNat = (i - lo).toNat + 1 by omega]
  show sN f lo _ + f (lo + ((i - lo).toNat : Int)) = _
  rw [show lo + ((i - lo).toNat : Int) = i by omega]
theorem sN_cong {f g : Int → Int} {lo : Int} : ∀ n : Nat, (∀ j : Int, lo ≤ j → j < lo + n → f j = g j) → sN f lo n = sN g lo n
  | 0, _ => rfl
  | n + 1, h => by
    show sN f lo n + f (lo + n) = sN g lo n + g (lo + n)
    rw [sN_cong n (fun j h1 h2 => h j h1 (by omega)), h (lo + n) (by omega) (by omega)]
theorem sZ_cong {f g : Int → Int} {lo hi : Int} (h : ∀ j : Int, lo ≤ j → j < hi → f j = g j) : sZ f lo hi = sZ g lo hi := by
  unfold sZ
  exact sN_cong _ (fun j h1 h2 => h j h1 (by omega))
theorem sN_b {f : Int → Int} {lo B : Int} : ∀ n : Nat, (∀ j : Int, lo ≤ j → j < lo + n → 0 ≤ f j ∧ f j ≤ B) → 0 ≤ sN f lo n ∧ sN f lo n ≤ n * B
  | 0, _ => by simp [sN]
  | n + 1, h => by
    have h1 := sN_b n (fun j h1 h2 => h j h1 (by omega))
    have h2 := h (lo + n) (by omega) (by omega)
    have e : ((n + 1 : Nat) : Int) * B = n * B + B := by rw [Int.natCast_add, Int.add_mul]; simp
    show 0 ≤ sN f lo n + f (lo + n) ∧ sN f lo n + f (lo + n) ≤ _
    rw [e]
    omega
theorem sZ_b {f : Int → Int} {lo hi B : Int} (hl : lo ≤ hi) (h : ∀ j : Int, lo ≤ j → j < hi → 0 ≤ f j ∧ f j ≤ B) : 0 ≤ sZ f lo hi ∧ sZ f lo hi ≤ (hi - lo) * B := by
  have := sN_b (f := f) (lo := lo) (B := B) (hi - lo).toNat (fun j h1 h2 => h j h1 (by omega))
  unfold sZ
  rw [show (((hi - lo).toNat : Nat) : Int) = hi - lo by omega] at this
  exact this
theorem sN_shift {f : Int → Int} {lo d : Int} : ∀ n : Nat, sN (fun j => f (j + d)) lo n = sN f (lo + d) n
  | 0 => rfl
  | n + 1 => by
    show sN (fun j => f (j + d)) lo n + f (lo + n + d) = sN f (lo + d) n + f (lo + d + n)
    rw [sN_shift n, show lo + n + d = lo + d + n by omega]
theorem sZ_shift {f : Int → Int} {lo hi d : Int} : sZ (fun j => f (j + d)) lo hi = sZ f (lo + d) (hi + d) := by
  unfold sZ
  rw [show hi + d - (lo + d) = hi - lo by omega]
  exact sN_shift _
/-- how many of lo .. hi - 1 are such -/
theorem sZ_c {f : Int → Int} {lo hi : Int} (hl : lo ≤ hi) (h : ∀ j : Int, 0 ≤ f j ∧ f j ≤ 1) : 0 ≤ sZ f lo hi ∧ sZ f lo hi ≤ hi - lo := by
  have := sZ_b (f := f) (B := 1) hl (fun j _ _ => h j)
  omega
