/-! what the methods compute, in words of the state -/
def gl (ab bl : Int → Int) (s p k : Int) : Int := p * (if k < 12 then 1 else 2) * ab (12 * s + k % 12) / bl (12 * s + k % 12)
theorem mul_b {x y X Y : Int} (h1 : 0 ≤ x) (h2 : x ≤ X) (h3 : 0 ≤ y) (h4 : y ≤ Y) : 0 ≤ x * y ∧ x * y ≤ X * Y :=
  ⟨Int.mul_nonneg h1 h3, Int.mul_le_mul h2 h4 h3 (Int.le_trans h1 h2)⟩
theorem shZ_b {p k : Int} (h1 : 0 ≤ p) (h2 : p ≤ 200000) : 0 ≤ shZ p k ∧ shZ p k ≤ 400000 := by unfold shZ; split <;> omega
theorem gl_b {ab bl : Int → Int} {s p k : Int} (ha : ∀ j, 1 ≤ ab j ∧ ab j ≤ 999) (hb : ∀ j, 1 ≤ bl j ∧ bl j ≤ 999 ∧ ab j ≤ 4 * bl j) (h1 : 0 ≤ p) (h2 : p ≤ 200000) : 0 ≤ gl ab bl s p k ∧ gl ab bl s p k ≤ 1600000 := by
  unfold gl
  generalize 12 * s + k % 12 = j
  have a := ha j
  have b := hb j
  have hm : 0 ≤ p * (if k < 12 then 1 else 2) ∧ p * (if k < 12 then 1 else 2) ≤ 400000 := by split <;> omega
  generalize p * (if k < 12 then 1 else 2) = x at hm
  refine ⟨Int.ediv_nonneg (Int.mul_nonneg hm.1 (by omega)) (by omega), ?_⟩
  apply Int.ediv_le_of_le_mul (by omega)
  have e1 : x * ab j ≤ x * (4 * bl j) := Int.mul_le_mul_of_nonneg_left (by omega) hm.1
  have e2 : x * (4 * bl j) ≤ 400000 * (4 * bl j) := Int.mul_le_mul_of_nonneg_right hm.2 (by omega)
  omega
abbrev tn (st le te : Int → Int) (k b : Int) : Int := te (st k) * 10000 / (le k + b)
theorem tn_b {st le te : Int → Int} {k b : Int} (hl : ∀ j, 500 ≤ le j ∧ le j ≤ 9999) (ht : ∀ j, 100 ≤ te j ∧ te j ≤ 20000) (h : -40 ≤ b ∧ b ≤ 40) : 0 ≤ te (st k) * 10000 / (le k + b) ∧ te (st k) * 10000 / (le k + b) ≤ 434783 := by
  have a := hl k
  have t := ht (st k)
  refine ⟨Int.ediv_nonneg (by omega) (by omega), ?_⟩
  apply Int.ediv_le_of_le_mul (by omega)
  have : 434783 * 460 ≤ 434783 * (le k + b) := by omega
  omega
/-- the error of a key -/
abbrev er (st le be te ab bl : Int → Int) (sc pi k : Int) : Int := te (st k) * 10000 / (le k + be k) - gl ab bl sc pi k
abbrev shP (nK : Int) (st : Int → Int) (a b : Int) : Prop := a ≠ b ∧ (0 ≤ a ∧ a < nK) ∧ (0 ≤ b ∧ b < nK) ∧ st a = st b
abbrev onP (bg ln : Int → Int) (a b : Int) : Prop := bg a < bg b + ln b ∧ bg b < bg a + ln a
abbrev clP (nK : Int) (st ka bg ln : Int → Int) (a b : Int) : Prop := shP nK st (ka a) (ka b) ∧ onP bg ln a b
/-- clashes of the notes lo .. hi - 1 -/
noncomputable def clN (nK : Int) (st ka bg ln : Int → Int) (lo hi : Int) : Int := sZ (fun b => sZ (fun a => bP (clP nK st ka bg ln a b)) lo b) lo hi
theorem clN_b {nK : Int} {st ka bg ln : Int → Int} {lo hi : Int} (h : lo ≤ hi) (h2 : hi ≤ lo + 40) : 0 ≤ clN nK st ka bg ln lo hi ∧ clN nK st ka bg ln lo hi ≤ 1600 := by
  have := sZ_b (f := fun b => sZ (fun a => bP (clP nK st ka bg ln a b)) lo b) (lo := lo) (hi := hi) (B := 40) h (fun j h3 h4 => by
    have := sZ_c (f := fun a => bP (clP nK st ka bg ln a j)) h3 (fun i => bP_b _)
    (try dsimp only at this ⊢)
    omega)
  unfold clN
  omega
/-- the first of 0 .. n with the greatest e -/
def wsZ (e : Int → Int) : Nat → Int
  | 0 => 0
  | n + 1 => if e (wsZ e n) < e ((n + 1 : Nat) : Int) then ((n + 1 : Nat) : Int) else wsZ e n
theorem wsZ_gt {e : Int → Int} {k a g : Int} (h : 1 ≤ k) (hr : a = wsZ e (k - 1).toNat) (hg : g = e a) (hc : g < e k) : k = wsZ e (k + 1 - 1).toNat := by
  rw [show (k + 1 - 1).toNat = (k - 1).toNat + 1 by omega]
  show k = if e (wsZ e (k - 1).toNat) < e (((k - 1).toNat + 1 : Nat) : Int) then (((k - 1).toNat + 1 : Nat) : Int) else wsZ e (k - 1).toNat
  rw [show (((k - 1).toNat + 1 : Nat) : Int) = k by omega, ← hr, ← hg, if_pos hc]
theorem wsZ_le {e : Int → Int} {k a g : Int} (h : 1 ≤ k) (hr : a = wsZ e (k - 1).toNat) (hg : g = e a) (hc : e k ≤ g) : a = wsZ e (k + 1 - 1).toNat := by
  rw [show (k + 1 - 1).toNat = (k - 1).toNat + 1 by omega]
  show a = if e (wsZ e (k - 1).toNat) < e (((k - 1).toNat + 1 : Nat) : Int) then (((k - 1).toNat + 1 : Nat) : Int) else wsZ e (k - 1).toNat
  rw [show (((k - 1).toNat + 1 : Nat) : Int) = k by omega, ← hr, ← hg, if_neg (by omega)]
theorem er_b {nK sc pi re bk : Int} {st le be te ab bl ka bg ln ns me : Int → Int} (I : okS nK st le be te ab bl ka bg ln ns me sc pi re bk) (k : Int) : -1600000 ≤ er st le be te ab bl sc pi k ∧ er st le be te ab bl sc pi k ≤ 434783 := by
  have i2 := I.pi
  have b7 := tn_b (st := st) (k := k) (b := be k) I.le I.te (I.be k)
  have b6 := gl_b (s := sc) (p := pi) (k := k) I.ab I.bl (by omega) (by omega)
  show -1600000 ≤ te (st k) * 10000 / (le k + be k) - gl ab bl sc pi k ∧ te (st k) * 10000 / (le k + be k) - gl ab bl sc pi k ≤ 434783
  omega
theorem clN_next {nK : Int} {st ka bg ln : Int → Int} {p b : Int} (h : 0 ≤ b) : clN nK st ka bg ln (p * 40) (p * 40 + b) + sZ (fun a => bP (clP nK st ka bg ln (40 * p + a) (40 * p + b))) 0 b = clN nK st ka bg ln (p * 40) (p * 40 + (b + 1)) := by
  unfold clN
  rw [show p * 40 + (b + 1) = p * 40 + b + 1 by omega, sZ_step (by omega)]
  congr 1
  have e := sZ_shift (f := fun a => bP (clP nK st ka bg ln a (40 * p + b))) (lo := 0) (hi := b) (d := 40 * p)
  rw [show (0 : Int) + 40 * p = p * 40 by omega, show b + 40 * p = p * 40 + b by omega] at e
  rw [show (40 * p + b) = p * 40 + b by omega] at e ⊢
  rw [← e]
  exact sZ_cong (fun j _ _ => by rw [show 40 * p + j = j + 40 * p by omega])
