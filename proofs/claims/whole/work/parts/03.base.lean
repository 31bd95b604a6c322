/-! numbers: an Int as a Java int -/
def iI (z : Int) : Int32 := Int32.ofInt z
def lI (z : Int) : Int64 := Int64.ofInt z
def rg (z : Int) : Prop := -2147483648 ≤ z ∧ z ≤ 2147483647
def bZ : Bool → Int
  | true => 1
  | false => 0
def aZ (z : Int) : Int := if z < 0 then -z else z
def aF (f : Int → Int) : Nat → Int32 := fun j => iI (f j)
def uZ (f : Int → Int) (i v : Int) : Int → Int := fun j => if j = i then v else f j
theorem iI_toInt {z : Int} (h : rg z) : (iI z).toInt = z := by
  unfold iI
  rw [Int32.toInt_ofInt, show Int32.size = 4294967296 from rfl]
  unfold rg at h
  apply Int.bmod_eq_of_le <;> omega
theorem lI_toInt {z : Int} (h : rg z) : (lI z).toInt = z := by
  unfold lI
  rw [Int64.toInt_ofInt, show Int64.size = 18446744073709551616 from rfl]
  unfold rg at h
  apply Int.bmod_eq_of_le <;> omega
theorem iI_of (x : Int32) : x = iI x.toInt := by unfold iI; exact (Int32.ofInt_toInt x).symm
theorem rg_of (x : Int32) : rg x.toInt := by
  have h1 := Int32.le_toInt x
  have h2 := Int32.toInt_lt x
  unfold rg
  omega
theorem iI_add (a b : Int) : iI a + iI b = iI (a + b) := by unfold iI; exact (Int32.ofInt_add a b).symm
theorem iI_sub (a b : Int) : iI a - iI b = iI (a - b) := by unfold iI; exact (Int32.ofInt_sub a b).symm
theorem iI_mul (a b : Int) : iI a * iI b = iI (a * b) := by unfold iI; exact (Int32.ofInt_mul a b).symm
theorem iI_neg (a : Int) : -iI a = iI (-a) := by unfold iI; exact (Int32.ofInt_neg a).symm
theorem iI_lt {a b : Int} (ha : rg a) (hb : rg b) : iI a < iI b ↔ a < b := by rw [Int32.lt_iff_toInt_lt, iI_toInt ha, iI_toInt hb]
theorem iI_le {a b : Int} (ha : rg a) (hb : rg b) : iI a ≤ iI b ↔ a ≤ b := by rw [Int32.le_iff_toInt_le, iI_toInt ha, iI_toInt hb]
theorem iI_eq {a b : Int} (ha : rg a) (hb : rg b) : iI a = iI b ↔ a = b := by rw [← Int32.toInt_inj, iI_toInt ha, iI_toInt hb]
theorem lI_lt {a b : Int} (ha : rg a) (hb : rg b) : lI a < lI b ↔ a < b := by rw [Int64.lt_iff_toInt_lt, lI_toInt ha, lI_toInt hb]
theorem lI_eq {a b : Int} (ha : rg a) (hb : rg b) : lI a = lI b ↔ a = b := by rw [← Int64.toInt_inj, lI_toInt ha, lI_toInt hb]
theorem iI_0 : (0 : Int32) = iI 0 := by decide
theorem iI_l {a : Int} (ha : rg a) : (iI a).toInt64 = lI a := by
  rw [← Int64.toInt_inj, lI_toInt ha, Int32.toInt_toInt64, iI_toInt ha]
theorem rg_s {z : Int} (h1 : -2147483648 ≤ z) (h2 : z ≤ 2147483647) : rg z := ⟨h1, h2⟩
theorem iI_div {a b : Int} (ha : 0 ≤ a) (ha2 : a ≤ 2147483647) (hb : 0 < b) (hb2 : b ≤ 2147483647) : iI a / iI b = iI (a / b) := by
  have h1 : a / b ≤ a := Int.ediv_le_self b ha
  have h2 : 0 ≤ a / b := Int.ediv_nonneg ha (Int.le_of_lt hb)
  rw [← Int32.toInt_inj, iI_toInt (⟨by omega, by omega⟩), Int32.toInt_div, iI_toInt ⟨by omega, by omega⟩, iI_toInt ⟨by omega, by omega⟩, Int.tdiv_eq_ediv_of_nonneg ha]
  apply Int.bmod_eq_of_le <;> omega
theorem iI_clamp {i : Int} (h0 : 0 ≤ i) (h1 : i ≤ 2147483647) : ((iI i).toNatClampNeg : Int) = i := by
  show (((iI i).toInt.toNat : Nat) : Int) = i
  rw [iI_toInt ⟨by omega, h1⟩]
  omega
theorem iI_in {i : Int} {n : Nat} (h0 : 0 ≤ i) (h1 : i < n) (h2 : i ≤ 2147483647) : vp_in (iI i) n := by
  rw [vp_in_iff, iI_toInt ⟨by omega, h2⟩]
  omega
theorem aF_at (f : Int → Int) {i : Int} (h0 : 0 ≤ i) (h2 : i ≤ 2147483647) : aF f (iI i).toNatClampNeg = iI (f i) := by
  unfold aF
  rw [iI_clamp h0 h2]
theorem aF_upd (f : Int → Int) {i v : Int} (h0 : 0 ≤ i) (h2 : i ≤ 2147483647) : upd (aF f) (iI i).toNatClampNeg (iI v) = aF (uZ f i v) := by
  have e := iI_clamp h0 h2
  funext j
  unfold upd aF uZ
  by_cases h : j = (iI i).toNatClampNeg
  · have : (j : Int) = i := by rw [h]; exact e
    simp [h, e]
  · have : ¬ (j : Int) = i := by omega
    simp [h, this]
theorem bZ_b (b : Bool) : 0 ≤ bZ b ∧ bZ b ≤ 1 := by cases b <;> decide
theorem bZ_0 {b : Bool} : iI (bZ b) = 0 ↔ b = false := by cases b <;> decide
theorem aZ_b (z : Int) : 0 ≤ aZ z ∧ (aZ z = z ∨ aZ z = -z) := by unfold aZ; split <;> omega
theorem aZ_i {z : Int} (h : rg z) : (if 0 ≤ iI z then iI z else 0 - iI z) = iI (aZ z) := by
  have e : (0 ≤ iI z) ↔ 0 ≤ z := by rw [iI_0, iI_le ⟨by decide, by decide⟩ h]
  unfold aZ
  by_cases h0 : 0 ≤ z
  · rw [if_pos (e.mpr h0), if_neg (by omega)]
  · rw [if_neg (fun q => h0 (e.mp q)), if_pos (by omega), iI_0, iI_sub, Int.zero_sub]
theorem mx_i {a b : Int} (ha : rg a) (hb : rg b) : (if iI a < iI b then iI b else iI a) = iI (max a b) := by
  by_cases h : a < b
  · rw [if_pos ((iI_lt ha hb).mpr h), show max a b = b by omega]
  · rw [if_neg (fun q => h ((iI_lt ha hb).mp q)), show max a b = a by omega]
theorem mn_i {a b : Int} (ha : rg a) (hb : rg b) : (if iI b < iI a then iI b else iI a) = iI (min a b) := by
  by_cases h : b < a
  · rw [if_pos ((iI_lt hb ha).mpr h), show min a b = b by omega]
  · rw [if_neg (fun q => h ((iI_lt hb ha).mp q)), show min a b = a by omega]
