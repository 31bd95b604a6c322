/-- the last of lo .. with the value v, or d -/
def ggN (g : Int → Int) (v d lo : Int) : Nat → Int
  | 0 => d
  | n + 1 => if g (lo + n) = v then lo + n else ggN g v d lo n
def ggZ (g : Int → Int) (v d lo hi : Int) : Int := ggN g v d lo (hi - lo).toNat
theorem ggZ_0 {g : Int → Int} {v d lo hi : Int} (h : hi ≤ lo) : ggZ g v d lo hi = d := by
  unfold ggZ
  rw [show (hi - lo).toNat = 0 by omega]
  rfl
theorem ggZ_s {g : Int → Int} {v d lo i : Int} (h : lo ≤ i) : ggZ g v d lo (i + 1) = if g i = v then i else ggZ g v d lo i := by
  unfold ggZ
  rw [show (i + 1 - lo).toNat = (i - lo).toNat + 1 by omega]
  show (if g (lo + ((i - lo).toNat : Int)) = v then lo + ((i - lo).toNat : Int) else ggN g v d lo (i - lo).toNat) = _
  rw [show lo + ((i - lo).toNat : Int) = i by omega]
theorem ggN_at {g : Int → Int} {v d lo : Int} : ∀ n : Nat, (∃ x, lo ≤ x ∧ x < lo + n ∧ g x = v) → lo ≤ ggN g v d lo n ∧ ggN g v d lo n < lo + n ∧ g (ggN g v d lo n) = v
  | 0, h => by obtain ⟨x, h1, h2, -⟩ := h; omega
  | n + 1, h => by
    show lo ≤ (if g (lo + n) = v then lo + n else ggN g v d lo n) ∧ (if g (lo + n) = v then lo + n else ggN g v d lo n) < lo + ((n + 1 : Nat) : Int) ∧ g (if g (lo + n) = v then lo + n else ggN g v d lo n) = v
    by_cases q : g (lo + n) = v
    · rw [if_pos q]; exact ⟨by omega, by omega, q⟩
    · rw [if_neg q]
      obtain ⟨x, h1, h2, h3⟩ := h
      have := ggN_at (d := d) n ⟨x, h1, by rcases (show x < lo + n ∨ x = lo + n by omega) with z | z; exact z; rw [z] at h3; exact absurd h3 q, h3⟩
      exact ⟨this.1, by omega, this.2.2⟩
theorem ggZ_at {g : Int → Int} {v d lo hi : Int} (h : ∃ x, lo ≤ x ∧ x < hi ∧ g x = v) : lo ≤ ggZ g v d lo hi ∧ ggZ g v d lo hi < hi ∧ g (ggZ g v d lo hi) = v := by
  obtain ⟨x, h1, h2, h3⟩ := h
  have := ggN_at (g := g) (v := v) (d := d) (lo := lo) (hi - lo).toNat ⟨x, h1, by omega, h3⟩
  refine ⟨this.1, ?_, this.2.2⟩
  have := this.2.1
  unfold ggZ
  omega
theorem ggN_cong {g f : Int → Int} {v w d lo : Int} : ∀ n : Nat, (∀ x, lo ≤ x → x < lo + n → (g x = v ↔ f x = w)) → ggN g v d lo n = ggN f w d lo n
  | 0, _ => rfl
  | n + 1, h => by
    show (if g (lo + n) = v then lo + n else ggN g v d lo n) = (if f (lo + n) = w then lo + n else ggN f w d lo n)
    have e := h (lo + n) (by omega) (by omega)
    rw [ggN_cong n (fun x h1 h2 => h x h1 (by omega))]
    by_cases q : g (lo + n) = v
    · rw [if_pos q, if_pos (e.mp q)]
    · rw [if_neg q, if_neg (fun z => q (e.mpr z))]
theorem ggZ_cong {g f : Int → Int} {v w d lo hi : Int} (h : ∀ x, lo ≤ x → x < hi → (g x = v ↔ f x = w)) : ggZ g v d lo hi = ggZ f w d lo hi := ggN_cong _ (fun x h1 h2 => h x h1 (by omega))
/-- where the next group begins -/
def nx (C : Int → Int → Int) (n m s a : Int) : Int := ggZ (fun x => C a (x - 1) + dp C n m (s - 1) x) (dp C n m s a) a (a + 1) (min n (a + m) + 1)
def kbN (C : Int → Int → Int) (n m S : Int) : Nat → Int
  | 0 => 0
  | g + 1 => nx C n m (S - g) (kbN C n m S g)
def kb (C : Int → Int → Int) (n m S g : Int) : Int := kbN C n m S g.toNat
theorem kb_0 {C : Int → Int → Int} {n m S : Int} : kb C n m S 0 = 0 := rfl
theorem kb_s {C : Int → Int → Int} {n m S g : Int} (h : 0 ≤ g) : kb C n m S (g + 1) = nx C n m (S - g) (kb C n m S g) := by
  unfold kb
  rw [show (g + 1).toNat = g.toNat + 1 by omega]
  show nx C n m (S - (g.toNat : Int)) _ = _
  rw [show ((g.toNat : Nat) : Int) = g by omega]
theorem nx_at {C : Int → Int → Int} {n m s a : Int} (hC : ∀ a b, 0 ≤ C a b) (hs : 1 ≤ s) (hd : dp C n m s a < 1000000) : (a + 1 ≤ nx C n m s a ∧ nx C n m s a ≤ n ∧ nx C n m s a ≤ a + m) ∧ C a (nx C n m s a - 1) + dp C n m (s - 1) (nx C n m s a) = dp C n m s a := by
  have e := dp_s (C := C) (n := n) (m := m) (a := a) hs
  rw [e] at hd
  obtain ⟨x, h1, h2, h3⟩ := mnZ_at hd
  have z := ggZ_at (g := fun x => C a (x - 1) + dp C n m (s - 1) x) (v := dp C n m s a) (d := a) (lo := a + 1) (hi := min n (a + m) + 1) ⟨x, h1, h2, by rw [e]; exact h3⟩
  have z1 := z.1
  have z2 := z.2.1
  exact ⟨⟨z1, by unfold nx; omega, by unfold nx; omega⟩, z.2.2⟩
theorem nx_dp {C : Int → Int → Int} {n m s a : Int} (hC : ∀ a b, 0 ≤ C a b) (hs : 1 ≤ s) (hd : dp C n m s a < 1000000) : dp C n m (s - 1) (nx C n m s a) < 1000000 ∧ dp C n m (s - 1) (nx C n m s a) ≤ dp C n m s a := by
  have h := (nx_at hC hs hd).2
  have c := hC a (nx C n m s a - 1)
  omega
theorem kbN_dp {C : Int → Int → Int} {n m S : Int} (hC : ∀ a b, 0 ≤ C a b) (hd : dp C n m S 0 < 1000000) : ∀ g : Nat, (g : Int) ≤ S → dp C n m (S - g) (kbN C n m S g) < 1000000 ∧ dp C n m (S - g) (kbN C n m S g) ≤ dp C n m S 0 ∧ 0 ≤ kbN C n m S g
  | 0, _ => by rw [show S - ((0 : Nat) : Int) = S by omega]; exact ⟨hd, Int.le_refl _, Int.le_refl 0⟩
  | g + 1, h => by
    have ih := kbN_dp hC hd g (by omega)
    have k := nx_dp hC (s := S - g) (by omega) ih.1
    have a := (nx_at hC (s := S - g) (by omega) ih.1).1
    rw [show S - ((g + 1 : Nat) : Int) = S - g - 1 by omega]
    exact ⟨k.1, Int.le_trans k.2 ih.2.1, by show 0 ≤ nx C n m (S - g) (kbN C n m S g); omega⟩
theorem kb_dp {C : Int → Int → Int} {n m S g : Int} (hC : ∀ a b, 0 ≤ C a b) (hd : dp C n m S 0 < 1000000) (h0 : 0 ≤ g) (h : g ≤ S) : dp C n m (S - g) (kb C n m S g) < 1000000 ∧ dp C n m (S - g) (kb C n m S g) ≤ dp C n m S 0 ∧ 0 ≤ kb C n m S g := by
  have := kbN_dp (n := n) (m := m) hC hd g.toNat (by omega)
  rw [show ((g.toNat : Nat) : Int) = g by omega] at this
  exact this
theorem kb_up {C : Int → Int → Int} {n m S g : Int} (hC : ∀ a b, 0 ≤ C a b) (hd : dp C n m S 0 < 1000000) (h0 : 0 ≤ g) (h : g < S) : kb C n m S g < kb C n m S (g + 1) ∧ kb C n m S (g + 1) ≤ n := by
  have k := kb_dp (n := n) (m := m) hC hd h0 (by omega)
  have a := (nx_at hC (s := S - g) (by omega) k.1).1
  rw [kb_s h0]
  omega
theorem kb_mono {C : Int → Int → Int} {n m S g : Int} (hC : ∀ a b, 0 ≤ C a b) (hd : dp C n m S 0 < 1000000) (h0 : 0 ≤ g) : ∀ k : Nat, g + k ≤ S → kb C n m S g ≤ kb C n m S (g + k)
  | 0, _ => by rw [show g + ((0 : Nat) : Int) = g by omega]; exact Int.le_refl _
  | k + 1, h => by
    have ih := kb_mono hC hd h0 k (by omega)
    have u := kb_up (n := n) (m := m) hC hd (g := g + k) (by omega) (by omega)
    rw [show g + ((k + 1 : Nat) : Int) = g + k + 1 by omega]
    omega
theorem kb_le {C : Int → Int → Int} {n m S g t : Int} (hC : ∀ a b, 0 ≤ C a b) (hd : dp C n m S 0 < 1000000) (h0 : 0 ≤ t) (h1 : t ≤ g) (h : g ≤ S) : kb C n m S t ≤ kb C n m S g := by
  have := kb_mono (n := n) (m := m) hC hd h0 (g - t).toNat (by omega)
  rw [show t + ((g - t).toNat : Int) = g by omega] at this
  exact this
theorem kb_end {C : Int → Int → Int} {n m S : Int} (hC : ∀ a b, 0 ≤ C a b) (hd : dp C n m S 0 < 1000000) (h0 : 0 ≤ S) : kb C n m S S = n := by
  have k := (kb_dp (n := n) (m := m) hC hd h0 (Int.le_refl S)).1
  rw [show S - S = 0 by omega, dp_0] at k
  by_cases q : kb C n m S S = n
  · exact q
  · rw [if_neg q] at k; omega
def isG (C : Int → Int → Int) (n m S k g : Int) : Prop := (0 ≤ g ∧ g < S) ∧ kb C n m S g ≤ k ∧ k < kb C n m S (g + 1)
theorem isG_one {C : Int → Int → Int} {n m S k g t : Int} (hC : ∀ a b, 0 ≤ C a b) (hd : dp C n m S 0 < 1000000) (h : isG C n m S k g) (h2 : isG C n m S k t) : g = t := by
  obtain ⟨a1, a2, a3⟩ := h
  obtain ⟨b1, b2, b3⟩ := h2
  rcases Int.lt_trichotomy g t with q | q | q
  · have := kb_le (n := n) (m := m) hC hd (t := g + 1) (g := t) (by omega) (by omega) (by omega); omega
  · exact q
  · have := kb_le (n := n) (m := m) hC hd (t := t + 1) (g := g) (by omega) (by omega) (by omega); omega
theorem isG_ex {C : Int → Int → Int} {n m S k : Int} (hC : ∀ a b, 0 ≤ C a b) (hd : dp C n m S 0 < 1000000) (h0 : 0 ≤ k) : ∀ j : Nat, (j : Int) ≤ S → k < kb C n m S j → ∃ g, isG C n m S k g
  | 0, _, h => by exact absurd h (by rw [show ((0 : Nat) : Int) = 0 by rfl, kb_0]; omega)
  | j + 1, h1, h2 => by
    rcases (show k < kb C n m S j ∨ kb C n m S j ≤ k by omega) with q | q
    · exact isG_ex hC hd h0 j (by omega) q
    · exact ⟨j, by omega, q, by rw [show (j : Int) + 1 = ((j + 1 : Nat) : Int) by omega]; exact h2⟩
noncomputable def gF (C : Int → Int → Int) (n m S k : Int) : Int := Classical.epsilon (isG C n m S k)
theorem gF_is {C : Int → Int → Int} {n m S k : Int} (hC : ∀ a b, 0 ≤ C a b) (hd : dp C n m S 0 < 1000000) (hS : 0 ≤ S) (h0 : 0 ≤ k) (hk : k < n) : isG C n m S k (gF C n m S k) := by
  obtain ⟨g, hg⟩ := isG_ex (n := n) (m := m) hC hd h0 S.toNat (by omega) (by rw [show ((S.toNat : Nat) : Int) = S by omega, kb_end hC hd hS]; exact hk)
  exact Classical.epsilon_spec (p := isG C n m S k) ⟨g, hg⟩
/-! no clash at all -/
theorem dp_no0 {C : Int → Int → Int} {n m s a : Int} (hC : ∀ a b, 0 ≤ C a b) (h : dp C n m s a = 0) : dp (noC C) n m s a = 0 := (dpN_no hC _ a).1 h
theorem dp_no1 {C : Int → Int → Int} {n m s a : Int} (hC : ∀ a b, 0 ≤ C a b) (h : dp C n m s a ≠ 0) : dp (noC C) n m s a = 1000000 := (dpN_no hC _ a).2 h
theorem noC_0 {C : Int → Int → Int} (hC : ∀ a b, 0 ≤ C a b) (a b : Int) : 0 ≤ noC C a b := by unfold noC; have := hC a b; split <;> omega
theorem nx_no {C : Int → Int → Int} {n m s a : Int} (hC : ∀ a b, 0 ≤ C a b) (hs : 1 ≤ s) (hd : dp C n m s a = 0) : nx (noC C) n m s a = nx C n m s a := by
  unfold nx
  refine ggZ_cong (fun x h1 h2 => ?_)
  (try dsimp only)
  rw [hd, dp_no0 hC hd]
  have c := hC a (x - 1)
  have d := dp_b (n := n) (m := m) (s := s - 1) (a := x) hC
  have c2 := noC_0 hC a (x - 1)
  have d2 := dp_b (n := n) (m := m) (s := s - 1) (a := x) (noC_0 hC)
  constructor
  · intro z
    have c0 : C a (x - 1) = 0 := by
      rcases (show 0 < C a (x - 1) ∨ C a (x - 1) = 0 by omega) with q | q
      · have : noC C a (x - 1) = 1000000 := by unfold noC; rw [if_pos q]
        omega
      · exact q
    have d0 : dp C n m (s - 1) x = 0 := by
      rcases (show dp C n m (s - 1) x = 0 ∨ dp C n m (s - 1) x ≠ 0 by omega) with q | q
      · exact q
      · have := dp_no1 hC q; omega
    omega
  · intro z
    have e := dp_no0 (n := n) (m := m) (s := s - 1) (a := x) hC (by omega)
    have : noC C a (x - 1) = 0 := by unfold noC; rw [if_neg (by omega)]; omega
    omega
theorem kbN_no {C : Int → Int → Int} {n m S : Int} (hC : ∀ a b, 0 ≤ C a b) (hd : dp C n m S 0 = 0) : ∀ g : Nat, (g : Int) ≤ S → kbN (noC C) n m S g = kbN C n m S g
  | 0, _ => rfl
  | g + 1, h => by
    have ih := kbN_no hC hd g (by omega)
    have k := kbN_dp (n := n) (m := m) (S := S) hC (by omega) g (by omega)
    have b := dp_b (n := n) (m := m) (s := S - g) (a := kbN C n m S g) hC
    show nx (noC C) n m (S - g) (kbN (noC C) n m S g) = nx C n m (S - g) (kbN C n m S g)
    rw [ih]
    exact nx_no hC (by omega) (by omega)
theorem kb_no {C : Int → Int → Int} {n m S g : Int} (hC : ∀ a b, 0 ≤ C a b) (hd : dp C n m S 0 = 0) (h0 : 0 ≤ g) (h : g ≤ S) : kb (noC C) n m S g = kb C n m S g := kbN_no hC hd _ (by omega)
/-- so many strings as the reference takes -/
theorem fw_no {C : Int → Int → Int} {n m : Int} (hC : ∀ a b, 0 ≤ C a b) (h1 : ∀ a, C a a = 0) (hm : 1 ≤ m) (hn : 1 ≤ n ∧ n ≤ 24) : bsF (fun s => dp (noC C) n m s 0) 24 = fw (fun s => dp C n m s 0) n ∧ dp C n m (fw (fun s => dp C n m s 0) n) 0 = 0 ∧ (1 ≤ fw (fun s => dp C n m s 0) n ∧ fw (fun s => dp C n m s 0) n ≤ n) := by
  have hN : dp C n m n 0 = 0 := dpN_each hC h1 hm n.toNat 0 (by omega)
  have am0 := am_is (g := fun s => dp (noC C) n m s 0) (lo := 1) (hi := 25) (by omega)
  have v : ∀ s, dp (noC C) n m s 0 = 0 ∨ dp (noC C) n m s 0 = 1000000 := fun s => by
    rcases (show dp C n m s 0 = 0 ∨ dp C n m s 0 ≠ 0 by omega) with q | q
    · exact Or.inl (dp_no0 hC q)
    · exact Or.inr (dp_no1 hC q)
  have z : ∀ s, dp (noC C) n m s 0 = 0 → dp C n m s 0 = 0 := fun s h => by
    rcases (show dp C n m s 0 = 0 ∨ dp C n m s 0 ≠ 0 by omega) with q | q
    · exact q
    · have := dp_no1 hC q; omega
  have hn0 := dp_no0 hC hN
  obtain ⟨a1, a2, a3, a4⟩ := am0
  have le : am (fun s => dp (noC C) n m s 0) 1 25 ≤ n := by
    rcases (show am (fun s => dp (noC C) n m s 0) 1 25 ≤ n ∨ n < am (fun s => dp (noC C) n m s 0) 1 25 by omega) with q | q
    · exact q
    · have k := a3 n (by omega) q
      (try dsimp only at k)
      have k : dp (noC C) n m (am (fun s => dp (noC C) n m s 0) 1 25) 0 < dp (noC C) n m n 0 := k
      have b := dp_b (n := n) (m := m) (s := am (fun s => dp (noC C) n m s 0) 1 25) (a := 0) (noC_0 hC)
      omega
  have a0 : dp (noC C) n m (am (fun s => dp (noC C) n m s 0) 1 25) 0 = 0 := by
    have k : dp (noC C) n m (am (fun s => dp (noC C) n m s 0) 1 25) 0 ≤ dp (noC C) n m n 0 := a4 n le (by omega)
    have b := dp_b (n := n) (m := m) (s := am (fun s => dp (noC C) n m s 0) 1 25) (a := 0) (noC_0 hC)
    omega
  have e : fw (fun s => dp C n m s 0) n = am (fun s => dp (noC C) n m s 0) 1 25 := by
    refine fw_eq ⟨⟨a1, le⟩, fun t h1 h2 => ?_, fun _ => z _ a0⟩
    have k : dp (noC C) n m (am (fun s => dp (noC C) n m s 0) 1 25) 0 < dp (noC C) n m t 0 := a3 t h1 h2
    intro q
    have := dp_no0 hC q
    omega
  rw [e]
  refine ⟨?_, z _ a0, a1, le⟩
  unfold bsF
  rw [if_pos ⟨am (fun s => dp (noC C) n m s 0) 1 25, a1, by omega, by show dp (noC C) n m (am (fun s => dp (noC C) n m s 0) 1 25) 0 < 1000000; omega⟩]
  rfl
theorem bsF_b {f : Int → Int} {L : Int} (hL : 0 ≤ L) : bsF f L = -100009 ∨ (1 ≤ bsF f L ∧ bsF f L ≤ L ∧ f (bsF f L) < 1000000) := by
  by_cases q : ∃ t, 1 ≤ t ∧ t ≤ L ∧ f t < 1000000
  · have e : bsF f L = am f 1 (L + 1) := by unfold bsF; rw [if_pos q]
    obtain ⟨t, h1, h2, h3⟩ := q
    have a := am_is (g := f) (lo := 1) (hi := L + 1) (by omega)
    obtain ⟨a1, a2, a3, a4⟩ := a
    rw [e]
    refine Or.inr ⟨a1, by omega, ?_⟩
    rcases (show t < am f 1 (L + 1) ∨ am f 1 (L + 1) ≤ t by omega) with g | g
    · have := a3 t h1 g; omega
    · have := a4 t g (by omega); omega
  · exact Or.inl (by unfold bsF; rw [if_neg q])
theorem bsF_min {f : Int → Int} {L n : Int} (hL : 1 ≤ L) (hn : 1 ≤ n) (h : ∀ t, n < t → f t = 1000000) : bsF f (min L n) = bsF f L := by
  rcases (show L ≤ n ∨ n < L by omega) with q | q
  · rw [show min L n = L by omega]
  · rw [show min L n = n by omega]
    by_cases g : ∃ t, 1 ≤ t ∧ t ≤ n ∧ f t < 1000000
    · have e1 : bsF f n = am f 1 (n + 1) := by unfold bsF; rw [if_pos g]
      obtain ⟨t, h1, h2, h3⟩ := g
      have e2 : bsF f L = am f 1 (L + 1) := by unfold bsF; rw [if_pos ⟨t, h1, by omega, h3⟩]
      rw [e1, e2]
      have a := am_is (g := f) (lo := 1) (hi := n + 1) (by omega)
      have le : f (am f 1 (n + 1)) < 1000000 := by
        rcases (show t < am f 1 (n + 1) ∨ am f 1 (n + 1) ≤ t by omega) with z | z
        · have := a.2.2.1 t h1 z; omega
        · have := a.2.2.2 t z (by omega); omega
      exact (am_eq (isAM_up a (by omega) (fun v g1 g2 => by rw [h v (by omega)]; omega))).symm
    · have e1 : bsF f n = -100009 := by unfold bsF; rw [if_neg g]
      have e2 : bsF f L = -100009 := by
        unfold bsF
        rw [if_neg]
        intro ⟨t, h1, h2, h3⟩
        rcases (show t ≤ n ∨ n < t by omega) with z | z
        · exact g ⟨t, h1, z, h3⟩
        · have := h t z; omega
      rw [e1, e2]
