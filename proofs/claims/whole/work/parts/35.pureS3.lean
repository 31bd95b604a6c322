theorem clS_tog {pa ka bg ln ns : Int → Int} {bk : Int} (hk : ∀ j, 0 ≤ ka j ∧ ka j ≤ 23) (h : ∀ j, 0 ≤ j → j < 576 → pa j = prN ka bg ln ns bk j) : ∀ x y, 0 ≤ x → x ≤ y + 1 → y ≤ 23 → clS pa x y = tog ka bg ln ns bk x y := by
  intro x y h1 h2 h3
  rw [tog_eq hk h1 h3]
  unfold clS blw
  exact sZ_cong (fun u g1 g2 => sZ_cong (fun lo e1 e2 => h (lo * 24 + u) (by omega) (by omega)))
noncomputable def stF (C : Int → Int → Int) (n m s : Int) : Int := if s = 0 then fw (fun t => dp C n m t 0) n else bsF (fun t => dp C n m t 0) (min s n)
theorem stF_b {C : Int → Int → Int} {n m s : Int} (hC : ∀ a b, 0 ≤ C a b) (h1 : ∀ a, C a a = 0) (hm : 1 ≤ m) (hn : 1 ≤ n ∧ n ≤ 24) (hs : 0 ≤ s) : stF C n m s = -100009 ∨ ((1 ≤ stF C n m s ∧ stF C n m s ≤ n) ∧ dp C n m (stF C n m s) 0 < 1000000) := by
  unfold stF
  by_cases q : s = 0
  · rw [if_pos q]
    have z := fw_no (C := C) (n := n) (m := m) hC h1 hm hn
    exact Or.inr ⟨z.2.2, by rw [z.2.1]; omega⟩
  · rw [if_neg q]
    rcases bsF_b (f := fun t => dp C n m t 0) (L := min s n) (by omega) with z | z
    · exact Or.inl z
    · have z1 := z.2.1
      exact Or.inr ⟨⟨z.1, by omega⟩, z.2.2⟩
noncomputable def suS (C : Int → Int → Int) (n m S : Int) (st : Int → Int) (k : Int) : Int → Int := fun j => if 0 ≤ j ∧ j < k then gF C n m S j else st j
theorem suS_0 {C : Int → Int → Int} {n m S : Int} {st : Int → Int} : st = suS C n m S st 0 := by
  funext j
  unfold suS
  rw [if_neg (by omega)]
theorem suS_s {C : Int → Int → Int} {n m S k : Int} {st : Int → Int} (h : 0 ≤ k) : uZ (suS C n m S st k) k (gF C n m S k) = suS C n m S st (k + 1) := by
  funext j
  unfold uZ suS
  by_cases q : j = k
  · subst q
    rw [if_pos rfl, if_pos (by omega)]
  · rw [if_neg q]
    by_cases q2 : 0 ≤ j ∧ j < k
    · rw [if_pos q2, if_pos (by omega)]
    · rw [if_neg q2, if_neg (by omega)]
theorem gF_go {C : Int → Int → Int} {n m S k : Int} {go : Int → Int} (hC : ∀ a b, 0 ≤ C a b) (hd : dp C n m S 0 < 1000000) (hS : 0 ≤ S) (h0 : 0 ≤ k) (hk : k < n) (h : ∀ g k, 0 ≤ g → g < S → kb C n m S g ≤ k → k < kb C n m S (g + 1) → go k = g) : go k = gF C n m S k := by
  have z := gF_is hC hd hS h0 hk
  exact h _ k z.1.1 z.1.2 z.2.1 z.2.2
