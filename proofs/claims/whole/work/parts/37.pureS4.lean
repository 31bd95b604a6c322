theorem bsI_v {f : Int → Int} {i b v : Int} (h : bsI f i b v) : v ≤ 1000000 := by
  rcases h with q | q
  · have := q.2.1; omega
  · have h1 := q.2.1; have h2 := q.2.2; omega
theorem bm_0 {f : Int → Int} : ∃ v, bsI f 1 (-100009) v := ⟨_, bs_0⟩
theorem bm_far {f : Int → Int} {i b : Int} (h : ∃ v, bsI f i b v) (hc : 1000000 ≤ f i) : ∃ v, bsI f (i + 1) b v := by
  obtain ⟨v, hv⟩ := h
  exact ⟨v, bs_ge hv (by have := bsI_v hv; omega)⟩
theorem bm_new {f : Int → Int} {i b : Int} (h : ∃ v, bsI f i b v) (hi : 1 ≤ i) (hb : b = -100009) (hc : f i < 1000000) : ∃ v, bsI f (i + 1) i v := by
  obtain ⟨v, hv⟩ := h
  refine ⟨_, bs_lt hv hi ?_⟩
  rcases hv with q | q
  · have := q.2.1; omega
  · have := q.1.1; omega
theorem bm_lt {f : Int → Int} {i b : Int} (h : ∃ v, bsI f i b v) (hi : 1 ≤ i) (hb : b ≠ -100009) (hc : f i < f b) : ∃ v, bsI f (i + 1) i v := by
  obtain ⟨v, hv⟩ := h
  refine ⟨_, bs_lt hv hi ?_⟩
  rcases hv with q | q
  · exact absurd q.1 hb
  · have := q.2.1; omega
theorem bm_ge {f : Int → Int} {i b : Int} (h : ∃ v, bsI f i b v) (hb : b ≠ -100009) (hc : f b ≤ f i) : ∃ v, bsI f (i + 1) b v := by
  obtain ⟨v, hv⟩ := h
  refine ⟨v, bs_ge hv ?_⟩
  rcases hv with q | q
  · exact absurd q.1 hb
  · have := q.2.1; omega
theorem bm_b {f : Int → Int} {i b : Int} (h : ∃ v, bsI f i b v) : b = -100009 ∨ (1 ≤ b ∧ b < i ∧ f b < 1000000) := by
  obtain ⟨v, hv⟩ := h
  rcases hv with q | q
  · exact Or.inl q.1
  · exact Or.inr ⟨q.1.1, q.1.2.1, q.2.2⟩
theorem bm_end {f : Int → Int} {L b : Int} (h : ∃ v, bsI f (L + 1) b v) : b = bsF f L := by
  obtain ⟨v, hv⟩ := h
  exact bs_end hv
theorem ggN_sh {G : Int → Int} {v d d2 lo : Int} : ∀ n : Nat, (∃ x, lo + 1 ≤ x ∧ x < lo + 1 + n ∧ G x = v) → ggN (fun b => G (b + 1)) v d lo n + 1 = ggN G v d2 (lo + 1) n
  | 0, h => by obtain ⟨x, h1, h2, -⟩ := h; omega
  | n + 1, h => by
    show (if G (lo + n + 1) = v then lo + n else ggN (fun b => G (b + 1)) v d lo n) + 1 = (if G (lo + 1 + n) = v then lo + 1 + n else ggN G v d2 (lo + 1) n)
    rw [show lo + n + 1 = lo + 1 + n by omega]
    by_cases q : G (lo + 1 + n) = v
    · rw [if_pos q, if_pos q]; omega
    · rw [if_neg q, if_neg q]
      obtain ⟨x, h1, h2, h3⟩ := h
      exact ggN_sh n ⟨x, h1, by rcases (show x < lo + 1 + n ∨ x = lo + 1 + n by omega) with z | z; exact z; rw [z] at h3; exact absurd h3 q, h3⟩
/-- the reference's end of a group -/
def ge9 (C : Int → Int → Int) (n m s a b : Int) : Int := ggZ (fun b => C a b + dp C n m (s - 1) (b + 1)) (dp C n m s a) a a b
theorem ge9_nx {C : Int → Int → Int} {n m s a : Int} (hC : ∀ a b, 0 ≤ C a b) (hs : 1 ≤ s) (hd : dp C n m s a < 1000000) : ge9 C n m s a (min n (a + m)) + 1 = nx C n m s a := by
  have z := nx_at hC hs hd
  unfold ge9 nx ggZ
  rw [show min n (a + m) + 1 - (a + 1) = min n (a + m) - a by omega]
  have e : (fun b => C a b + dp C n m (s - 1) (b + 1)) = fun b => (fun x => C a (x - 1) + dp C n m (s - 1) x) (b + 1) := by
    funext b
    show C a b + dp C n m (s - 1) (b + 1) = C a (b + 1 - 1) + dp C n m (s - 1) (b + 1)
    rw [show b + 1 - 1 = b by omega]
  rw [e]
  exact ggN_sh (G := fun x => C a (x - 1) + dp C n m (s - 1) x) (lo := a) (min n (a + m) - a).toNat ⟨nx C n m s a, by omega, by omega, z.2⟩
theorem ge9_s {C : Int → Int → Int} {n m s a b : Int} (h : a ≤ b) : ge9 C n m s a (b + 1) = if C a b + dp C n m (s - 1) (b + 1) = dp C n m s a then b else ge9 C n m s a b := ggZ_s h
theorem ge9_0 {C : Int → Int → Int} {n m s a : Int} : ge9 C n m s a a = a := ggZ_0 (Int.le_refl a)
def cw (wo : Bool) (C : Int → Int → Int) : Int → Int → Int := if wo = true then noC C else C
theorem cw_b {wo : Bool} {C : Int → Int → Int} (h : ∀ x y, 0 ≤ C x y ∧ C x y ≤ 6400) (x y : Int) : 0 ≤ cw wo C x y ∧ cw wo C x y ≤ 1000000 := by
  have := h x y
  unfold cw noC
  split
  · (try dsimp only)
    split <;> omega
  · omega
theorem cw_t {C : Int → Int → Int} {x y : Int} {wo : Bool} (h : wo = true) (hc : 0 < C x y) : 1000000 = cw wo C x y := by unfold cw noC; rw [if_pos h]; show _ = if 0 < C x y then (1000000 : Int) else C x y; rw [if_pos hc]
theorem cw_z {C : Int → Int → Int} {x y : Int} {wo : Bool} (hc : C x y ≤ 0) : C x y = cw wo C x y := by
  unfold cw noC
  split
  · show _ = if 0 < C x y then (1000000 : Int) else C x y
    rw [if_neg (by omega)]
  · rfl
theorem cw_f {C : Int → Int → Int} {x y : Int} {wo : Bool} (h : wo = false) : C x y = cw wo C x y := by unfold cw; rw [if_neg (by rw [h]; exact Bool.false_ne_true)]
