/-! old ones: the misfit, and why a walk may stop -/
def mt1 (me ab bl : Int → Int) (s p w k : Int) : Int := if k = w ∨ me k = -100009 then 0 else aZ (gl ab bl s p k - me k)
def mis (nK : Int) (me ab bl : Int → Int) (s p w : Int) : Int := sZ (fun k => if k = w ∨ me k = -100009 then 0 else aZ (gl ab bl s p k - me k)) 0 nK
theorem mis_b {nK : Int} {me ab bl : Int → Int} {s p w : Int} (hn : 0 ≤ nK ∧ nK ≤ 24) (hm : ∀ j, me j = -100009 ∨ (100 ≤ me j ∧ me j ≤ 400000)) (ha : ∀ j, 1 ≤ ab j ∧ ab j ≤ 999) (hb : ∀ j, 1 ≤ bl j ∧ bl j ≤ 999 ∧ ab j ≤ 4 * bl j) (h1 : 0 ≤ p) (h2 : p ≤ 200000) : 0 ≤ mis nK me ab bl s p w ∧ mis nK me ab bl s p w ≤ 38400000 := by
  have := sZ_b (f := fun k => if k = w ∨ me k = -100009 then 0 else aZ (gl ab bl s p k - me k)) (lo := 0) (hi := nK) (B := 1600000) hn.1 (fun j _ _ => by
    (try dsimp only)
    have g := gl_b (s := s) (p := p) (k := j) ha hb h1 h2
    have m := hm j
    have z := aZ_b (gl ab bl s p j - me j)
    split <;> omega)
  unfold mis
  omega
theorem mis_neg {nK : Int} {me ab bl : Int → Int} {s p w : Int} (h : w < 0) : mis nK me ab bl s p w = mis nK me ab bl s p (-1) := by
  unfold mis
  refine sZ_cong (fun k h1 _ => ?_)
  by_cases q : me k = -100009
  · rw [if_pos (Or.inr q), if_pos (Or.inr q)]
  · rw [if_neg (fun z => by rcases z with z | z; omega; exact q z), if_neg (fun z => by rcases z with z | z; omega; exact q z)]
theorem cvx_floor {A B p0 p1 p2 F0 F1 F2 : Int} (hB : 0 < B) (h01 : p0 ≤ p1) (h12 : p1 ≤ p2) (a0 : B * F0 ≤ p0 * A ∧ p0 * A < B * F0 + B) (a1 : B * F1 ≤ p1 * A ∧ p1 * A < B * F1 + B) (a2 : B * F2 ≤ p2 * A ∧ p2 * A < B * F2 + B) : (p2 - p0) * (F1 - 1) ≤ (p2 - p1) * F0 + (p1 - p0) * F2 ∧ (p2 - p1) * F0 + (p1 - p0) * F2 ≤ (p2 - p0) * (F1 + 1) := by
  have hX : 0 ≤ p2 - p1 := by omega
  have hY : 0 ≤ p1 - p0 := by omega
  have hZ : 0 ≤ p2 - p0 := by omega
  have e1 : (p2 - p1) * (p0 * A) + (p1 - p0) * (p2 * A) = (p2 - p0) * (p1 * A) := by grind
  constructor
  · apply Int.le_of_mul_le_mul_left _ hB
    have c0 := Int.mul_le_mul_of_nonneg_left (show p0 * A - B ≤ B * F0 by omega) hX
    have c2 := Int.mul_le_mul_of_nonneg_left (show p2 * A - B ≤ B * F2 by omega) hY
    have c1 := Int.mul_le_mul_of_nonneg_left a1.1 hZ
    have e2 : B * ((p2 - p0) * (F1 - 1)) = (p2 - p0) * (B * F1) - (p2 - p0) * B := by grind
    have e3 : B * ((p2 - p1) * F0 + (p1 - p0) * F2) = (p2 - p1) * (B * F0) + (p1 - p0) * (B * F2) := by grind
    have e4 : (p2 - p1) * (p0 * A - B) + (p1 - p0) * (p2 * A - B) = (p2 - p0) * (p1 * A) - (p2 - p0) * B := by grind
    omega
  · apply Int.le_of_mul_le_mul_left _ hB
    have c0 := Int.mul_le_mul_of_nonneg_left a0.1 hX
    have c2 := Int.mul_le_mul_of_nonneg_left a2.1 hY
    have c1 := Int.mul_le_mul_of_nonneg_left (show p1 * A ≤ B * F1 + B by omega) hZ
    have e2 : B * ((p2 - p0) * (F1 + 1)) = (p2 - p0) * (B * F1 + B) := by grind
    have e3 : B * ((p2 - p1) * F0 + (p1 - p0) * F2) = (p2 - p1) * (B * F0) + (p1 - p0) * (B * F2) := by grind
    omega
theorem fl_b (x : Int) {B : Int} (hB : 0 < B) : B * (x / B) ≤ x ∧ x < B * (x / B) + B := by
  have h1 := Int.emod_nonneg x (show B ≠ 0 by omega)
  have h2 := Int.emod_lt_of_pos x hB
  have h3 := Int.mul_ediv_add_emod x B
  omega
theorem cvx_term {A B p0 p1 p2 m : Int} (hB : 0 < B) (h01 : p0 ≤ p1) (h12 : p1 ≤ p2) : (p2 - p0) * (aZ (p1 * A / B - m) - 2) ≤ (p2 - p1) * aZ (p0 * A / B - m) + (p1 - p0) * aZ (p2 * A / B - m) := by
  have k := cvx_floor hB h01 h12 (fl_b (p0 * A) hB) (fl_b (p1 * A) hB) (fl_b (p2 * A) hB)
  generalize p0 * A / B = F0 at k ⊢
  generalize p1 * A / B = F1 at k ⊢
  generalize p2 * A / B = F2 at k ⊢
  have hX : 0 ≤ p2 - p1 := by omega
  have hY : 0 ≤ p1 - p0 := by omega
  have hZ : 0 ≤ p2 - p0 := by omega
  have z0 := aZ_b (F0 - m)
  have z2 := aZ_b (F2 - m)
  rcases (show 0 ≤ F1 - m ∨ F1 - m < 0 by omega) with q | q
  · rw [aZ_p q]
    have c0 := Int.mul_le_mul_of_nonneg_left (show F0 - m ≤ aZ (F0 - m) by omega) hX
    have c2 := Int.mul_le_mul_of_nonneg_left (show F2 - m ≤ aZ (F2 - m) by omega) hY
    have e : (p2 - p1) * (F0 - m) + (p1 - p0) * (F2 - m) = ((p2 - p1) * F0 + (p1 - p0) * F2) - (p2 - p0) * m := by grind
    have e2 : (p2 - p0) * (F1 - m - 2) = (p2 - p0) * (F1 - 1) - (p2 - p0) * m - (p2 - p0) := by grind
    omega
  · rw [aZ_n (by omega)]
    have c0 := Int.mul_le_mul_of_nonneg_left (show -(F0 - m) ≤ aZ (F0 - m) by omega) hX
    have c2 := Int.mul_le_mul_of_nonneg_left (show -(F2 - m) ≤ aZ (F2 - m) by omega) hY
    have e : (p2 - p1) * -(F0 - m) + (p1 - p0) * -(F2 - m) = (p2 - p0) * m - ((p2 - p1) * F0 + (p1 - p0) * F2) := by grind
    have e2 : (p2 - p0) * (-(F1 - m) - 2) = (p2 - p0) * m - (p2 - p0) * (F1 + 1) - (p2 - p0) := by grind
    omega
theorem cvx_sum {me ab bl : Int → Int} {s w p0 p1 p2 : Int} (hb : ∀ j, 1 ≤ bl j ∧ bl j ≤ 999 ∧ ab j ≤ 4 * bl j) (h01 : p0 ≤ p1) (h12 : p1 ≤ p2) : ∀ n : Nat, (p2 - p0) * (sN (mt1 me ab bl s p1 w) 0 n - 2 * n) ≤ (p2 - p1) * sN (mt1 me ab bl s p0 w) 0 n + (p1 - p0) * sN (mt1 me ab bl s p2 w) 0 n
  | 0 => by simp [sN]
  | n + 1 => by
    have ih := cvx_sum (me := me) (s := s) (w := w) hb h01 h12 n
    have key : (p2 - p0) * (mt1 me ab bl s p1 w (0 + n) - 2) ≤ (p2 - p1) * mt1 me ab bl s p0 w (0 + n) + (p1 - p0) * mt1 me ab bl s p2 w (0 + n) := by
      generalize (0 : Int) + n = k
      unfold mt1
      by_cases q : k = w ∨ me k = -100009
      · rw [if_pos q, if_pos q, if_pos q, Int.mul_zero, Int.mul_zero]
        have := Int.mul_le_mul_of_nonneg_left (show (0 : Int) - 2 ≤ 0 by omega) (show 0 ≤ p2 - p0 by omega)
        omega
      · rw [if_neg q, if_neg q, if_neg q]
        have e : ∀ x, gl ab bl s x k = x * ((if k < 12 then 1 else 2) * ab (12 * s + k % 12)) / bl (12 * s + k % 12) := fun x => by unfold gl; rw [Int.mul_assoc]
        rw [e, e, e]
        exact cvx_term (by have := hb (12 * s + k % 12); omega) h01 h12
    show (p2 - p0) * (sN (mt1 me ab bl s p1 w) 0 n + mt1 me ab bl s p1 w (0 + n) - 2 * ((n + 1 : Nat) : Int)) ≤ (p2 - p1) * (sN (mt1 me ab bl s p0 w) 0 n + mt1 me ab bl s p0 w (0 + n)) + (p1 - p0) * (sN (mt1 me ab bl s p2 w) 0 n + mt1 me ab bl s p2 w (0 + n))
    have e1 : (p2 - p0) * (sN (mt1 me ab bl s p1 w) 0 n + mt1 me ab bl s p1 w (0 + n) - 2 * ((n + 1 : Nat) : Int)) = (p2 - p0) * (sN (mt1 me ab bl s p1 w) 0 n - 2 * n) + (p2 - p0) * (mt1 me ab bl s p1 w (0 + n) - 2) := by
      rw [← Int.mul_add]
      congr 1
      omega
    rw [e1, Int.mul_add, Int.mul_add]
    omega
theorem mis_sN {nK : Int} {me ab bl : Int → Int} {s p w : Int} : mis nK me ab bl s p w = sN (mt1 me ab bl s p w) 0 (nK - 0).toNat := rfl
theorem cvx_far {n : Nat} {m0 m1 m2 X Y : Int} (hn : (n : Int) ≤ 24) (hX : 0 < X) (hY : 0 ≤ Y) (h : (X + Y) * (m1 - 2 * n) ≤ Y * m0 + X * m2) (hc : m0 + 48 < m1) : m0 < m2 := by
  rcases (show m0 < m2 ∨ m2 ≤ m0 by omega) with q | q
  · exact q
  · exfalso
    have c1 := Int.mul_le_mul_of_nonneg_left (show m0 + 1 ≤ m1 - 2 * n by omega) (show 0 ≤ X + Y by omega)
    have c2 := Int.mul_le_mul_of_nonneg_left q (show 0 ≤ X by omega)
    have e : (X + Y) * (m0 + 1) = X * m0 + Y * m0 + (X + Y) := by grind
    omega
/-- nothing farther out is as good -/
theorem mis_up {nK : Int} {me ab bl : Int → Int} {s w p0 p1 p2 : Int} (hn : 0 ≤ nK ∧ nK ≤ 24) (hb : ∀ j, 1 ≤ bl j ∧ bl j ≤ 999 ∧ ab j ≤ 4 * bl j) (h01 : p0 < p1) (h12 : p1 ≤ p2) (hc : mis nK me ab bl s p0 w + 48 < mis nK me ab bl s p1 w) : mis nK me ab bl s p0 w < mis nK me ab bl s p2 w := by
  have k := cvx_sum (me := me) (s := s) (w := w) hb (Int.le_of_lt h01) h12 (nK - 0).toNat
  rw [← mis_sN, ← mis_sN, ← mis_sN] at k
  exact cvx_far (n := (nK - 0).toNat) (X := p1 - p0) (Y := p2 - p1) (by omega) (by omega) (by omega) (by rw [show p1 - p0 + (p2 - p1) = p2 - p0 by omega]; exact k) hc
theorem mis_dn {nK : Int} {me ab bl : Int → Int} {s w p0 p1 p2 : Int} (hn : 0 ≤ nK ∧ nK ≤ 24) (hb : ∀ j, 1 ≤ bl j ∧ bl j ≤ 999 ∧ ab j ≤ 4 * bl j) (h01 : p1 < p0) (h12 : p2 ≤ p1) (hc : mis nK me ab bl s p0 w + 48 < mis nK me ab bl s p1 w) : mis nK me ab bl s p0 w < mis nK me ab bl s p2 w := by
  have k := cvx_sum (me := me) (s := s) (w := w) hb h12 (Int.le_of_lt h01) (nK - 0).toNat
  rw [← mis_sN, ← mis_sN, ← mis_sN] at k
  exact cvx_far (n := (nK - 0).toNat) (X := p0 - p1) (Y := p1 - p2) (by omega) (by omega) (by omega) (by rw [show p0 - p1 + (p1 - p2) = p0 - p2 by omega]; omega) hc
/-! the walk -/
abbrev Gi (M : Int → Int) : Int → Int := fun i => M (1000 + 20 * i)
def upI (M : Int → Int) (i0 pt bp bs : Int) : Prop := pt % 20 = 0 ∧ bp % 20 = 0 ∧ 1000 ≤ bp ∧ bp < pt ∧ bs = M bp ∧ isAM (Gi M) i0 ((pt - 1000) / 20) ((bp - 1000) / 20)
def jnI (M : Int → Int) (i0 bp bs : Int) : Prop := bp % 20 = 0 ∧ 1000 ≤ bp ∧ bp ≤ 200000 ∧ bs = M bp ∧ isAM (Gi M) i0 9951 ((bp - 1000) / 20)
def dnI (M : Int → Int) (pt bp bs : Int) : Prop := pt % 20 = 0 ∧ pt < bp ∧ jnI M ((pt + 20 - 1000) / 20) bp bs
theorem Gi_at {M : Int → Int} {p : Int} (h : p % 20 = 0) : Gi M ((p - 1000) / 20) = M p := by
  show M (1000 + 20 * ((p - 1000) / 20)) = M p
  rw [show 1000 + 20 * ((p - 1000) / 20) = p by omega]
theorem up_0 {M : Int → Int} {p : Int} (h : p % 20 = 0) (h2 : 1000 ≤ p) : upI M ((p - 1000) / 20) (p + 20) p (M p) := by
  refine ⟨by omega, h, h2, by omega, rfl, ?_⟩
  rw [show (p + 20 - 1000) / 20 = (p - 1000) / 20 + 1 by omega]
  exact isAM_1
theorem up_lt {M : Int → Int} {i0 pt bp bs : Int} (h : upI M i0 pt bp bs) (hc : M pt < bs) : upI M i0 (pt + 20) pt (M pt) := by
  obtain ⟨h1, h2, h3, h4, h5, h6⟩ := h
  refine ⟨by omega, h1, by omega, by omega, rfl, ?_⟩
  rw [show (pt + 20 - 1000) / 20 = (pt - 1000) / 20 + 1 by omega]
  exact isAM_lt h6 (by rw [Gi_at h1, Gi_at h2, ← h5]; exact hc)
theorem up_ge {M : Int → Int} {i0 pt bp bs : Int} (h : upI M i0 pt bp bs) (hc : bs ≤ M pt) : upI M i0 (pt + 20) bp bs := by
  obtain ⟨h1, h2, h3, h4, h5, h6⟩ := h
  refine ⟨by omega, h2, h3, by omega, h5, ?_⟩
  rw [show (pt + 20 - 1000) / 20 = (pt - 1000) / 20 + 1 by omega]
  exact isAM_ge h6 (by rw [Gi_at h1, Gi_at h2, ← h5]; exact hc)
theorem up_end {M : Int → Int} {i0 pt bp bs : Int} (h : upI M i0 pt bp bs) (hp : 200000 < pt) (hp2 : pt ≤ 200020) : jnI M i0 bp bs := by
  obtain ⟨h1, h2, h3, h4, h5, h6⟩ := h
  refine ⟨h2, h3, by omega, h5, ?_⟩
  rw [show (pt - 1000) / 20 = 9951 by omega] at h6
  exact h6
theorem up_brk {M : Int → Int} {i0 pt bp bs : Int} (h : upI M i0 pt bp bs) (hp : pt ≤ 200000) (hf : ∀ p2, pt ≤ p2 → M bp < M p2) : jnI M i0 bp bs := by
  obtain ⟨h1, h2, h3, h4, h5, h6⟩ := h
  refine ⟨h2, h3, by omega, h5, isAM_up h6 (by omega) (fun v g1 g2 => ?_)⟩
  have := hf (1000 + 20 * v) (by omega)
  rw [Gi_at h2]
  show M bp ≤ M (1000 + 20 * v)
  omega
theorem dn_0 {M : Int → Int} {p bp bs : Int} (h : jnI M ((p - 1000) / 20) bp bs) (hp : p % 20 = 0) : dnI M (p - 20) bp bs := by
  have e := h.2.2.2.2.1
  have e2 := h.1
  refine ⟨by omega, by omega, ?_⟩
  rw [show p - 20 + 20 - 1000 = p - 1000 by omega]
  exact h
theorem dn_le {M : Int → Int} {pt bp bs : Int} (h : dnI M pt bp bs) (hp : 1000 ≤ pt) (hc : M pt ≤ bs) : dnI M (pt + (-20)) pt (M pt) := by
  obtain ⟨h1, h0, h2, h3, h4, h5, h6⟩ := h
  refine ⟨by omega, by omega, h1, by omega, by omega, rfl, ?_⟩
  rw [show (pt + -20 + 20 - 1000) / 20 = (pt - 1000) / 20 by omega]
  rw [show (pt + 20 - 1000) / 20 = (pt - 1000) / 20 + 1 by omega] at h6
  exact isAM_dnle h6 (by rw [Gi_at h1, Gi_at h2, ← h5]; exact hc)
theorem dn_gt {M : Int → Int} {pt bp bs : Int} (h : dnI M pt bp bs) (hc : bs < M pt) : dnI M (pt + (-20)) bp bs := by
  obtain ⟨h1, h0, h2, h3, h4, h5, h6⟩ := h
  refine ⟨by omega, by omega, h2, by omega, by omega, h5, ?_⟩
  rw [show (pt + -20 + 20 - 1000) / 20 = (pt - 1000) / 20 by omega]
  rw [show (pt + 20 - 1000) / 20 = (pt - 1000) / 20 + 1 by omega] at h6
  exact isAM_dngt h6 (by rw [Gi_at h1, Gi_at h2, ← h5]; exact hc)
theorem dn_end {M : Int → Int} {pt bp bs : Int} (h : dnI M pt bp bs) (hp : pt < 1000) (hp2 : 980 ≤ pt) : jnI M 0 bp bs := by
  have e := h.1
  have := h.2.2
  rw [show (pt + 20 - 1000) / 20 = 0 by omega] at this
  exact this
theorem dn_brk {M : Int → Int} {pt bp bs : Int} (h : dnI M pt bp bs) (hp : 1000 ≤ pt) (hf : ∀ p2, p2 ≤ pt → M bp < M p2) : jnI M 0 bp bs := by
  obtain ⟨h1, h0, h2, h3, h4, h5, h6⟩ := h
  refine ⟨h2, h3, h4, h5, isAM_dn h6 (by omega) (fun v g1 g2 => ?_)⟩
  have := hf (1000 + 20 * v) (by omega)
  rw [Gi_at h2]
  exact this
noncomputable def pitF (nK : Int) (me ab bl : Int → Int) (s w : Int) : Int := 1000 + 20 * am (fun i => mis nK me ab bl s (1000 + 20 * i) w) 0 9951
noncomputable def misF (nK : Int) (me ab bl : Int → Int) (s w : Int) : Int := mis nK me ab bl s (pitF nK me ab bl s w) w
theorem jn_fin {nK : Int} {me ab bl : Int → Int} {s w bp bs : Int} (h : jnI (fun p => mis nK me ab bl s p w) 0 bp bs) : bp = pitF nK me ab bl s w ∧ bs = misF nK me ab bl s w := by
  obtain ⟨h1, h2, h3, h4, h5⟩ := h
  have e : pitF nK me ab bl s w = bp := by
    unfold pitF
    rw [am_eq (g := fun i => mis nK me ab bl s (1000 + 20 * i) w) h5]
    omega
  exact ⟨e.symm, by unfold misF; rw [e]; exact h4⟩
theorem pitF_b {nK : Int} {me ab bl : Int → Int} {s w : Int} : 1000 ≤ pitF nK me ab bl s w ∧ pitF nK me ab bl s w ≤ 200000 := by
  have := am_is (g := fun i => mis nK me ab bl s (1000 + 20 * i) w) (lo := 0) (hi := 9951) (by omega)
  have h1 := this.1
  have h2 := this.2.1
  unfold pitF
  omega
theorem misF_b {nK : Int} {me ab bl : Int → Int} {s w : Int} (hn : 0 ≤ nK ∧ nK ≤ 24) (hm : ∀ j, me j = -100009 ∨ (100 ≤ me j ∧ me j ≤ 400000)) (ha : ∀ j, 1 ≤ ab j ∧ ab j ≤ 999) (hb : ∀ j, 1 ≤ bl j ∧ bl j ≤ 999 ∧ ab j ≤ 4 * bl j) : 0 ≤ misF nK me ab bl s w ∧ misF nK me ab bl s w ≤ 38400000 := by
  have := pitF_b (nK := nK) (me := me) (ab := ab) (bl := bl) (s := s) (w := w)
  unfold misF
  exact mis_b hn hm ha hb (by omega) (by omega)
theorem pitF_neg {nK : Int} {me ab bl : Int → Int} {s w : Int} (h : w < 0) : pitF nK me ab bl s w = pitF nK me ab bl s (-1) := by
  unfold pitF
  rw [am_cong (fun v _ _ => mis_neg h) (by omega)]
theorem misF_neg {nK : Int} {me ab bl : Int → Int} {s w : Int} (h : w < 0) : misF nK me ab bl s w = misF nK me ab bl s (-1) := by
  unfold misF
  rw [pitF_neg h, mis_neg h]
def lkN (G : Int → Int) : Nat → Int → Int → Int
  | 0, lo, _ => lo
  | n + 1, lo, hi => if lo < hi then (if G ((lo + hi) / 2) ≤ G ((lo + hi) / 2 + 1) then lkN G n lo ((lo + hi) / 2) else lkN G n ((lo + hi) / 2 + 1) hi) else lo
theorem lkN_b (G : Int → Int) : ∀ (n : Nat) (lo hi : Int), 0 ≤ lo → lo ≤ hi → hi ≤ 9950 → 0 ≤ lkN G n lo hi ∧ lkN G n lo hi ≤ 9950
  | 0, lo, hi, h1, h2, h3 => by show 0 ≤ lo ∧ lo ≤ 9950; omega
  | n + 1, lo, hi, h1, h2, h3 => by
    show 0 ≤ (if lo < hi then (if G ((lo + hi) / 2) ≤ G ((lo + hi) / 2 + 1) then lkN G n lo ((lo + hi) / 2) else lkN G n ((lo + hi) / 2 + 1) hi) else lo) ∧ (if lo < hi then (if G ((lo + hi) / 2) ≤ G ((lo + hi) / 2 + 1) then lkN G n lo ((lo + hi) / 2) else lkN G n ((lo + hi) / 2 + 1) hi) else lo) ≤ 9950
    split
    · split
      · exact lkN_b G n _ _ h1 (by omega) (by omega)
      · exact lkN_b G n _ _ (by omega) (by omega) h3
    · omega
theorem lkN_e {G : Int → Int} {n : Nat} {lo hi : Int} (h : hi ≤ lo) : lkN G n lo hi = lo := by
  cases n with
  | zero => rfl
  | succ n =>
    show (if lo < hi then _ else lo) = lo
    rw [if_neg (by omega)]
theorem lkN_l {G : Int → Int} {n : Nat} {lo hi : Int} (h : lo < hi) (hc : G ((lo + hi) / 2) ≤ G ((lo + hi) / 2 + 1)) : lkN G (n + 1) lo hi = lkN G n lo ((lo + hi) / 2) := by
  show (if lo < hi then (if G ((lo + hi) / 2) ≤ G ((lo + hi) / 2 + 1) then lkN G n lo ((lo + hi) / 2) else lkN G n ((lo + hi) / 2 + 1) hi) else lo) = _
  rw [if_pos h, if_pos hc]
theorem lkN_r {G : Int → Int} {n : Nat} {lo hi : Int} (h : lo < hi) (hc : G ((lo + hi) / 2 + 1) < G ((lo + hi) / 2)) : lkN G (n + 1) lo hi = lkN G n ((lo + hi) / 2 + 1) hi := by
  show (if lo < hi then (if G ((lo + hi) / 2) ≤ G ((lo + hi) / 2 + 1) then lkN G n lo ((lo + hi) / 2) else lkN G n ((lo + hi) / 2 + 1) hi) else lo) = _
  rw [if_pos h, if_neg (by omega)]
/-! the key that was added -/
noncomputable def gk (nK : Int) (me ab bl : Int → Int) (s k : Int) : Int := if me k = -100009 then 1000000000 else misF nK me ab bl s k
def adI (g me : Int → Int) (k ak best none9 : Int) : Prop := (ak = none9 ∧ ∀ j, 0 ≤ j → j < k → me j = -100009) ∨ (isAM g 0 k ak ∧ me ak ≠ -100009 ∧ best = g ak)
theorem ad_0 {g me : Int → Int} {b none9 : Int} : adI g me 0 none9 b none9 := Or.inl ⟨rfl, fun j _ _ => by omega⟩
theorem ad_skip {g me : Int → Int} {k ak b none9 : Int} (h : adI g me k ak b none9) (hk : me k = -100009) (hg : g k = 1000000000) (hb : b ≤ 38400000) : adI g me (k + 1) ak b none9 := by
  rcases h with q | q
  · exact Or.inl ⟨q.1, fun j h1 h2 => by rcases (show j < k ∨ j = k by omega) with z | z; exact q.2 j h1 z; rw [z]; exact hk⟩
  · exact Or.inr ⟨isAM_ge q.1 (by rw [hg, ← q.2.2]; omega), q.2⟩
theorem ad_first {g me : Int → Int} {k ak b none9 : Int} (h : adI g me k ak b none9) (h0 : 0 ≤ k) (hn : ak = none9) (hn2 : none9 < 0) (hk : me k ≠ -100009) (hg : g k ≤ 38400000) (ha : ∀ j, me j = -100009 → g j = 1000000000) : adI g me (k + 1) k (g k) none9 := by
  rcases h with q | q
  · refine Or.inr ⟨⟨h0, by omega, fun v h1 h2 => ?_, fun v h1 h2 => by rw [show v = k by omega]; omega⟩, hk, rfl⟩
    rw [ha v (q.2 v h1 h2)]
    omega
  · exfalso
    have := q.1.1
    omega
theorem ad_lt {g me : Int → Int} {k ak b none9 : Int} (h : adI g me k ak b none9) (hn : ak ≠ none9) (hk : me k ≠ -100009) (hc : g k < b) : adI g me (k + 1) k (g k) none9 := by
  rcases h with q | q
  · exact absurd q.1 hn
  · exact Or.inr ⟨isAM_lt q.1 (by rw [← q.2.2]; exact hc), hk, rfl⟩
theorem ad_ge {g me : Int → Int} {k ak b none9 : Int} (h : adI g me k ak b none9) (hn : ak ≠ none9) (hc : b ≤ g k) : adI g me (k + 1) ak b none9 := by
  rcases h with q | q
  · exact absurd q.1 hn
  · exact Or.inr ⟨isAM_ge q.1 (by rw [← q.2.2]; exact hc), q.2⟩
theorem ad_end {g me : Int → Int} {k ak b none9 : Int} (h : adI g me k ak b none9) (hm : ∃ j, 0 ≤ j ∧ j < k ∧ me j ≠ -100009) : ak = am g 0 k ∧ b = g (am g 0 k) := by
  rcases h with q | q
  · obtain ⟨j, h1, h2, h3⟩ := hm
    exact absurd (q.2 j h1 h2) h3
  · have e := am_eq q.1
    exact ⟨e.symm, by rw [e]; exact q.2.2⟩
def cm (nK : Int) (me : Int → Int) : Int := sZ (fun k => if me k = -100009 then 0 else 1) 0 nK
theorem cm_b {nK : Int} {me : Int → Int} (h : 0 ≤ nK) : 0 ≤ cm nK me ∧ cm nK me ≤ nK := by
  have := sZ_c (f := fun k => if me k = -100009 then 0 else 1) (lo := 0) (hi := nK) h (fun j => by (try dsimp only); split <;> omega)
  unfold cm
  omega
theorem cm_ex {nK : Int} {me : Int → Int} (h : 1 ≤ cm nK me) : ∃ j, 0 ≤ j ∧ j < nK ∧ me j ≠ -100009 := by
  apply Classical.byContradiction
  intro q
  have : cm nK me = 0 := sZ_zero (fun j h1 h2 => if_pos (Classical.byContradiction fun z => q ⟨j, h1, h2, z⟩))
  omega
