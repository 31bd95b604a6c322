/-! both sides: what they share, and what a call does to it -/
def sT (q : Nat → Nat) (cy : ClassId) (nK : Int) (st : Int → Int) (le : Int → Int) (be : Int → Int) (te : Int → Int) (ab : Int → Int) (bl : Int → Int) (ka : Int → Int) (bg : Int → Int) (ln : Int → Int) (ns : Int → Int) (me : Int → Int) (sc : Int) (pi : Int) (re : Int) (bk : Int) (w : va_W) : Prop := ∃ (pa : Int → Int) (lz : Int → Int) (go : Int → Int) (ss : Int) (sm : Int) (pf : Int) (mf : Int), w = wT q cy nK st le be te ab bl ka bg ln ns me sc pi re bk pa lz go ss sm pf mf
def sM (q : Nat → Nat) (cy : ClassId) (nK : Int) (st : Int → Int) (le : Int → Int) (be : Int → Int) (te : Int → Int) (ab : Int → Int) (bl : Int → Int) (ka : Int → Int) (bg : Int → Int) (ln : Int → Int) (ns : Int → Int) (me : Int → Int) (sc : Int) (pi : Int) (re : Int) (bk : Int) (w : va_W) : Prop := ∃ (th : Int) (co : Int → Int) (bs : Int → Int) (gr : Int → Int) (lo : Int), w = wM q cy nK st le be te ab bl ka bg ln ns me sc pi re bk th co bs gr lo
theorem sT_i {q : Nat → Nat} {cy : ClassId} {nK sc pi re bk : Int} {st le be te ab bl ka bg ln ns me : Int → Int} {pa lz go : Int → Int} {ss sm pf mf : Int} : sT q cy nK st le be te ab bl ka bg ln ns me sc pi re bk (wT q cy nK st le be te ab bl ka bg ln ns me sc pi re bk pa lz go ss sm pf mf) := ⟨_, _, _, _, _, _, _, rfl⟩
theorem sM_i {q : Nat → Nat} {cy : ClassId} {nK sc pi re bk : Int} {st le be te ab bl ka bg ln ns me : Int → Int} {co bs gr : Int → Int} {th lo : Int} : sM q cy nK st le be te ab bl ka bg ln ns me sc pi re bk (wM q cy nK st le be te ab bl ka bg ln ns me sc pi re bk th co bs gr lo) := ⟨_, _, _, _, _, rfl⟩
def Sim (qT qM : Nat → Nat) (cy : ClassId) (wt wm : va_W) : Prop := ∃ (nK : Int) (st : Int → Int) (le : Int → Int) (be : Int → Int) (te : Int → Int) (ab : Int → Int) (bl : Int → Int) (ka : Int → Int) (bg : Int → Int) (ln : Int → Int) (ns : Int → Int) (me : Int → Int) (sc : Int) (pi : Int) (re : Int) (bk : Int) (pa : Int → Int) (lz : Int → Int) (go : Int → Int) (ss : Int) (sm : Int) (pf : Int) (mf : Int) (th : Int) (co : Int → Int) (bs : Int → Int) (gr : Int → Int) (lo : Int), okS nK st le be te ab bl ka bg ln ns me sc pi re bk ∧ wt = wT qT cy nK st le be te ab bl ka bg ln ns me sc pi re bk pa lz go ss sm pf mf ∧ wm = wM qM cy nK st le be te ab bl ka bg ln ns me sc pi re bk th co bs gr lo
theorem Sim.of {qT qM : Nat → Nat} {cy : ClassId} {nK sc pi re bk : Int} {st le be te ab bl ka bg ln ns me : Int → Int} {w1 w2 : va_W} (I : okS nK st le be te ab bl ka bg ln ns me sc pi re bk) (h1 : sT qT cy nK st le be te ab bl ka bg ln ns me sc pi re bk w1) (h2 : sM qM cy nK st le be te ab bl ka bg ln ns me sc pi re bk w2) : Sim qT qM cy w1 w2 := by
  obtain ⟨pa, lz, go, ss, sm, pf, mf, h1⟩ := h1
  obtain ⟨th, co, bs, gr, lo, h2⟩ := h2
  exact ⟨nK, st, le, be, te, ab, bl, ka, bg, ln, ns, me, sc, pi, re, bk, pa, lz, go, ss, sm, pf, mf, th, co, bs, gr, lo, I, h1, h2⟩
theorem Sim.t {qT qM : Nat → Nat} {cy : ClassId} {w1 w2 : va_W} (h : Sim qT qM cy w1 w2) : ∃ fs, w1[0]? = some (qT 0, .inr (5, fs)) := by
  obtain ⟨nK, st, le, be, te, ab, bl, ka, bg, ln, ns, me, sc, pi, re, bk, pa, lz, go, ss, sm, pf, mf, th, co, bs, gr, lo, I, rfl, rfl⟩ := h
  exact ⟨_, rfl⟩
theorem Sim.m {qT qM : Nat → Nat} {cy : ClassId} {w1 w2 : va_W} (h : Sim qT qM cy w1 w2) : ∃ fs, w2[0]? = some (qM 0, .inr (6, fs)) := by
  obtain ⟨nK, st, le, be, te, ab, bl, ka, bg, ln, ns, me, sc, pi, re, bk, pa, lz, go, ss, sm, pf, mf, th, co, bs, gr, lo, I, rfl, rfl⟩ := h
  exact ⟨_, rfl⟩
def rmS (r : Room) : Prop := r.cells = 0 ∧ r.slots = 0 ∧ r.frames ≤ 8 ∧ r.locals ≤ 300
def PR (l : Launch) (D : va_G) (cy : ClassId) (yT : MethodName) (wsT : List Cond) (yM : MethodName) (wsM : List Cond) (As : List Value) (qT qM : Nat → Nat) : Prop := ∀ wt wm, Sim qT qM cy wt wm → ∃ (r : Int) (Ψ Φ : va_W → Prop) (rT rM : Room), rmS rT ∧ rmS rM ∧ MR l D cy yT wsT rT (.ref (qT 0) :: As) wt (fun r8 w8 => r8 = r ∧ Ψ w8) ∧ MR l D cy yM wsM rM (.ref (qM 0) :: As) wm (fun r8 w8 => r8 = r ∧ Φ w8) ∧ ∀ w1 w2, Ψ w1 → Φ w2 → Sim qT qM cy w1 w2
theorem pr_mk {l : Launch} {D : va_G} {cy : ClassId} {yT : MethodName} {wsT : List Cond} {yM : MethodName} {wsM : List Cond} {As : List Value} {qT qM : Nat → Nat} {wt wm : va_W} {nK sc pi re bk : Int} {st le be te ab bl ka bg ln ns me : Int → Int} {rT rM : Room} {r : Int} (I : okS nK st le be te ab bl ka bg ln ns me sc pi re bk) (hT : MR l D cy yT wsT rT (.ref (qT 0) :: As) wt (fun r8 w8 => r8 = r ∧ sT qT cy nK st le be te ab bl ka bg ln ns me sc pi re bk w8)) (hM : MR l D cy yM wsM rM (.ref (qM 0) :: As) wm (fun r8 w8 => r8 = r ∧ sM qM cy nK st le be te ab bl ka bg ln ns me sc pi re bk w8)) (h1 : rmS rT) (h2 : rmS rM) : ∃ (r : Int) (Ψ Φ : va_W → Prop) (rT rM : Room), rmS rT ∧ rmS rM ∧ MR l D cy yT wsT rT (.ref (qT 0) :: As) wt (fun r8 w8 => r8 = r ∧ Ψ w8) ∧ MR l D cy yM wsM rM (.ref (qM 0) :: As) wm (fun r8 w8 => r8 = r ∧ Φ w8) ∧ ∀ w1 w2, Ψ w1 → Φ w2 → Sim qT qM cy w1 w2 := ⟨r, _, _, rT, rM, h1, h2, hT, hM, fun _ _ a b => Sim.of I a b⟩
set_option maxHeartbeats 1000000 in
theorem pr_keys {l : Launch} {D : va_G} {cy : ClassId} {qT qM : Nat → Nat} (n9 : Int) (h : -2147483648 ≤ n9 ∧ n9 ≤ 2147483647) : PR l D cy yX5_keys wsX5_keys yX6_keys wsX6_keys [.int (iI n9)] qT qM := by
  intro wt wm hs
  obtain ⟨nK, st, le, be, te, ab, bl, ka, bg, ln, ns, me, sc, pi, re, bk, pa, lz, go, ss, sm, pf, mf, th, co, bs, gr, lo, I, rfl, rfl⟩ := hs
  by_cases hok : 1 ≤ n9 ∧ n9 ≤ 24
  · exact pr_mk (okS_keys I hok) (MI.toR (c_X5_keys_ok I n9 h hok) ⟨rfl, sT_i⟩) (MI.toR (c_X6_keys_ok I n9 h hok) ⟨rfl, sM_i⟩) ⟨rfl, rfl, by decide, by decide⟩ ⟨rfl, rfl, by decide, by decide⟩
  · have hno := hok
    exact pr_mk (I) (MI.toR (c_X5_keys_no I n9 h hno) ⟨rfl, sT_i⟩) (MI.toR (c_X6_keys_no I n9 h hno) ⟨rfl, sM_i⟩) ⟨rfl, rfl, by decide, by decide⟩ ⟨rfl, rfl, by decide, by decide⟩
set_option maxHeartbeats 1000000 in
theorem pr_strike {l : Launch} {D : va_G} {cy : ClassId} {qT qM : Nat → Nat} (k : Int) (s9 : Int) (l9 : Int) (h : -2147483648 ≤ k ∧ k ≤ 2147483647 ∧ -2147483648 ≤ s9 ∧ s9 ≤ 2147483647 ∧ -2147483648 ≤ l9 ∧ l9 ≤ 2147483647) : PR l D cy yX5_strike wsX5_strike yX6_strike wsX6_strike [.int (iI k), .int (iI s9), .int (iI l9)] qT qM := by
  intro wt wm hs
  obtain ⟨nK, st, le, be, te, ab, bl, ka, bg, ln, ns, me, sc, pi, re, bk, pa, lz, go, ss, sm, pf, mf, th, co, bs, gr, lo, I, rfl, rfl⟩ := hs
  by_cases hok : (0 ≤ k ∧ k < nK) ∧ (0 ≤ s9 ∧ s9 ≤ 23) ∧ (500 ≤ l9 ∧ l9 ≤ 9999)
  · exact pr_mk (okS_strike I hok.2.1 hok.2.2) (MI.toR (c_X5_strike_ok I k s9 l9 h hok) ⟨rfl, sT_i⟩) (MI.toR (c_X6_strike_ok I k s9 l9 h hok) ⟨rfl, sM_i⟩) ⟨rfl, rfl, by decide, by decide⟩ ⟨rfl, rfl, by decide, by decide⟩
  · have hno := hok
    exact pr_mk (I) (MI.toR (c_X5_strike_no I k s9 l9 h hno) ⟨rfl, sT_i⟩) (MI.toR (c_X6_strike_no I k s9 l9 h hno) ⟨rfl, sM_i⟩) ⟨rfl, rfl, by decide, by decide⟩ ⟨rfl, rfl, by decide, by decide⟩
set_option maxHeartbeats 1000000 in
theorem pr_tension {l : Launch} {D : va_G} {cy : ClassId} {qT qM : Nat → Nat} (s9 : Int) (v : Int) (h : -2147483648 ≤ s9 ∧ s9 ≤ 2147483647 ∧ -2147483648 ≤ v ∧ v ≤ 2147483647) : PR l D cy yX5_tension wsX5_tension yX6_tension wsX6_tension [.int (iI s9), .int (iI v)] qT qM := by
  intro wt wm hs
  obtain ⟨nK, st, le, be, te, ab, bl, ka, bg, ln, ns, me, sc, pi, re, bk, pa, lz, go, ss, sm, pf, mf, th, co, bs, gr, lo, I, rfl, rfl⟩ := hs
  by_cases hok : (0 ≤ s9 ∧ s9 ≤ 23) ∧ (100 ≤ v ∧ v ≤ 20000)
  · exact pr_mk (okS_tension I hok.2) (MI.toR (c_X5_tension_ok I s9 v h hok) ⟨rfl, sT_i⟩) (MI.toR (c_X6_tension_ok I s9 v h hok) ⟨rfl, sM_i⟩) ⟨rfl, rfl, by decide, by decide⟩ ⟨rfl, rfl, by decide, by decide⟩
  · have hno := hok
    exact pr_mk (I) (MI.toR (c_X5_tension_no I s9 v h hno) ⟨rfl, sT_i⟩) (MI.toR (c_X6_tension_no I s9 v h hno) ⟨rfl, sM_i⟩) ⟨rfl, rfl, by decide, by decide⟩ ⟨rfl, rfl, by decide, by decide⟩
set_option maxHeartbeats 1000000 in
theorem pr_bend {l : Launch} {D : va_G} {cy : ClassId} {qT qM : Nat → Nat} (k : Int) (v : Int) (h : -2147483648 ≤ k ∧ k ≤ 2147483647 ∧ -2147483648 ≤ v ∧ v ≤ 2147483647) : PR l D cy yX5_bend wsX5_bend yX6_bend wsX6_bend [.int (iI k), .int (iI v)] qT qM := by
  intro wt wm hs
  obtain ⟨nK, st, le, be, te, ab, bl, ka, bg, ln, ns, me, sc, pi, re, bk, pa, lz, go, ss, sm, pf, mf, th, co, bs, gr, lo, I, rfl, rfl⟩ := hs
  by_cases hok : (0 ≤ k ∧ k < nK) ∧ (-40 ≤ v ∧ v ≤ 40)
  · exact pr_mk (okS_be1 I hok.2) (MI.toR (c_X5_bend_ok I k v h hok) ⟨rfl, sT_i⟩) (MI.toR (c_X6_bend_ok I k v h hok) ⟨rfl, sM_i⟩) ⟨rfl, rfl, by decide, by decide⟩ ⟨rfl, rfl, by decide, by decide⟩
  · have hno := hok
    exact pr_mk (I) (MI.toR (c_X5_bend_no I k v h hno) ⟨rfl, sT_i⟩) (MI.toR (c_X6_bend_no I k v h hno) ⟨rfl, sM_i⟩) ⟨rfl, rfl, by decide, by decide⟩ ⟨rfl, rfl, by decide, by decide⟩
set_option maxHeartbeats 1000000 in
theorem pr_about {l : Launch} {D : va_G} {cy : ClassId} {qT qM : Nat → Nat} (k : Int) (w9 : Int) (h : -2147483648 ≤ k ∧ k ≤ 2147483647 ∧ -2147483648 ≤ w9 ∧ w9 ≤ 2147483647) : PR l D cy yX5_about wsX5_about yX6_about wsX6_about [.int (iI k), .int (iI w9)] qT qM := by
  intro wt wm hs
  obtain ⟨nK, st, le, be, te, ab, bl, ka, bg, ln, ns, me, sc, pi, re, bk, pa, lz, go, ss, sm, pf, mf, th, co, bs, gr, lo, I, rfl, rfl⟩ := hs
  exact pr_mk (I) (MI.toR (c_X5_about I k w9 h) ⟨rfl, sT_i⟩) (MI.toR (c_X6_about I k w9 h) ⟨rfl, sM_i⟩) ⟨rfl, rfl, by decide, by decide⟩ ⟨rfl, rfl, by decide, by decide⟩
set_option maxHeartbeats 1000000 in
theorem pr_pressed {l : Launch} {D : va_G} {cy : ClassId} {qT qM : Nat → Nat} (k : Int) (p9 : Int) (h : -2147483648 ≤ k ∧ k ≤ 2147483647 ∧ -2147483648 ≤ p9 ∧ p9 ≤ 2147483647) : PR l D cy yX5_pressed wsX5_pressed yX6_pressed wsX6_pressed [.int (iI k), .int (iI p9)] qT qM := by
  intro wt wm hs
  obtain ⟨nK, st, le, be, te, ab, bl, ka, bg, ln, ns, me, sc, pi, re, bk, pa, lz, go, ss, sm, pf, mf, th, co, bs, gr, lo, I, rfl, rfl⟩ := hs
  exact pr_mk (I) (MI.toR (c_X5_pressed I k p9 h) ⟨rfl, sT_i⟩) (MI.toR (c_X6_pressed I k p9 h) ⟨rfl, sM_i⟩) ⟨rfl, rfl, by decide, by decide⟩ ⟨rfl, rfl, by decide, by decide⟩
set_option maxHeartbeats 1000000 in
theorem pr_sharers {l : Launch} {D : va_G} {cy : ClassId} {qT qM : Nat → Nat} (s9 : Int) (h : -2147483648 ≤ s9 ∧ s9 ≤ 2147483647) : PR l D cy yX5_sharers wsX5_sharers yX6_sharers wsX6_sharers [.int (iI s9)] qT qM := by
  intro wt wm hs
  obtain ⟨nK, st, le, be, te, ab, bl, ka, bg, ln, ns, me, sc, pi, re, bk, pa, lz, go, ss, sm, pf, mf, th, co, bs, gr, lo, I, rfl, rfl⟩ := hs
  exact pr_mk (I) (MI.toR (c_X5_sharers I s9 h) ⟨rfl, sT_i⟩) (MI.toR (c_X6_sharers I s9 h) ⟨rfl, sM_i⟩) ⟨rfl, rfl, by decide, by decide⟩ ⟨rfl, rfl, by decide, by decide⟩
set_option maxHeartbeats 1000000 in
theorem pr_order {l : Launch} {D : va_G} {cy : ClassId} {qT qM : Nat → Nat}  : PR l D cy yX5_order wsX5_order yX6_order wsX6_order [] qT qM := by
  intro wt wm hs
  obtain ⟨nK, st, le, be, te, ab, bl, ka, bg, ln, ns, me, sc, pi, re, bk, pa, lz, go, ss, sm, pf, mf, th, co, bs, gr, lo, I, rfl, rfl⟩ := hs
  exact pr_mk (I) (MI.toR (c_X5_order I) ⟨rfl, sT_i⟩) (MI.toR (c_X6_order I) ⟨rfl, sM_i⟩) ⟨rfl, rfl, by decide, by decide⟩ ⟨rfl, rfl, by decide, by decide⟩
set_option maxHeartbeats 1000000 in
theorem pr_step {l : Launch} {D : va_G} {cy : ClassId} {qT qM : Nat → Nat} (s9 : Int) (t9 : Int) (a9 : Int) (b9 : Int) (h : -2147483648 ≤ s9 ∧ s9 ≤ 2147483647 ∧ -2147483648 ≤ t9 ∧ t9 ≤ 2147483647 ∧ -2147483648 ≤ a9 ∧ a9 ≤ 2147483647 ∧ -2147483648 ≤ b9 ∧ b9 ≤ 2147483647) : PR l D cy yX5_step wsX5_step yX6_step wsX6_step [.int (iI s9), .int (iI t9), .int (iI a9), .int (iI b9)] qT qM := by
  intro wt wm hs
  obtain ⟨nK, st, le, be, te, ab, bl, ka, bg, ln, ns, me, sc, pi, re, bk, pa, lz, go, ss, sm, pf, mf, th, co, bs, gr, lo, I, rfl, rfl⟩ := hs
  by_cases hok : ((0 ≤ s9 ∧ s9 ≤ 4) ∧ (0 ≤ t9 ∧ t9 ≤ 11)) ∧ (1 ≤ a9 ∧ a9 ≤ 999) ∧ (1 ≤ b9 ∧ b9 ≤ 999) ∧ a9 ≤ 4 * b9
  · exact pr_mk (okS_step I hok.2.1 hok.2.2.1 hok.2.2.2) (MI.toR (c_X5_step_ok I s9 t9 a9 b9 h hok) ⟨rfl, sT_i⟩) (MI.toR (c_X6_step_ok I s9 t9 a9 b9 h hok) ⟨rfl, sM_i⟩) ⟨rfl, rfl, by decide, by decide⟩ ⟨rfl, rfl, by decide, by decide⟩
  · have hno := hok
    exact pr_mk (I) (MI.toR (c_X5_step_no I s9 t9 a9 b9 h hno) ⟨rfl, sT_i⟩) (MI.toR (c_X6_step_no I s9 t9 a9 b9 h hno) ⟨rfl, sM_i⟩) ⟨rfl, rfl, by decide, by decide⟩ ⟨rfl, rfl, by decide, by decide⟩
set_option maxHeartbeats 1000000 in
theorem pr_share {l : Launch} {D : va_G} {cy : ClassId} {qT qM : Nat → Nat} (s9 : Int) (t9 : Int) (up : Bool) (h : -2147483648 ≤ s9 ∧ s9 ≤ 2147483647 ∧ -2147483648 ≤ t9 ∧ t9 ≤ 2147483647) : PR l D cy yX5_share wsX5_share yX6_share wsX6_share [.int (iI s9), .int (iI t9), .int (iI (bZ up))] qT qM := by
  intro wt wm hs
  obtain ⟨nK, st, le, be, te, ab, bl, ka, bg, ln, ns, me, sc, pi, re, bk, pa, lz, go, ss, sm, pf, mf, th, co, bs, gr, lo, I, rfl, rfl⟩ := hs
  exact pr_mk (I) (MI.toR (c_X5_share I s9 t9 up h) ⟨rfl, sT_i⟩) (MI.toR (c_X6_share I s9 t9 up h) ⟨rfl, sM_i⟩) ⟨rfl, rfl, by decide, by decide⟩ ⟨rfl, rfl, by decide, by decide⟩
set_option maxHeartbeats 1000000 in
theorem pr_use {l : Launch} {D : va_G} {cy : ClassId} {qT qM : Nat → Nat} (s9 : Int) (h : -2147483648 ≤ s9 ∧ s9 ≤ 2147483647) : PR l D cy yX5_use wsX5_use yX6_use wsX6_use [.int (iI s9)] qT qM := by
  intro wt wm hs
  obtain ⟨nK, st, le, be, te, ab, bl, ka, bg, ln, ns, me, sc, pi, re, bk, pa, lz, go, ss, sm, pf, mf, th, co, bs, gr, lo, I, rfl, rfl⟩ := hs
  by_cases hok : 0 ≤ s9 ∧ s9 ≤ 4
  · exact pr_mk (okS_use I hok) (MI.toR (c_X5_use_ok I s9 h hok) ⟨rfl, sT_i⟩) (MI.toR (c_X6_use_ok I s9 h hok) ⟨rfl, sM_i⟩) ⟨rfl, rfl, by decide, by decide⟩ ⟨rfl, rfl, by decide, by decide⟩
  · have hno := hok
    exact pr_mk (I) (MI.toR (c_X5_use_no I s9 h hno) ⟨rfl, sT_i⟩) (MI.toR (c_X6_use_no I s9 h hno) ⟨rfl, sM_i⟩) ⟨rfl, rfl, by decide, by decide⟩ ⟨rfl, rfl, by decide, by decide⟩
set_option maxHeartbeats 1000000 in
theorem pr_pitch {l : Launch} {D : va_G} {cy : ClassId} {qT qM : Nat → Nat} (v : Int) (h : -2147483648 ≤ v ∧ v ≤ 2147483647) : PR l D cy yX5_pitch wsX5_pitch yX6_pitch wsX6_pitch [.int (iI v)] qT qM := by
  intro wt wm hs
  obtain ⟨nK, st, le, be, te, ab, bl, ka, bg, ln, ns, me, sc, pi, re, bk, pa, lz, go, ss, sm, pf, mf, th, co, bs, gr, lo, I, rfl, rfl⟩ := hs
  by_cases hok : 1000 ≤ v ∧ v ≤ 200000
  · exact pr_mk (okS_pitch I hok) (MI.toR (c_X5_pitch_ok I v h hok) ⟨rfl, sT_i⟩) (MI.toR (c_X6_pitch_ok I v h hok) ⟨rfl, sM_i⟩) ⟨rfl, rfl, by decide, by decide⟩ ⟨rfl, rfl, by decide, by decide⟩
  · have hno := hok
    exact pr_mk (I) (MI.toR (c_X5_pitch_no I v h hno) ⟨rfl, sT_i⟩) (MI.toR (c_X6_pitch_no I v h hno) ⟨rfl, sM_i⟩) ⟨rfl, rfl, by decide, by decide⟩ ⟨rfl, rfl, by decide, by decide⟩
set_option maxHeartbeats 1000000 in
theorem pr_wrong {l : Launch} {D : va_G} {cy : ClassId} {qT qM : Nat → Nat}  : PR l D cy yX5_wrong wsX5_wrong yX6_wrong wsX6_wrong [] qT qM := by
  intro wt wm hs
  obtain ⟨nK, st, le, be, te, ab, bl, ka, bg, ln, ns, me, sc, pi, re, bk, pa, lz, go, ss, sm, pf, mf, th, co, bs, gr, lo, I, rfl, rfl⟩ := hs
  exact pr_mk (I) (MI.toR (c_X5_wrong I) ⟨rfl, sT_i⟩) (MI.toR (c_X6_wrong I) ⟨rfl, sM_i⟩) ⟨rfl, rfl, by decide, by decide⟩ ⟨rfl, rfl, by decide, by decide⟩
set_option maxHeartbeats 1000000 in
theorem pr_tune {l : Launch} {D : va_G} {cy : ClassId} {qT qM : Nat → Nat} (k : Int) (h : -2147483648 ≤ k ∧ k ≤ 2147483647) : PR l D cy yX5_tune wsX5_tune yX6_tune wsX6_tune [.int (iI k)] qT qM := by
  intro wt wm hs
  obtain ⟨nK, st, le, be, te, ab, bl, ka, bg, ln, ns, me, sc, pi, re, bk, pa, lz, go, ss, sm, pf, mf, th, co, bs, gr, lo, I, rfl, rfl⟩ := hs
  by_cases hok : 0 ≤ k ∧ k < nK
  · exact pr_mk (okS_be1 I ⟨(tb_is _).1, (tb_is _).2.1⟩) (MI.toR (c_X5_tune_ok I k h hok) ⟨rfl, sT_i⟩) (MI.toR (c_X6_tune_ok I k h hok) ⟨rfl, sM_i⟩) ⟨rfl, rfl, by decide, by decide⟩ ⟨rfl, rfl, by decide, by decide⟩
  · have hno := hok
    exact pr_mk (I) (MI.toR (c_X5_tune_no I k h hno) ⟨rfl, sT_i⟩) (MI.toR (c_X6_tune_no I k h hno) ⟨rfl, sM_i⟩) ⟨rfl, rfl, by decide, by decide⟩ ⟨rfl, rfl, by decide, by decide⟩
set_option maxHeartbeats 1000000 in
theorem pr_tuneAll {l : Launch} {D : va_G} {cy : ClassId} {qT qM : Nat → Nat}  : PR l D cy yX5_tuneAll wsX5_tuneAll yX6_tuneAll wsX6_tuneAll [] qT qM := by
  intro wt wm hs
  obtain ⟨nK, st, le, be, te, ab, bl, ka, bg, ln, ns, me, sc, pi, re, bk, pa, lz, go, ss, sm, pf, mf, th, co, bs, gr, lo, I, rfl, rfl⟩ := hs
  exact pr_mk (okS_tu I) (MI.toR (c_X5_tuneAll I) ⟨rfl, sT_i⟩) (MI.toR (c_X6_tuneAll I) ⟨rfl, sM_i⟩) ⟨rfl, rfl, by decide, by decide⟩ ⟨rfl, rfl, by decide, by decide⟩
set_option maxHeartbeats 1000000 in
theorem pr_worst {l : Launch} {D : va_G} {cy : ClassId} {qT qM : Nat → Nat}  : PR l D cy yX5_worst wsX5_worst yX6_worst wsX6_worst [] qT qM := by
  intro wt wm hs
  obtain ⟨nK, st, le, be, te, ab, bl, ka, bg, ln, ns, me, sc, pi, re, bk, pa, lz, go, ss, sm, pf, mf, th, co, bs, gr, lo, I, rfl, rfl⟩ := hs
  exact pr_mk (I) (MI.toR (c_X5_worst I) ⟨rfl, sT_i⟩) (MI.toR (c_X6_worst I) ⟨rfl, sM_i⟩) ⟨rfl, rfl, by decide, by decide⟩ ⟨rfl, rfl, by decide, by decide⟩
set_option maxHeartbeats 1000000 in
theorem pr_note {l : Launch} {D : va_G} {cy : ClassId} {qT qM : Nat → Nat} (p9 : Int) (k : Int) (b9 : Int) (l9 : Int) (h : -2147483648 ≤ p9 ∧ p9 ≤ 2147483647 ∧ -2147483648 ≤ k ∧ k ≤ 2147483647 ∧ -2147483648 ≤ b9 ∧ b9 ≤ 2147483647 ∧ -2147483648 ≤ l9 ∧ l9 ≤ 2147483647) : PR l D cy yX5_note wsX5_note yX6_note wsX6_note [.int (iI p9), .int (iI k), .int (iI b9), .int (iI l9)] qT qM := by
  intro wt wm hs
  obtain ⟨nK, st, le, be, te, ab, bl, ka, bg, ln, ns, me, sc, pi, re, bk, pa, lz, go, ss, sm, pf, mf, th, co, bs, gr, lo, I, rfl, rfl⟩ := hs
  by_cases hok : (0 ≤ p9 ∧ p9 ≤ 3) ∧ ((0 ≤ k ∧ k ≤ 23) ∧ (0 ≤ b9 ∧ b9 ≤ 999) ∧ (1 ≤ l9 ∧ l9 ≤ 99)) ∧ (if ns p9 = 0 then 0 else bg (p9 * 40 + ns p9 - 1)) ≤ b9 ∧ ns p9 < 40
  · exact pr_mk (okS_note I hok.1 hok.2.1.1 hok.2.1.2.1 hok.2.1.2.2 hok.2.2.1 hok.2.2.2) (MI.toR (c_X5_note_ok I p9 k b9 l9 h hok) ⟨rfl, sT_i⟩) (MI.toR (c_X6_note_ok I p9 k b9 l9 h hok) ⟨rfl, sM_i⟩) ⟨rfl, rfl, by decide, by decide⟩ ⟨rfl, rfl, by decide, by decide⟩
  · have hno := hok
    exact pr_mk (I) (MI.toR (c_X5_note_no I p9 k b9 l9 h hno) ⟨rfl, sT_i⟩) (MI.toR (c_X6_note_no I p9 k b9 l9 h hno) ⟨rfl, sM_i⟩) ⟨rfl, rfl, by decide, by decide⟩ ⟨rfl, rfl, by decide, by decide⟩
set_option maxHeartbeats 1000000 in
theorem pr_wipe {l : Launch} {D : va_G} {cy : ClassId} {qT qM : Nat → Nat} (p9 : Int) (h : -2147483648 ≤ p9 ∧ p9 ≤ 2147483647) : PR l D cy yX5_wipe wsX5_wipe yX6_wipe wsX6_wipe [.int (iI p9)] qT qM := by
  intro wt wm hs
  obtain ⟨nK, st, le, be, te, ab, bl, ka, bg, ln, ns, me, sc, pi, re, bk, pa, lz, go, ss, sm, pf, mf, th, co, bs, gr, lo, I, rfl, rfl⟩ := hs
  by_cases hok : 0 ≤ p9 ∧ p9 ≤ 3
  · exact pr_mk (okS_wipe I) (MI.toR (c_X5_wipe_ok I p9 h hok) ⟨rfl, sT_i⟩) (MI.toR (c_X6_wipe_ok I p9 h hok) ⟨rfl, sM_i⟩) ⟨rfl, rfl, by decide, by decide⟩ ⟨rfl, rfl, by decide, by decide⟩
  · have hno := hok
    exact pr_mk (I) (MI.toR (c_X5_wipe_no I p9 h hno) ⟨rfl, sT_i⟩) (MI.toR (c_X6_wipe_no I p9 h hno) ⟨rfl, sM_i⟩) ⟨rfl, rfl, by decide, by decide⟩ ⟨rfl, rfl, by decide, by decide⟩
set_option maxHeartbeats 1000000 in
theorem pr_rest {l : Launch} {D : va_G} {cy : ClassId} {qT qM : Nat → Nat} (g : Int) (h : -2147483648 ≤ g ∧ g ≤ 2147483647) : PR l D cy yX5_rest wsX5_rest yX6_rest wsX6_rest [.int (iI g)] qT qM := by
  intro wt wm hs
  obtain ⟨nK, st, le, be, te, ab, bl, ka, bg, ln, ns, me, sc, pi, re, bk, pa, lz, go, ss, sm, pf, mf, th, co, bs, gr, lo, I, rfl, rfl⟩ := hs
  by_cases hok : 0 ≤ g ∧ g ≤ 20
  · exact pr_mk (okS_rest I hok) (MI.toR (c_X5_rest_ok I g h hok) ⟨rfl, sT_i⟩) (MI.toR (c_X6_rest_ok I g h hok) ⟨rfl, sM_i⟩) ⟨rfl, rfl, by decide, by decide⟩ ⟨rfl, rfl, by decide, by decide⟩
  · have hno := hok
    exact pr_mk (I) (MI.toR (c_X5_rest_no I g h hno) ⟨rfl, sT_i⟩) (MI.toR (c_X6_rest_no I g h hno) ⟨rfl, sM_i⟩) ⟨rfl, rfl, by decide, by decide⟩ ⟨rfl, rfl, by decide, by decide⟩
set_option maxHeartbeats 1000000 in
theorem pr_clashes {l : Launch} {D : va_G} {cy : ClassId} {qT qM : Nat → Nat} (p9 : Int) (h : -2147483648 ≤ p9 ∧ p9 ≤ 2147483647) : PR l D cy yX5_clashes wsX5_clashes yX6_clashes wsX6_clashes [.int (iI p9)] qT qM := by
  intro wt wm hs
  obtain ⟨nK, st, le, be, te, ab, bl, ka, bg, ln, ns, me, sc, pi, re, bk, pa, lz, go, ss, sm, pf, mf, th, co, bs, gr, lo, I, rfl, rfl⟩ := hs
  exact pr_mk (I) (MI.toR (c_X5_clashes I p9 h) ⟨rfl, sT_i⟩) (MI.toR (c_X6_clashes I p9 h) ⟨rfl, sM_i⟩) ⟨rfl, rfl, by decide, by decide⟩ ⟨rfl, rfl, by decide, by decide⟩
set_option maxHeartbeats 1000000 in
theorem pr_clash {l : Launch} {D : va_G} {cy : ClassId} {qT qM : Nat → Nat} (p9 : Int) (i9 : Int) (h : -2147483648 ≤ p9 ∧ p9 ≤ 2147483647 ∧ -2147483648 ≤ i9 ∧ i9 ≤ 2147483647) : PR l D cy yX5_clash wsX5_clash yX6_clash wsX6_clash [.int (iI p9), .int (iI i9)] qT qM := by
  intro wt wm hs
  obtain ⟨nK, st, le, be, te, ab, bl, ka, bg, ln, ns, me, sc, pi, re, bk, pa, lz, go, ss, sm, pf, mf, th, co, bs, gr, lo, I, rfl, rfl⟩ := hs
  exact pr_mk (I) (MI.toR (c_X5_clash I p9 i9 h) ⟨rfl, sT_i⟩) (MI.toR (c_X6_clash I p9 i9 h) ⟨rfl, sM_i⟩) ⟨rfl, rfl, by decide, by decide⟩ ⟨rfl, rfl, by decide, by decide⟩
set_option maxHeartbeats 1000000 in
theorem pr_chokes {l : Launch} {D : va_G} {cy : ClassId} {qT qM : Nat → Nat} (p9 : Int) (h : -2147483648 ≤ p9 ∧ p9 ≤ 2147483647) : PR l D cy yX5_chokes wsX5_chokes yX6_chokes wsX6_chokes [.int (iI p9)] qT qM := by
  intro wt wm hs
  obtain ⟨nK, st, le, be, te, ab, bl, ka, bg, ln, ns, me, sc, pi, re, bk, pa, lz, go, ss, sm, pf, mf, th, co, bs, gr, lo, I, rfl, rfl⟩ := hs
  exact pr_mk (I) (MI.toR (c_X5_chokes I p9 h) ⟨rfl, sT_i⟩) (MI.toR (c_X6_chokes I p9 h) ⟨rfl, sM_i⟩) ⟨rfl, rfl, by decide, by decide⟩ ⟨rfl, rfl, by decide, by decide⟩
set_option maxHeartbeats 1000000 in
theorem pr_trills {l : Launch} {D : va_G} {cy : ClassId} {qT qM : Nat → Nat} (p9 : Int) (bad : Bool) (h : -2147483648 ≤ p9 ∧ p9 ≤ 2147483647) : PR l D cy yX5_trills wsX5_trills yX6_trills wsX6_trills [.int (iI p9), .int (iI (bZ bad))] qT qM := by
  intro wt wm hs
  obtain ⟨nK, st, le, be, te, ab, bl, ka, bg, ln, ns, me, sc, pi, re, bk, pa, lz, go, ss, sm, pf, mf, th, co, bs, gr, lo, I, rfl, rfl⟩ := hs
  exact pr_mk (I) (MI.toR (c_X5_trills I p9 bad h) ⟨rfl, sT_i⟩) (MI.toR (c_X6_trills I p9 bad h) ⟨rfl, sM_i⟩) ⟨rfl, rfl, by decide, by decide⟩ ⟨rfl, rfl, by decide, by decide⟩
set_option maxHeartbeats 1000000 in
theorem pr_heard {l : Launch} {D : va_G} {cy : ClassId} {qT qM : Nat → Nat} (p9 : Int) (s9 : Int) (t9 : Int) (h : -2147483648 ≤ p9 ∧ p9 ≤ 2147483647 ∧ -2147483648 ≤ s9 ∧ s9 ≤ 2147483647 ∧ -2147483648 ≤ t9 ∧ t9 ≤ 2147483647) : PR l D cy yX5_heard wsX5_heard yX6_heard wsX6_heard [.int (iI p9), .int (iI s9), .int (iI t9)] qT qM := by
  intro wt wm hs
  obtain ⟨nK, st, le, be, te, ab, bl, ka, bg, ln, ns, me, sc, pi, re, bk, pa, lz, go, ss, sm, pf, mf, th, co, bs, gr, lo, I, rfl, rfl⟩ := hs
  exact pr_mk (I) (MI.toR (c_X5_heard I p9 s9 t9 h) ⟨rfl, sT_i⟩) (MI.toR (c_X6_heard I p9 s9 t9 h) ⟨rfl, sM_i⟩) ⟨rfl, rfl, by decide, by decide⟩ ⟨rfl, rfl, by decide, by decide⟩
set_option maxHeartbeats 1000000 in
theorem pr_lost {l : Launch} {D : va_G} {cy : ClassId} {qT qM : Nat → Nat} (p9 : Int) (k : Int) (h : -2147483648 ≤ p9 ∧ p9 ≤ 2147483647 ∧ -2147483648 ≤ k ∧ k ≤ 2147483647) : PR l D cy yX5_lost wsX5_lost yX6_lost wsX6_lost [.int (iI p9), .int (iI k)] qT qM := by
  intro wt wm hs
  obtain ⟨nK, st, le, be, te, ab, bl, ka, bg, ln, ns, me, sc, pi, re, bk, pa, lz, go, ss, sm, pf, mf, th, co, bs, gr, lo, I, rfl, rfl⟩ := hs
  exact pr_mk (I) (MI.toR (c_X5_lost I p9 k h) ⟨rfl, sT_i⟩) (MI.toR (c_X6_lost I p9 k h) ⟨rfl, sM_i⟩) ⟨rfl, rfl, by decide, by decide⟩ ⟨rfl, rfl, by decide, by decide⟩
set_option maxHeartbeats 1000000 in
theorem pr_passes {l : Launch} {D : va_G} {cy : ClassId} {qT qM : Nat → Nat} (p9 : Int) (h : -2147483648 ≤ p9 ∧ p9 ≤ 2147483647) : PR l D cy yX5_passes wsX5_passes yX6_passes wsX6_passes [.int (iI p9)] qT qM := by
  intro wt wm hs
  obtain ⟨nK, st, le, be, te, ab, bl, ka, bg, ln, ns, me, sc, pi, re, bk, pa, lz, go, ss, sm, pf, mf, th, co, bs, gr, lo, I, rfl, rfl⟩ := hs
  exact pr_mk (I) (MI.toR (c_X5_passes I p9 h) ⟨rfl, sT_i⟩) (MI.toR (c_X6_passes I p9 h) ⟨rfl, sM_i⟩) ⟨rfl, rfl, by decide, by decide⟩ ⟨rfl, rfl, by decide, by decide⟩
set_option maxHeartbeats 1000000 in
theorem pr_book {l : Launch} {D : va_G} {cy : ClassId} {qT qM : Nat → Nat} (v : Int) (h : -2147483648 ≤ v ∧ v ≤ 2147483647) : PR l D cy yX5_book wsX5_book yX6_book wsX6_book [.int (iI v)] qT qM := by
  intro wt wm hs
  obtain ⟨nK, st, le, be, te, ab, bl, ka, bg, ln, ns, me, sc, pi, re, bk, pa, lz, go, ss, sm, pf, mf, th, co, bs, gr, lo, I, rfl, rfl⟩ := hs
  by_cases hok : 0 ≤ v ∧ v ≤ 15
  · exact pr_mk (okS_book I hok) (MI.toR (c_X5_book_ok I v h hok) ⟨rfl, sT_i⟩) (MI.toR (c_X6_book_ok I v h hok) ⟨rfl, sM_i⟩) ⟨rfl, rfl, by decide, by decide⟩ ⟨rfl, rfl, by decide, by decide⟩
  · have hno := hok
    exact pr_mk (I) (MI.toR (c_X5_book_no I v h hno) ⟨rfl, sT_i⟩) (MI.toR (c_X6_book_no I v h hno) ⟨rfl, sM_i⟩) ⟨rfl, rfl, by decide, by decide⟩ ⟨rfl, rfl, by decide, by decide⟩
set_option maxHeartbeats 1000000 in
theorem pr_together {l : Launch} {D : va_G} {cy : ClassId} {qT qM : Nat → Nat} (a : Int) (b : Int) (h : -2147483648 ≤ a ∧ a ≤ 2147483647 ∧ -2147483648 ≤ b ∧ b ≤ 2147483647) : PR l D cy yX5_together wsX5_together yX6_together wsX6_together [.int (iI a), .int (iI b)] qT qM := by
  intro wt wm hs
  obtain ⟨nK, st, le, be, te, ab, bl, ka, bg, ln, ns, me, sc, pi, re, bk, pa, lz, go, ss, sm, pf, mf, th, co, bs, gr, lo, I, rfl, rfl⟩ := hs
  exact pr_mk (r := if (0 ≤ a ∧ a < nK) ∧ (0 ≤ b ∧ b < nK) then (if b < a then (-100002) else (tog ka bg ln ns bk) a b) else (-100001)) (I) (MR.mono (c_X5_together I a b h) (fun r8 w8 h9 => by obtain ⟨pa2, h91, h92⟩ := h9; exact ⟨h92, by rw [h91]; exact sT_i⟩)) (MI.toR (c_X6_together I a b h) ⟨rfl, sM_i⟩) ⟨rfl, rfl, by decide, by decide⟩ ⟨rfl, rfl, by decide, by decide⟩
set_option maxHeartbeats 1000000 in
theorem pr_fewest {l : Launch} {D : va_G} {cy : ClassId} {qT qM : Nat → Nat} (m9 : Int) (h : -2147483648 ≤ m9 ∧ m9 ≤ 2147483647) : PR l D cy yX5_fewest wsX5_fewest yX6_fewest wsX6_fewest [.int (iI m9)] qT qM := by
  intro wt wm hs
  obtain ⟨nK, st, le, be, te, ab, bl, ka, bg, ln, ns, me, sc, pi, re, bk, pa, lz, go, ss, sm, pf, mf, th, co, bs, gr, lo, I, rfl, rfl⟩ := hs
  exact pr_mk (r := if 1 ≤ m9 ∧ m9 ≤ 6 then stF (tog ka bg ln ns bk) nK m9 0 else (-100002)) (I) (MR.mono (c_X5_fewest I m9 h) (fun r8 w8 h9 => by obtain ⟨pa2, lz2, ss2, sm2, h91, h92⟩ := h9; exact ⟨h92, by rw [h91]; exact sT_i⟩)) (MR.mono (c_X6_fewest I m9 h) (fun r8 w8 h9 => by obtain ⟨co2, bs2, gr2, lo2, h91, h92⟩ := h9; exact ⟨h92, by rw [h91]; exact sM_i⟩)) ⟨rfl, rfl, by decide, by decide⟩ ⟨rfl, rfl, by decide, by decide⟩
set_option maxHeartbeats 1000000 in
theorem pr_least {l : Launch} {D : va_G} {cy : ClassId} {qT qM : Nat → Nat} (m9 : Int) (s9 : Int) (h : -2147483648 ≤ m9 ∧ m9 ≤ 2147483647 ∧ -2147483648 ≤ s9 ∧ s9 ≤ 2147483647) : PR l D cy yX5_least wsX5_least yX6_least wsX6_least [.int (iI m9), .int (iI s9)] qT qM := by
  intro wt wm hs
  obtain ⟨nK, st, le, be, te, ab, bl, ka, bg, ln, ns, me, sc, pi, re, bk, pa, lz, go, ss, sm, pf, mf, th, co, bs, gr, lo, I, rfl, rfl⟩ := hs
  exact pr_mk (r := if (1 ≤ m9 ∧ m9 ≤ 6) ∧ (1 ≤ s9 ∧ s9 ≤ 24) then (if stF (tog ka bg ln ns bk) nK m9 s9 = -100009 then (-100009) else dp (tog ka bg ln ns bk) nK m9 (stF (tog ka bg ln ns bk) nK m9 s9) 0) else (-100002)) (I) (MR.mono (c_X5_least I m9 s9 h) (fun r8 w8 h9 => by obtain ⟨pa2, lz2, ss2, sm2, h91, h92⟩ := h9; exact ⟨h92, by rw [h91]; exact sT_i⟩)) (MR.mono (c_X6_least I m9 s9 h) (fun r8 w8 h9 => by obtain ⟨co2, bs2, gr2, lo2, h91, h92⟩ := h9; exact ⟨h92, by rw [h91]; exact sM_i⟩)) ⟨rfl, rfl, by decide, by decide⟩ ⟨rfl, rfl, by decide, by decide⟩
set_option maxHeartbeats 1000000 in
theorem pr_group {l : Launch} {D : va_G} {cy : ClassId} {qT qM : Nat → Nat} (m9 : Int) (s9 : Int) (k : Int) (h : -2147483648 ≤ m9 ∧ m9 ≤ 2147483647 ∧ -2147483648 ≤ s9 ∧ s9 ≤ 2147483647 ∧ -2147483648 ≤ k ∧ k ≤ 2147483647) : PR l D cy yX5_group wsX5_group yX6_group wsX6_group [.int (iI m9), .int (iI s9), .int (iI k)] qT qM := by
  intro wt wm hs
  obtain ⟨nK, st, le, be, te, ab, bl, ka, bg, ln, ns, me, sc, pi, re, bk, pa, lz, go, ss, sm, pf, mf, th, co, bs, gr, lo, I, rfl, rfl⟩ := hs
  exact pr_mk (r := if 0 ≤ k ∧ k < nK then (if (1 ≤ m9 ∧ m9 ≤ 6) ∧ (0 ≤ s9 ∧ s9 ≤ 24) then (if stF (tog ka bg ln ns bk) nK m9 s9 = -100009 then (-100009) else gF (tog ka bg ln ns bk) nK m9 (stF (tog ka bg ln ns bk) nK m9 s9) k) else (-100002)) else (-100001)) (I) (MR.mono (c_X5_group I m9 s9 k h) (fun r8 w8 h9 => by obtain ⟨pa2, lz2, ss2, sm2, go2, h91, h92⟩ := h9; exact ⟨h92, by rw [h91]; exact sT_i⟩)) (MR.mono (c_X6_group I m9 s9 k h) (fun r8 w8 h9 => by obtain ⟨co2, bs2, gr2, lo2, h91, h92⟩ := h9; exact ⟨h92, by rw [h91]; exact sM_i⟩)) ⟨rfl, rfl, by decide, by decide⟩ ⟨rfl, rfl, by decide, by decide⟩
set_option maxHeartbeats 1000000 in
theorem pr_setUp {l : Launch} {D : va_G} {cy : ClassId} {qT qM : Nat → Nat} (m9 : Int) (s9 : Int) (h : -2147483648 ≤ m9 ∧ m9 ≤ 2147483647 ∧ -2147483648 ≤ s9 ∧ s9 ≤ 2147483647) : PR l D cy yX5_setUp wsX5_setUp yX6_setUp wsX6_setUp [.int (iI m9), .int (iI s9)] qT qM := by
  intro wt wm hs
  obtain ⟨nK, st, le, be, te, ab, bl, ka, bg, ln, ns, me, sc, pi, re, bk, pa, lz, go, ss, sm, pf, mf, th, co, bs, gr, lo, I, rfl, rfl⟩ := hs
  by_cases hok : (1 ≤ m9 ∧ m9 ≤ 6) ∧ (0 ≤ s9 ∧ s9 ≤ 24)
  · by_cases hn : stF (tog ka bg ln ns bk) nK m9 s9 = -100009
    · exact pr_mk (r := (-100009)) (I) (MR.mono (c_X5_setUp_none I m9 s9 h hok hn) (fun r8 w8 h9 => by obtain ⟨pa2, lz2, ss2, sm2, go2, h91, h92⟩ := h9; exact ⟨h92, by rw [h91]; exact sT_i⟩)) (MR.mono (c_X6_setUp_none I m9 s9 h hok hn) (fun r8 w8 h9 => by obtain ⟨co2, bs2, gr2, lo2, h91, h92⟩ := h9; exact ⟨h92, by rw [h91]; exact sM_i⟩)) ⟨rfl, rfl, by decide, by decide⟩ ⟨rfl, rfl, by decide, by decide⟩
    · have hC : ∀ a b, 0 ≤ tog ka bg ln ns bk a b := fun a b => (tog_b I.ns).1
      have z := (stF_b (C := tog ka bg ln ns bk) (n := nK) (m := m9) (s := s9) hC (fun a => tog_one) hok.1.1 I.nK hok.2.1).resolve_left hn
      exact pr_mk (r := stF (tog ka bg ln ns bk) nK m9 s9) (okS_setUp I hC z.2 z.1) (MR.mono (c_X5_setUp_ok I m9 s9 h hok hn) (fun r8 w8 h9 => by obtain ⟨pa2, lz2, ss2, sm2, go2, h91, h92⟩ := h9; exact ⟨h92, by rw [h91]; exact sT_i⟩)) (MR.mono (c_X6_setUp_ok I m9 s9 h hok hn) (fun r8 w8 h9 => by obtain ⟨co2, bs2, gr2, lo2, h91, h92⟩ := h9; exact ⟨h92, by rw [h91]; exact sM_i⟩)) ⟨rfl, rfl, by decide, by decide⟩ ⟨rfl, rfl, by decide, by decide⟩
  · have hno := hok
    exact pr_mk (I) (MI.toR (c_X5_setUp_no I m9 s9 h hno) ⟨rfl, sT_i⟩) (MI.toR (c_X6_setUp_no I m9 s9 h hno) ⟨rfl, sM_i⟩) ⟨rfl, rfl, by decide, by decide⟩ ⟨rfl, rfl, by decide, by decide⟩
set_option maxHeartbeats 1000000 in
theorem pr_measure {l : Launch} {D : va_G} {cy : ClassId} {qT qM : Nat → Nat} (k : Int) (t9 : Int) (h : -2147483648 ≤ k ∧ k ≤ 2147483647 ∧ -2147483648 ≤ t9 ∧ t9 ≤ 2147483647) : PR l D cy yX5_measure wsX5_measure yX6_measure wsX6_measure [.int (iI k), .int (iI t9)] qT qM := by
  intro wt wm hs
  obtain ⟨nK, st, le, be, te, ab, bl, ka, bg, ln, ns, me, sc, pi, re, bk, pa, lz, go, ss, sm, pf, mf, th, co, bs, gr, lo, I, rfl, rfl⟩ := hs
  by_cases hok : (0 ≤ k ∧ k < nK) ∧ (t9 = -100009 ∨ (100 ≤ t9 ∧ t9 ≤ 400000))
  · exact pr_mk (okS_measure I hok.2) (MI.toR (c_X5_measure_ok I k t9 h hok) ⟨rfl, sT_i⟩) (MI.toR (c_X6_measure_ok I k t9 h hok) ⟨rfl, sM_i⟩) ⟨rfl, rfl, by decide, by decide⟩ ⟨rfl, rfl, by decide, by decide⟩
  · have hno := hok
    exact pr_mk (I) (MI.toR (c_X5_measure_no I k t9 h hno) ⟨rfl, sT_i⟩) (MI.toR (c_X6_measure_no I k t9 h hno) ⟨rfl, sM_i⟩) ⟨rfl, rfl, by decide, by decide⟩ ⟨rfl, rfl, by decide, by decide⟩
set_option maxHeartbeats 1000000 in
theorem pr_misfit {l : Launch} {D : va_G} {cy : ClassId} {qT qM : Nat → Nat} (s9 : Int) (p9 : Int) (h : -2147483648 ≤ s9 ∧ s9 ≤ 2147483647 ∧ -2147483648 ≤ p9 ∧ p9 ≤ 2147483647) : PR l D cy yX5_misfit wsX5_misfit yX6_misfit wsX6_misfit [.int (iI s9), .int (iI p9)] qT qM := by
  intro wt wm hs
  obtain ⟨nK, st, le, be, te, ab, bl, ka, bg, ln, ns, me, sc, pi, re, bk, pa, lz, go, ss, sm, pf, mf, th, co, bs, gr, lo, I, rfl, rfl⟩ := hs
  exact pr_mk (I) (MI.toR (c_X5_misfit I s9 p9 h) ⟨rfl, sT_i⟩) (MI.toR (c_X6_misfit I s9 p9 h) ⟨rfl, sM_i⟩) ⟨rfl, rfl, by decide, by decide⟩ ⟨rfl, rfl, by decide, by decide⟩
set_option maxHeartbeats 1000000 in
theorem pr_found {l : Launch} {D : va_G} {cy : ClassId} {qT qM : Nat → Nat} (s9 : Int) (w7 : Int) (h : -2147483648 ≤ s9 ∧ s9 ≤ 2147483647 ∧ -2147483648 ≤ w7 ∧ w7 ≤ 2147483647) : PR l D cy yX5_found wsX5_found yX6_found wsX6_found [.int (iI s9), .int (iI w7)] qT qM := by
  intro wt wm hs
  obtain ⟨nK, st, le, be, te, ab, bl, ka, bg, ln, ns, me, sc, pi, re, bk, pa, lz, go, ss, sm, pf, mf, th, co, bs, gr, lo, I, rfl, rfl⟩ := hs
  exact pr_mk (r := if 0 ≤ s9 ∧ s9 ≤ 4 then (if 0 ≤ w7 ∧ w7 ≤ 1 then (if cm nK me = 0 then (-100003) else (if w7 = 0 then (pitF nK me ab bl s9 (-1)) else misF nK me ab bl s9 (-1))) else (-100002)) else (-100001)) (I) (MR.mono (c_X5_found I s9 w7 h) (fun r8 w8 h9 => by obtain ⟨pf2, mf2, h91, h92⟩ := h9; exact ⟨h92, by rw [h91]; exact sT_i⟩)) (MR.mono (c_X6_found I s9 w7 h) (fun r8 w8 h9 => by obtain ⟨lo2, h91, h92⟩ := h9; exact ⟨h92, by rw [h91]; exact sM_i⟩)) ⟨rfl, rfl, by decide, by decide⟩ ⟨rfl, rfl, by decide, by decide⟩
set_option maxHeartbeats 1000000 in
theorem pr_meant {l : Launch} {D : va_G} {cy : ClassId} {qT qM : Nat → Nat}  : PR l D cy yX5_meant wsX5_meant yX6_meant wsX6_meant [] qT qM := by
  intro wt wm hs
  obtain ⟨nK, st, le, be, te, ab, bl, ka, bg, ln, ns, me, sc, pi, re, bk, pa, lz, go, ss, sm, pf, mf, th, co, bs, gr, lo, I, rfl, rfl⟩ := hs
  exact pr_mk (r := if cm nK me = 0 then (-100003) else (am (fun s => misF nK me ab bl s (-1)) 0 5)) (I) (MR.mono (c_X5_meant I) (fun r8 w8 h9 => by obtain ⟨pf2, mf2, h91, h92⟩ := h9; exact ⟨h92, by rw [h91]; exact sT_i⟩)) (MR.mono (c_X6_meant I) (fun r8 w8 h9 => by obtain ⟨lo2, h91, h92⟩ := h9; exact ⟨h92, by rw [h91]; exact sM_i⟩)) ⟨rfl, rfl, by decide, by decide⟩ ⟨rfl, rfl, by decide, by decide⟩
set_option maxHeartbeats 1000000 in
theorem pr_added {l : Launch} {D : va_G} {cy : ClassId} {qT qM : Nat → Nat} (w7 : Int) (h : -2147483648 ≤ w7 ∧ w7 ≤ 2147483647) : PR l D cy yX5_added wsX5_added yX6_added wsX6_added [.int (iI w7)] qT qM := by
  intro wt wm hs
  obtain ⟨nK, st, le, be, te, ab, bl, ka, bg, ln, ns, me, sc, pi, re, bk, pa, lz, go, ss, sm, pf, mf, th, co, bs, gr, lo, I, rfl, rfl⟩ := hs
  exact pr_mk (r := if 0 ≤ w7 ∧ w7 ≤ 1 then (if cm nK me < 2 then (-100003) else (if w7 = 0 then am (gk nK me ab bl (am (fun s => misF nK me ab bl s (-1)) 0 5)) 0 nK else (gk nK me ab bl (am (fun s => misF nK me ab bl s (-1)) 0 5)) (am (gk nK me ab bl (am (fun s => misF nK me ab bl s (-1)) 0 5)) 0 nK))) else (-100002)) (I) (MR.mono (c_X5_added I w7 h) (fun r8 w8 h9 => by obtain ⟨pf2, mf2, h91, h92⟩ := h9; exact ⟨h92, by rw [h91]; exact sT_i⟩)) (MR.mono (c_X6_added I w7 h) (fun r8 w8 h9 => by obtain ⟨lo2, h91, h92⟩ := h9; exact ⟨h92, by rw [h91]; exact sM_i⟩)) ⟨rfl, rfl, by decide, by decide⟩ ⟨rfl, rfl, by decide, by decide⟩
set_option maxHeartbeats 1000000 in
theorem pr_bentLater {l : Launch} {D : va_G} {cy : ClassId} {qT qM : Nat → Nat} (b9 : Int) (i9 : Int) (h : -2147483648 ≤ b9 ∧ b9 ≤ 2147483647 ∧ -2147483648 ≤ i9 ∧ i9 ≤ 2147483647) : PR l D cy yX5_bentLater wsX5_bentLater yX6_bentLater wsX6_bentLater [.int (iI b9), .int (iI i9)] qT qM := by
  intro wt wm hs
  obtain ⟨nK, st, le, be, te, ab, bl, ka, bg, ln, ns, me, sc, pi, re, bk, pa, lz, go, ss, sm, pf, mf, th, co, bs, gr, lo, I, rfl, rfl⟩ := hs
  exact pr_mk (r := if 0 ≤ b9 ∧ b9 ≤ 400000 then (if cm nK me = 0 then (-100003) else nth (fun k => me k ≠ -100009 ∧ b9 < aZ (gl ab bl (am (fun s => misF nK me ab bl s (-1)) 0 5) (pitF nK me ab bl (am (fun s => misF nK me ab bl s (-1)) 0 5) (-1)) k - me k)) nK i9 (fun k => k)) else (-100002)) (I) (MR.mono (c_X5_bentLater I b9 i9 h) (fun r8 w8 h9 => by obtain ⟨pf2, mf2, h91, h92⟩ := h9; exact ⟨h92, by rw [h91]; exact sT_i⟩)) (MR.mono (c_X6_bentLater I b9 i9 h) (fun r8 w8 h9 => by obtain ⟨lo2, h91, h92⟩ := h9; exact ⟨h92, by rw [h91]; exact sM_i⟩)) ⟨rfl, rfl, by decide, by decide⟩ ⟨rfl, rfl, by decide, by decide⟩
set_option maxHeartbeats 1000000 in
theorem pr_count {l : Launch} {D : va_G} {cy : ClassId} {qT qM : Nat → Nat} (w9 : Int) (h : -2147483648 ≤ w9 ∧ w9 ≤ 2147483647) : PR l D cy yX5_count wsX5_count yX6_count wsX6_count [.int (iI w9)] qT qM := by
  intro wt wm hs
  obtain ⟨nK, st, le, be, te, ab, bl, ka, bg, ln, ns, me, sc, pi, re, bk, pa, lz, go, ss, sm, pf, mf, th, co, bs, gr, lo, I, rfl, rfl⟩ := hs
  exact pr_mk (I) (MI.toR (c_X5_count I w9 h) ⟨rfl, sT_i⟩) (MI.toR (c_X6_count I w9 h) ⟨rfl, sM_i⟩) ⟨rfl, rfl, by decide, by decide⟩ ⟨rfl, rfl, by decide, by decide⟩
