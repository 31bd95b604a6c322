section LC
variable {p : Program} {l : Launch} {e : Env} {R : Room} {s : State} {m : MethodId} {args : Array Value} {below : List Frame} {meth : Method} {c : Code} {H : Heap} {locs : List Loc} {cells slots : Nat} {Q : State → Prop}
variable {b L : Nat} {xs : Nat → Int32} {A : Nat → Prop} {ls : Array Slot} {rest : List Value} {i : Int} {D : va_G} {cy : ClassId} {qT qM : Nat → Nat} {wt wm : va_W} {t1 u1 pc : Nat}
set_option maxHeartbeats 2000000 in
theorem law_c0 (X : Cx p s m meth c cL_law 4 (some .boolean) wsL_law RL #[.ref b]) (hX : va_X b L xs s s.heap) (hbl : b < s.heap.size) (hbA : ¬ A b) (hA : ∀ q, s.heap.size ≤ q → A q) (hK : va_K D vwCl [(cy, .int)] s) (hi : 0 ≤ i ∧ i + 5 ≤ L ∧ L ≤ 2560) (hl : lv_has ls 4 (lwL b (qT 0) (qM 0) i)) (hs : Sim qT qM cy wt wm) (hP : va_P D vwCl wt H) (hP2 : va_P D vwCl wm H) (hD : va_D A wt) (hD2 : va_D A wm) (hap : ap wt wm) (hS : va_S A s.heap H locs) (kk : ∀ (wt wm : va_W) (H : Heap) (locs : List Loc), Sim qT qM cy wt wm → va_P D vwCl wt H → va_P D vwCl wm H → va_D A wt → va_D A wm → ap wt wm → va_S A s.heap H locs → W p l e room_1 s m #[.ref b] below meth c H locs 35 3975 Q (F0 m 1363 ls [])) : W p l e room_1 s m #[.ref b] below meth c H locs 35 3975 Q (F0 m 204 ls []) := by
  obtain ⟨hx, hb, hml, hr, hts, hown, hlocks⟩ := id X
  obtain ⟨f1, e1⟩ := hs.t
  obtain ⟨f2, e2⟩ := hs.m
  obtain ⟨r, Ψ, Φ, rT, rM, g1, g2, hT, hM, hE⟩ := pr_keys (l := l) (D := D) (cy := cy) (qT := qT) (qM := qM) (ar xs i 1) (ar_rg xs i 1) wt wm hs
  refine lv_aload_n hx hb dL_law_204 rfl (lv_at hl 2 rfl) ?_
  refine lw_arg hx hb hX hbl hbA hS hl hi 1 (by decide) dL_law_205 dL_law_206 dL_law_207 dL_law_208 dL_law_209 ?_
  refine z_callF (ci := 5) (q0 := 0) (As := [.int (iI (ar xs i 1))]) (rest := []) X hK hP hP2 hD hap hA hS hl.1 gL_law_X5_keys rfl ⟨g1.1, g1.2.1⟩ hd_X5_keys (g1.R (Nat.le_of_ble_eq_true rfl)) rfl e1 rfl (Nat.le_of_ble_eq_true rfl) ⟨Nat.le_of_ble_eq_true rfl, Nat.le_of_ble_eq_true rfl⟩ rfl dL_law_210 hT (fun r9 w1 H locs hr9 hP hP2 hD hap hS => ?_)
  obtain ⟨er9, hΨ⟩ := hr9
  rw [er9]
  refine lv_aload_n hx hb dL_law_213 rfl (lv_at hl 1 rfl) ?_
  refine lw_arg hx hb hX hbl hbA hS hl hi 1 (by decide) dL_law_214 dL_law_215 dL_law_216 dL_law_217 dL_law_218 ?_
  refine z_callF (ci := 6) (q0 := 0) (As := [.int (iI (ar xs i 1))]) (rest := [.int (iI r)]) X hK hP2 hP hD2 hap.symm hA hS hl.1 gL_law_X6_keys rfl ⟨g2.1, g2.2.1⟩ hd_X6_keys (g2.R (Nat.le_of_ble_eq_true rfl)) rfl e2 rfl (Nat.le_of_ble_eq_true rfl) ⟨Nat.le_of_ble_eq_true rfl, Nat.le_of_ble_eq_true rfl⟩ rfl dL_law_219 hM (fun r8 w2 H locs hr8 hP2 hP hD2 hap hS => ?_)
  obtain ⟨er8, hΦ⟩ := hr8
  rw [er8]
  refine lv_icmp_eq (tgt := 1363) hx hb dL_law_222 (by decide) (fun _ => ?_) (fun q => absurd rfl q)
  exact kk w1 w2 H locs (hE w1 w2 hΨ hΦ) hP hP2 hD hD2 hap.symm hS
set_option maxHeartbeats 2000000 in
theorem law_c1 (X : Cx p s m meth c cL_law 4 (some .boolean) wsL_law RL #[.ref b]) (hX : va_X b L xs s s.heap) (hbl : b < s.heap.size) (hbA : ¬ A b) (hA : ∀ q, s.heap.size ≤ q → A q) (hK : va_K D vwCl [(cy, .int)] s) (hi : 0 ≤ i ∧ i + 5 ≤ L ∧ L ≤ 2560) (hl : lv_has ls 4 (lwL b (qT 0) (qM 0) i)) (hs : Sim qT qM cy wt wm) (hP : va_P D vwCl wt H) (hP2 : va_P D vwCl wm H) (hD : va_D A wt) (hD2 : va_D A wm) (hap : ap wt wm) (hS : va_S A s.heap H locs) (kk : ∀ (wt wm : va_W) (H : Heap) (locs : List Loc), Sim qT qM cy wt wm → va_P D vwCl wt H → va_P D vwCl wm H → va_D A wt → va_D A wm → ap wt wm → va_S A s.heap H locs → W p l e room_1 s m #[.ref b] below meth c H locs 35 3975 Q (F0 m 1363 ls [])) : W p l e room_1 s m #[.ref b] below meth c H locs 35 3975 Q (F0 m 227 ls []) := by
  obtain ⟨hx, hb, hml, hr, hts, hown, hlocks⟩ := id X
  obtain ⟨f1, e1⟩ := hs.t
  obtain ⟨f2, e2⟩ := hs.m
  obtain ⟨r, Ψ, Φ, rT, rM, g1, g2, hT, hM, hE⟩ := pr_strike (l := l) (D := D) (cy := cy) (qT := qT) (qM := qM) (ar xs i 1) (ar xs i 2) (ar xs i 3) (⟨(ar_rg xs i 1).1, (ar_rg xs i 1).2, (ar_rg xs i 2).1, (ar_rg xs i 2).2, ar_rg xs i 3⟩) wt wm hs
  refine lv_aload_n hx hb dL_law_227 rfl (lv_at hl 2 rfl) ?_
  refine lw_arg hx hb hX hbl hbA hS hl hi 1 (by decide) dL_law_228 dL_law_229 dL_law_230 dL_law_231 dL_law_232 ?_
  refine lw_arg hx hb hX hbl hbA hS hl hi 2 (by decide) dL_law_233 dL_law_234 dL_law_235 dL_law_236 dL_law_237 ?_
  refine lw_arg hx hb hX hbl hbA hS hl hi 3 (by decide) dL_law_238 dL_law_239 dL_law_240 dL_law_241 dL_law_242 ?_
  refine z_callF (ci := 5) (q0 := 0) (As := [.int (iI (ar xs i 1)), .int (iI (ar xs i 2)), .int (iI (ar xs i 3))]) (rest := []) X hK hP hP2 hD hap hA hS hl.1 gL_law_X5_strike rfl ⟨g1.1, g1.2.1⟩ hd_X5_strike (g1.R (Nat.le_of_ble_eq_true rfl)) rfl e1 rfl (Nat.le_of_ble_eq_true rfl) ⟨Nat.le_of_ble_eq_true rfl, Nat.le_of_ble_eq_true rfl⟩ rfl dL_law_243 hT (fun r9 w1 H locs hr9 hP hP2 hD hap hS => ?_)
  obtain ⟨er9, hΨ⟩ := hr9
  rw [er9]
  refine lv_aload_n hx hb dL_law_246 rfl (lv_at hl 1 rfl) ?_
  refine lw_arg hx hb hX hbl hbA hS hl hi 1 (by decide) dL_law_247 dL_law_248 dL_law_249 dL_law_250 dL_law_251 ?_
  refine lw_arg hx hb hX hbl hbA hS hl hi 2 (by decide) dL_law_252 dL_law_253 dL_law_254 dL_law_255 dL_law_256 ?_
  refine lw_arg hx hb hX hbl hbA hS hl hi 3 (by decide) dL_law_257 dL_law_258 dL_law_259 dL_law_260 dL_law_261 ?_
  refine z_callF (ci := 6) (q0 := 0) (As := [.int (iI (ar xs i 1)), .int (iI (ar xs i 2)), .int (iI (ar xs i 3))]) (rest := [.int (iI r)]) X hK hP2 hP hD2 hap.symm hA hS hl.1 gL_law_X6_strike rfl ⟨g2.1, g2.2.1⟩ hd_X6_strike (g2.R (Nat.le_of_ble_eq_true rfl)) rfl e2 rfl (Nat.le_of_ble_eq_true rfl) ⟨Nat.le_of_ble_eq_true rfl, Nat.le_of_ble_eq_true rfl⟩ rfl dL_law_262 hM (fun r8 w2 H locs hr8 hP2 hP hD2 hap hS => ?_)
  obtain ⟨er8, hΦ⟩ := hr8
  rw [er8]
  refine lv_icmp_eq (tgt := 1363) hx hb dL_law_265 (by decide) (fun _ => ?_) (fun q => absurd rfl q)
  exact kk w1 w2 H locs (hE w1 w2 hΨ hΦ) hP hP2 hD hD2 hap.symm hS
set_option maxHeartbeats 2000000 in
theorem law_c2 (X : Cx p s m meth c cL_law 4 (some .boolean) wsL_law RL #[.ref b]) (hX : va_X b L xs s s.heap) (hbl : b < s.heap.size) (hbA : ¬ A b) (hA : ∀ q, s.heap.size ≤ q → A q) (hK : va_K D vwCl [(cy, .int)] s) (hi : 0 ≤ i ∧ i + 5 ≤ L ∧ L ≤ 2560) (hl : lv_has ls 4 (lwL b (qT 0) (qM 0) i)) (hs : Sim qT qM cy wt wm) (hP : va_P D vwCl wt H) (hP2 : va_P D vwCl wm H) (hD : va_D A wt) (hD2 : va_D A wm) (hap : ap wt wm) (hS : va_S A s.heap H locs) (kk : ∀ (wt wm : va_W) (H : Heap) (locs : List Loc), Sim qT qM cy wt wm → va_P D vwCl wt H → va_P D vwCl wm H → va_D A wt → va_D A wm → ap wt wm → va_S A s.heap H locs → W p l e room_1 s m #[.ref b] below meth c H locs 35 3975 Q (F0 m 1363 ls [])) : W p l e room_1 s m #[.ref b] below meth c H locs 35 3975 Q (F0 m 270 ls []) := by
  obtain ⟨hx, hb, hml, hr, hts, hown, hlocks⟩ := id X
  obtain ⟨f1, e1⟩ := hs.t
  obtain ⟨f2, e2⟩ := hs.m
  obtain ⟨r, Ψ, Φ, rT, rM, g1, g2, hT, hM, hE⟩ := pr_tension (l := l) (D := D) (cy := cy) (qT := qT) (qM := qM) (ar xs i 1) (ar xs i 2) (⟨(ar_rg xs i 1).1, (ar_rg xs i 1).2, ar_rg xs i 2⟩) wt wm hs
  refine lv_aload_n hx hb dL_law_270 rfl (lv_at hl 2 rfl) ?_
  refine lw_arg hx hb hX hbl hbA hS hl hi 1 (by decide) dL_law_271 dL_law_272 dL_law_273 dL_law_274 dL_law_275 ?_
  refine lw_arg hx hb hX hbl hbA hS hl hi 2 (by decide) dL_law_276 dL_law_277 dL_law_278 dL_law_279 dL_law_280 ?_
  refine z_callF (ci := 5) (q0 := 0) (As := [.int (iI (ar xs i 1)), .int (iI (ar xs i 2))]) (rest := []) X hK hP hP2 hD hap hA hS hl.1 gL_law_X5_tension rfl ⟨g1.1, g1.2.1⟩ hd_X5_tension (g1.R (Nat.le_of_ble_eq_true rfl)) rfl e1 rfl (Nat.le_of_ble_eq_true rfl) ⟨Nat.le_of_ble_eq_true rfl, Nat.le_of_ble_eq_true rfl⟩ rfl dL_law_281 hT (fun r9 w1 H locs hr9 hP hP2 hD hap hS => ?_)
  obtain ⟨er9, hΨ⟩ := hr9
  rw [er9]
  refine lv_aload_n hx hb dL_law_284 rfl (lv_at hl 1 rfl) ?_
  refine lw_arg hx hb hX hbl hbA hS hl hi 1 (by decide) dL_law_285 dL_law_286 dL_law_287 dL_law_288 dL_law_289 ?_
  refine lw_arg hx hb hX hbl hbA hS hl hi 2 (by decide) dL_law_290 dL_law_291 dL_law_292 dL_law_293 dL_law_294 ?_
  refine z_callF (ci := 6) (q0 := 0) (As := [.int (iI (ar xs i 1)), .int (iI (ar xs i 2))]) (rest := [.int (iI r)]) X hK hP2 hP hD2 hap.symm hA hS hl.1 gL_law_X6_tension rfl ⟨g2.1, g2.2.1⟩ hd_X6_tension (g2.R (Nat.le_of_ble_eq_true rfl)) rfl e2 rfl (Nat.le_of_ble_eq_true rfl) ⟨Nat.le_of_ble_eq_true rfl, Nat.le_of_ble_eq_true rfl⟩ rfl dL_law_295 hM (fun r8 w2 H locs hr8 hP2 hP hD2 hap hS => ?_)
  obtain ⟨er8, hΦ⟩ := hr8
  rw [er8]
  refine lv_icmp_eq (tgt := 1363) hx hb dL_law_298 (by decide) (fun _ => ?_) (fun q => absurd rfl q)
  exact kk w1 w2 H locs (hE w1 w2 hΨ hΦ) hP hP2 hD hD2 hap.symm hS
set_option maxHeartbeats 2000000 in
theorem law_c3 (X : Cx p s m meth c cL_law 4 (some .boolean) wsL_law RL #[.ref b]) (hX : va_X b L xs s s.heap) (hbl : b < s.heap.size) (hbA : ¬ A b) (hA : ∀ q, s.heap.size ≤ q → A q) (hK : va_K D vwCl [(cy, .int)] s) (hi : 0 ≤ i ∧ i + 5 ≤ L ∧ L ≤ 2560) (hl : lv_has ls 4 (lwL b (qT 0) (qM 0) i)) (hs : Sim qT qM cy wt wm) (hP : va_P D vwCl wt H) (hP2 : va_P D vwCl wm H) (hD : va_D A wt) (hD2 : va_D A wm) (hap : ap wt wm) (hS : va_S A s.heap H locs) (kk : ∀ (wt wm : va_W) (H : Heap) (locs : List Loc), Sim qT qM cy wt wm → va_P D vwCl wt H → va_P D vwCl wm H → va_D A wt → va_D A wm → ap wt wm → va_S A s.heap H locs → W p l e room_1 s m #[.ref b] below meth c H locs 35 3975 Q (F0 m 1363 ls [])) : W p l e room_1 s m #[.ref b] below meth c H locs 35 3975 Q (F0 m 303 ls []) := by
  obtain ⟨hx, hb, hml, hr, hts, hown, hlocks⟩ := id X
  obtain ⟨f1, e1⟩ := hs.t
  obtain ⟨f2, e2⟩ := hs.m
  obtain ⟨r, Ψ, Φ, rT, rM, g1, g2, hT, hM, hE⟩ := pr_bend (l := l) (D := D) (cy := cy) (qT := qT) (qM := qM) (ar xs i 1) (ar xs i 2) (⟨(ar_rg xs i 1).1, (ar_rg xs i 1).2, ar_rg xs i 2⟩) wt wm hs
  refine lv_aload_n hx hb dL_law_303 rfl (lv_at hl 2 rfl) ?_
  refine lw_arg hx hb hX hbl hbA hS hl hi 1 (by decide) dL_law_304 dL_law_305 dL_law_306 dL_law_307 dL_law_308 ?_
  refine lw_arg hx hb hX hbl hbA hS hl hi 2 (by decide) dL_law_309 dL_law_310 dL_law_311 dL_law_312 dL_law_313 ?_
  refine z_callF (ci := 5) (q0 := 0) (As := [.int (iI (ar xs i 1)), .int (iI (ar xs i 2))]) (rest := []) X hK hP hP2 hD hap hA hS hl.1 gL_law_X5_bend rfl ⟨g1.1, g1.2.1⟩ hd_X5_bend (g1.R (Nat.le_of_ble_eq_true rfl)) rfl e1 rfl (Nat.le_of_ble_eq_true rfl) ⟨Nat.le_of_ble_eq_true rfl, Nat.le_of_ble_eq_true rfl⟩ rfl dL_law_314 hT (fun r9 w1 H locs hr9 hP hP2 hD hap hS => ?_)
  obtain ⟨er9, hΨ⟩ := hr9
  rw [er9]
  refine lv_aload_n hx hb dL_law_317 rfl (lv_at hl 1 rfl) ?_
  refine lw_arg hx hb hX hbl hbA hS hl hi 1 (by decide) dL_law_318 dL_law_319 dL_law_320 dL_law_321 dL_law_322 ?_
  refine lw_arg hx hb hX hbl hbA hS hl hi 2 (by decide) dL_law_323 dL_law_324 dL_law_325 dL_law_326 dL_law_327 ?_
  refine z_callF (ci := 6) (q0 := 0) (As := [.int (iI (ar xs i 1)), .int (iI (ar xs i 2))]) (rest := [.int (iI r)]) X hK hP2 hP hD2 hap.symm hA hS hl.1 gL_law_X6_bend rfl ⟨g2.1, g2.2.1⟩ hd_X6_bend (g2.R (Nat.le_of_ble_eq_true rfl)) rfl e2 rfl (Nat.le_of_ble_eq_true rfl) ⟨Nat.le_of_ble_eq_true rfl, Nat.le_of_ble_eq_true rfl⟩ rfl dL_law_328 hM (fun r8 w2 H locs hr8 hP2 hP hD2 hap hS => ?_)
  obtain ⟨er8, hΦ⟩ := hr8
  rw [er8]
  refine lv_icmp_eq (tgt := 1363) hx hb dL_law_331 (by decide) (fun _ => ?_) (fun q => absurd rfl q)
  exact kk w1 w2 H locs (hE w1 w2 hΨ hΦ) hP hP2 hD hD2 hap.symm hS
set_option maxHeartbeats 2000000 in
theorem law_c4 (X : Cx p s m meth c cL_law 4 (some .boolean) wsL_law RL #[.ref b]) (hX : va_X b L xs s s.heap) (hbl : b < s.heap.size) (hbA : ¬ A b) (hA : ∀ q, s.heap.size ≤ q → A q) (hK : va_K D vwCl [(cy, .int)] s) (hi : 0 ≤ i ∧ i + 5 ≤ L ∧ L ≤ 2560) (hl : lv_has ls 4 (lwL b (qT 0) (qM 0) i)) (hs : Sim qT qM cy wt wm) (hP : va_P D vwCl wt H) (hP2 : va_P D vwCl wm H) (hD : va_D A wt) (hD2 : va_D A wm) (hap : ap wt wm) (hS : va_S A s.heap H locs) (kk : ∀ (wt wm : va_W) (H : Heap) (locs : List Loc), Sim qT qM cy wt wm → va_P D vwCl wt H → va_P D vwCl wm H → va_D A wt → va_D A wm → ap wt wm → va_S A s.heap H locs → W p l e room_1 s m #[.ref b] below meth c H locs 35 3975 Q (F0 m 1363 ls [])) : W p l e room_1 s m #[.ref b] below meth c H locs 35 3975 Q (F0 m 336 ls []) := by
  obtain ⟨hx, hb, hml, hr, hts, hown, hlocks⟩ := id X
  obtain ⟨f1, e1⟩ := hs.t
  obtain ⟨f2, e2⟩ := hs.m
  obtain ⟨r, Ψ, Φ, rT, rM, g1, g2, hT, hM, hE⟩ := pr_about (l := l) (D := D) (cy := cy) (qT := qT) (qM := qM) (ar xs i 1) (ar xs i 2) (⟨(ar_rg xs i 1).1, (ar_rg xs i 1).2, ar_rg xs i 2⟩) wt wm hs
  refine lv_aload_n hx hb dL_law_336 rfl (lv_at hl 2 rfl) ?_
  refine lw_arg hx hb hX hbl hbA hS hl hi 1 (by decide) dL_law_337 dL_law_338 dL_law_339 dL_law_340 dL_law_341 ?_
  refine lw_arg hx hb hX hbl hbA hS hl hi 2 (by decide) dL_law_342 dL_law_343 dL_law_344 dL_law_345 dL_law_346 ?_
  refine z_callF (ci := 5) (q0 := 0) (As := [.int (iI (ar xs i 1)), .int (iI (ar xs i 2))]) (rest := []) X hK hP hP2 hD hap hA hS hl.1 gL_law_X5_about rfl ⟨g1.1, g1.2.1⟩ hd_X5_about (g1.R (Nat.le_of_ble_eq_true rfl)) rfl e1 rfl (Nat.le_of_ble_eq_true rfl) ⟨Nat.le_of_ble_eq_true rfl, Nat.le_of_ble_eq_true rfl⟩ rfl dL_law_347 hT (fun r9 w1 H locs hr9 hP hP2 hD hap hS => ?_)
  obtain ⟨er9, hΨ⟩ := hr9
  rw [er9]
  refine lv_aload_n hx hb dL_law_350 rfl (lv_at hl 1 rfl) ?_
  refine lw_arg hx hb hX hbl hbA hS hl hi 1 (by decide) dL_law_351 dL_law_352 dL_law_353 dL_law_354 dL_law_355 ?_
  refine lw_arg hx hb hX hbl hbA hS hl hi 2 (by decide) dL_law_356 dL_law_357 dL_law_358 dL_law_359 dL_law_360 ?_
  refine z_callF (ci := 6) (q0 := 0) (As := [.int (iI (ar xs i 1)), .int (iI (ar xs i 2))]) (rest := [.int (iI r)]) X hK hP2 hP hD2 hap.symm hA hS hl.1 gL_law_X6_about rfl ⟨g2.1, g2.2.1⟩ hd_X6_about (g2.R (Nat.le_of_ble_eq_true rfl)) rfl e2 rfl (Nat.le_of_ble_eq_true rfl) ⟨Nat.le_of_ble_eq_true rfl, Nat.le_of_ble_eq_true rfl⟩ rfl dL_law_361 hM (fun r8 w2 H locs hr8 hP2 hP hD2 hap hS => ?_)
  obtain ⟨er8, hΦ⟩ := hr8
  rw [er8]
  refine lv_icmp_eq (tgt := 1363) hx hb dL_law_364 (by decide) (fun _ => ?_) (fun q => absurd rfl q)
  exact kk w1 w2 H locs (hE w1 w2 hΨ hΦ) hP hP2 hD hD2 hap.symm hS
set_option maxHeartbeats 2000000 in
theorem law_c5 (X : Cx p s m meth c cL_law 4 (some .boolean) wsL_law RL #[.ref b]) (hX : va_X b L xs s s.heap) (hbl : b < s.heap.size) (hbA : ¬ A b) (hA : ∀ q, s.heap.size ≤ q → A q) (hK : va_K D vwCl [(cy, .int)] s) (hi : 0 ≤ i ∧ i + 5 ≤ L ∧ L ≤ 2560) (hl : lv_has ls 4 (lwL b (qT 0) (qM 0) i)) (hs : Sim qT qM cy wt wm) (hP : va_P D vwCl wt H) (hP2 : va_P D vwCl wm H) (hD : va_D A wt) (hD2 : va_D A wm) (hap : ap wt wm) (hS : va_S A s.heap H locs) (kk : ∀ (wt wm : va_W) (H : Heap) (locs : List Loc), Sim qT qM cy wt wm → va_P D vwCl wt H → va_P D vwCl wm H → va_D A wt → va_D A wm → ap wt wm → va_S A s.heap H locs → W p l e room_1 s m #[.ref b] below meth c H locs 35 3975 Q (F0 m 1363 ls [])) : W p l e room_1 s m #[.ref b] below meth c H locs 35 3975 Q (F0 m 369 ls []) := by
  obtain ⟨hx, hb, hml, hr, hts, hown, hlocks⟩ := id X
  obtain ⟨f1, e1⟩ := hs.t
  obtain ⟨f2, e2⟩ := hs.m
  obtain ⟨r, Ψ, Φ, rT, rM, g1, g2, hT, hM, hE⟩ := pr_pressed (l := l) (D := D) (cy := cy) (qT := qT) (qM := qM) (ar xs i 1) (ar xs i 2) (⟨(ar_rg xs i 1).1, (ar_rg xs i 1).2, ar_rg xs i 2⟩) wt wm hs
  refine lv_aload_n hx hb dL_law_369 rfl (lv_at hl 2 rfl) ?_
  refine lw_arg hx hb hX hbl hbA hS hl hi 1 (by decide) dL_law_370 dL_law_371 dL_law_372 dL_law_373 dL_law_374 ?_
  refine lw_arg hx hb hX hbl hbA hS hl hi 2 (by decide) dL_law_375 dL_law_376 dL_law_377 dL_law_378 dL_law_379 ?_
  refine z_callF (ci := 5) (q0 := 0) (As := [.int (iI (ar xs i 1)), .int (iI (ar xs i 2))]) (rest := []) X hK hP hP2 hD hap hA hS hl.1 gL_law_X5_pressed rfl ⟨g1.1, g1.2.1⟩ hd_X5_pressed (g1.R (Nat.le_of_ble_eq_true rfl)) rfl e1 rfl (Nat.le_of_ble_eq_true rfl) ⟨Nat.le_of_ble_eq_true rfl, Nat.le_of_ble_eq_true rfl⟩ rfl dL_law_380 hT (fun r9 w1 H locs hr9 hP hP2 hD hap hS => ?_)
  obtain ⟨er9, hΨ⟩ := hr9
  rw [er9]
  refine lv_aload_n hx hb dL_law_383 rfl (lv_at hl 1 rfl) ?_
  refine lw_arg hx hb hX hbl hbA hS hl hi 1 (by decide) dL_law_384 dL_law_385 dL_law_386 dL_law_387 dL_law_388 ?_
  refine lw_arg hx hb hX hbl hbA hS hl hi 2 (by decide) dL_law_389 dL_law_390 dL_law_391 dL_law_392 dL_law_393 ?_
  refine z_callF (ci := 6) (q0 := 0) (As := [.int (iI (ar xs i 1)), .int (iI (ar xs i 2))]) (rest := [.int (iI r)]) X hK hP2 hP hD2 hap.symm hA hS hl.1 gL_law_X6_pressed rfl ⟨g2.1, g2.2.1⟩ hd_X6_pressed (g2.R (Nat.le_of_ble_eq_true rfl)) rfl e2 rfl (Nat.le_of_ble_eq_true rfl) ⟨Nat.le_of_ble_eq_true rfl, Nat.le_of_ble_eq_true rfl⟩ rfl dL_law_394 hM (fun r8 w2 H locs hr8 hP2 hP hD2 hap hS => ?_)
  obtain ⟨er8, hΦ⟩ := hr8
  rw [er8]
  refine lv_icmp_eq (tgt := 1363) hx hb dL_law_397 (by decide) (fun _ => ?_) (fun q => absurd rfl q)
  exact kk w1 w2 H locs (hE w1 w2 hΨ hΦ) hP hP2 hD hD2 hap.symm hS
set_option maxHeartbeats 2000000 in
theorem law_c6 (X : Cx p s m meth c cL_law 4 (some .boolean) wsL_law RL #[.ref b]) (hX : va_X b L xs s s.heap) (hbl : b < s.heap.size) (hbA : ¬ A b) (hA : ∀ q, s.heap.size ≤ q → A q) (hK : va_K D vwCl [(cy, .int)] s) (hi : 0 ≤ i ∧ i + 5 ≤ L ∧ L ≤ 2560) (hl : lv_has ls 4 (lwL b (qT 0) (qM 0) i)) (hs : Sim qT qM cy wt wm) (hP : va_P D vwCl wt H) (hP2 : va_P D vwCl wm H) (hD : va_D A wt) (hD2 : va_D A wm) (hap : ap wt wm) (hS : va_S A s.heap H locs) (kk : ∀ (wt wm : va_W) (H : Heap) (locs : List Loc), Sim qT qM cy wt wm → va_P D vwCl wt H → va_P D vwCl wm H → va_D A wt → va_D A wm → ap wt wm → va_S A s.heap H locs → W p l e room_1 s m #[.ref b] below meth c H locs 35 3975 Q (F0 m 1363 ls [])) : W p l e room_1 s m #[.ref b] below meth c H locs 35 3975 Q (F0 m 402 ls []) := by
  obtain ⟨hx, hb, hml, hr, hts, hown, hlocks⟩ := id X
  obtain ⟨f1, e1⟩ := hs.t
  obtain ⟨f2, e2⟩ := hs.m
  obtain ⟨r, Ψ, Φ, rT, rM, g1, g2, hT, hM, hE⟩ := pr_sharers (l := l) (D := D) (cy := cy) (qT := qT) (qM := qM) (ar xs i 1) (ar_rg xs i 1) wt wm hs
  refine lv_aload_n hx hb dL_law_402 rfl (lv_at hl 2 rfl) ?_
  refine lw_arg hx hb hX hbl hbA hS hl hi 1 (by decide) dL_law_403 dL_law_404 dL_law_405 dL_law_406 dL_law_407 ?_
  refine z_callF (ci := 5) (q0 := 0) (As := [.int (iI (ar xs i 1))]) (rest := []) X hK hP hP2 hD hap hA hS hl.1 gL_law_X5_sharers rfl ⟨g1.1, g1.2.1⟩ hd_X5_sharers (g1.R (Nat.le_of_ble_eq_true rfl)) rfl e1 rfl (Nat.le_of_ble_eq_true rfl) ⟨Nat.le_of_ble_eq_true rfl, Nat.le_of_ble_eq_true rfl⟩ rfl dL_law_408 hT (fun r9 w1 H locs hr9 hP hP2 hD hap hS => ?_)
  obtain ⟨er9, hΨ⟩ := hr9
  rw [er9]
  refine lv_aload_n hx hb dL_law_411 rfl (lv_at hl 1 rfl) ?_
  refine lw_arg hx hb hX hbl hbA hS hl hi 1 (by decide) dL_law_412 dL_law_413 dL_law_414 dL_law_415 dL_law_416 ?_
  refine z_callF (ci := 6) (q0 := 0) (As := [.int (iI (ar xs i 1))]) (rest := [.int (iI r)]) X hK hP2 hP hD2 hap.symm hA hS hl.1 gL_law_X6_sharers rfl ⟨g2.1, g2.2.1⟩ hd_X6_sharers (g2.R (Nat.le_of_ble_eq_true rfl)) rfl e2 rfl (Nat.le_of_ble_eq_true rfl) ⟨Nat.le_of_ble_eq_true rfl, Nat.le_of_ble_eq_true rfl⟩ rfl dL_law_417 hM (fun r8 w2 H locs hr8 hP2 hP hD2 hap hS => ?_)
  obtain ⟨er8, hΦ⟩ := hr8
  rw [er8]
  refine lv_icmp_eq (tgt := 1363) hx hb dL_law_420 (by decide) (fun _ => ?_) (fun q => absurd rfl q)
  exact kk w1 w2 H locs (hE w1 w2 hΨ hΦ) hP hP2 hD hD2 hap.symm hS
set_option maxHeartbeats 2000000 in
theorem law_c7 (X : Cx p s m meth c cL_law 4 (some .boolean) wsL_law RL #[.ref b]) (hX : va_X b L xs s s.heap) (hbl : b < s.heap.size) (hbA : ¬ A b) (hA : ∀ q, s.heap.size ≤ q → A q) (hK : va_K D vwCl [(cy, .int)] s) (hi : 0 ≤ i ∧ i + 5 ≤ L ∧ L ≤ 2560) (hl : lv_has ls 4 (lwL b (qT 0) (qM 0) i)) (hs : Sim qT qM cy wt wm) (hP : va_P D vwCl wt H) (hP2 : va_P D vwCl wm H) (hD : va_D A wt) (hD2 : va_D A wm) (hap : ap wt wm) (hS : va_S A s.heap H locs) (kk : ∀ (wt wm : va_W) (H : Heap) (locs : List Loc), Sim qT qM cy wt wm → va_P D vwCl wt H → va_P D vwCl wm H → va_D A wt → va_D A wm → ap wt wm → va_S A s.heap H locs → W p l e room_1 s m #[.ref b] below meth c H locs 35 3975 Q (F0 m 1363 ls [])) : W p l e room_1 s m #[.ref b] below meth c H locs 35 3975 Q (F0 m 425 ls []) := by
  obtain ⟨hx, hb, hml, hr, hts, hown, hlocks⟩ := id X
  obtain ⟨f1, e1⟩ := hs.t
  obtain ⟨f2, e2⟩ := hs.m
  obtain ⟨r, Ψ, Φ, rT, rM, g1, g2, hT, hM, hE⟩ := pr_order (l := l) (D := D) (cy := cy) (qT := qT) (qM := qM)   wt wm hs
  refine lv_aload_n hx hb dL_law_425 rfl (lv_at hl 2 rfl) ?_
  refine z_callF (ci := 5) (q0 := 0) (As := []) (rest := []) X hK hP hP2 hD hap hA hS hl.1 gL_law_X5_order rfl ⟨g1.1, g1.2.1⟩ hd_X5_order (g1.R (Nat.le_of_ble_eq_true rfl)) rfl e1 rfl (Nat.le_of_ble_eq_true rfl) ⟨Nat.le_of_ble_eq_true rfl, Nat.le_of_ble_eq_true rfl⟩ rfl dL_law_426 hT (fun r9 w1 H locs hr9 hP hP2 hD hap hS => ?_)
  obtain ⟨er9, hΨ⟩ := hr9
  rw [er9]
  refine lv_aload_n hx hb dL_law_429 rfl (lv_at hl 1 rfl) ?_
  refine z_callF (ci := 6) (q0 := 0) (As := []) (rest := [.int (iI r)]) X hK hP2 hP hD2 hap.symm hA hS hl.1 gL_law_X6_order rfl ⟨g2.1, g2.2.1⟩ hd_X6_order (g2.R (Nat.le_of_ble_eq_true rfl)) rfl e2 rfl (Nat.le_of_ble_eq_true rfl) ⟨Nat.le_of_ble_eq_true rfl, Nat.le_of_ble_eq_true rfl⟩ rfl dL_law_430 hM (fun r8 w2 H locs hr8 hP2 hP hD2 hap hS => ?_)
  obtain ⟨er8, hΦ⟩ := hr8
  rw [er8]
  refine lv_icmp_eq (tgt := 1363) hx hb dL_law_433 (by decide) (fun _ => ?_) (fun q => absurd rfl q)
  exact kk w1 w2 H locs (hE w1 w2 hΨ hΦ) hP hP2 hD hD2 hap.symm hS
set_option maxHeartbeats 2000000 in
theorem law_c8 (X : Cx p s m meth c cL_law 4 (some .boolean) wsL_law RL #[.ref b]) (hX : va_X b L xs s s.heap) (hbl : b < s.heap.size) (hbA : ¬ A b) (hA : ∀ q, s.heap.size ≤ q → A q) (hK : va_K D vwCl [(cy, .int)] s) (hi : 0 ≤ i ∧ i + 5 ≤ L ∧ L ≤ 2560) (hl : lv_has ls 4 (lwL b (qT 0) (qM 0) i)) (hs : Sim qT qM cy wt wm) (hP : va_P D vwCl wt H) (hP2 : va_P D vwCl wm H) (hD : va_D A wt) (hD2 : va_D A wm) (hap : ap wt wm) (hS : va_S A s.heap H locs) (kk : ∀ (wt wm : va_W) (H : Heap) (locs : List Loc), Sim qT qM cy wt wm → va_P D vwCl wt H → va_P D vwCl wm H → va_D A wt → va_D A wm → ap wt wm → va_S A s.heap H locs → W p l e room_1 s m #[.ref b] below meth c H locs 35 3975 Q (F0 m 1363 ls [])) : W p l e room_1 s m #[.ref b] below meth c H locs 35 3975 Q (F0 m 438 ls []) := by
  obtain ⟨hx, hb, hml, hr, hts, hown, hlocks⟩ := id X
  obtain ⟨f1, e1⟩ := hs.t
  obtain ⟨f2, e2⟩ := hs.m
  obtain ⟨r, Ψ, Φ, rT, rM, g1, g2, hT, hM, hE⟩ := pr_step (l := l) (D := D) (cy := cy) (qT := qT) (qM := qM) (ar xs i 1) (ar xs i 2) (ar xs i 3) (ar xs i 4) (⟨(ar_rg xs i 1).1, (ar_rg xs i 1).2, (ar_rg xs i 2).1, (ar_rg xs i 2).2, (ar_rg xs i 3).1, (ar_rg xs i 3).2, ar_rg xs i 4⟩) wt wm hs
  refine lv_aload_n hx hb dL_law_438 rfl (lv_at hl 2 rfl) ?_
  refine lw_arg hx hb hX hbl hbA hS hl hi 1 (by decide) dL_law_439 dL_law_440 dL_law_441 dL_law_442 dL_law_443 ?_
  refine lw_arg hx hb hX hbl hbA hS hl hi 2 (by decide) dL_law_444 dL_law_445 dL_law_446 dL_law_447 dL_law_448 ?_
  refine lw_arg hx hb hX hbl hbA hS hl hi 3 (by decide) dL_law_449 dL_law_450 dL_law_451 dL_law_452 dL_law_453 ?_
  refine lw_arg hx hb hX hbl hbA hS hl hi 4 (by decide) dL_law_454 dL_law_455 dL_law_456 dL_law_457 dL_law_458 ?_
  refine z_callF (ci := 5) (q0 := 0) (As := [.int (iI (ar xs i 1)), .int (iI (ar xs i 2)), .int (iI (ar xs i 3)), .int (iI (ar xs i 4))]) (rest := []) X hK hP hP2 hD hap hA hS hl.1 gL_law_X5_step rfl ⟨g1.1, g1.2.1⟩ hd_X5_step (g1.R (Nat.le_of_ble_eq_true rfl)) rfl e1 rfl (Nat.le_of_ble_eq_true rfl) ⟨Nat.le_of_ble_eq_true rfl, Nat.le_of_ble_eq_true rfl⟩ rfl dL_law_459 hT (fun r9 w1 H locs hr9 hP hP2 hD hap hS => ?_)
  obtain ⟨er9, hΨ⟩ := hr9
  rw [er9]
  refine lv_aload_n hx hb dL_law_462 rfl (lv_at hl 1 rfl) ?_
  refine lw_arg hx hb hX hbl hbA hS hl hi 1 (by decide) dL_law_463 dL_law_464 dL_law_465 dL_law_466 dL_law_467 ?_
  refine lw_arg hx hb hX hbl hbA hS hl hi 2 (by decide) dL_law_468 dL_law_469 dL_law_470 dL_law_471 dL_law_472 ?_
  refine lw_arg hx hb hX hbl hbA hS hl hi 3 (by decide) dL_law_473 dL_law_474 dL_law_475 dL_law_476 dL_law_477 ?_
  refine lw_arg hx hb hX hbl hbA hS hl hi 4 (by decide) dL_law_478 dL_law_479 dL_law_480 dL_law_481 dL_law_482 ?_
  refine z_callF (ci := 6) (q0 := 0) (As := [.int (iI (ar xs i 1)), .int (iI (ar xs i 2)), .int (iI (ar xs i 3)), .int (iI (ar xs i 4))]) (rest := [.int (iI r)]) X hK hP2 hP hD2 hap.symm hA hS hl.1 gL_law_X6_step rfl ⟨g2.1, g2.2.1⟩ hd_X6_step (g2.R (Nat.le_of_ble_eq_true rfl)) rfl e2 rfl (Nat.le_of_ble_eq_true rfl) ⟨Nat.le_of_ble_eq_true rfl, Nat.le_of_ble_eq_true rfl⟩ rfl dL_law_483 hM (fun r8 w2 H locs hr8 hP2 hP hD2 hap hS => ?_)
  obtain ⟨er8, hΦ⟩ := hr8
  rw [er8]
  refine lv_icmp_eq (tgt := 1363) hx hb dL_law_486 (by decide) (fun _ => ?_) (fun q => absurd rfl q)
  exact kk w1 w2 H locs (hE w1 w2 hΨ hΦ) hP hP2 hD hD2 hap.symm hS
set_option maxHeartbeats 2000000 in
theorem law_c9 (X : Cx p s m meth c cL_law 4 (some .boolean) wsL_law RL #[.ref b]) (hX : va_X b L xs s s.heap) (hbl : b < s.heap.size) (hbA : ¬ A b) (hA : ∀ q, s.heap.size ≤ q → A q) (hK : va_K D vwCl [(cy, .int)] s) (hi : 0 ≤ i ∧ i + 5 ≤ L ∧ L ≤ 2560) (hl : lv_has ls 4 (lwL b (qT 0) (qM 0) i)) (hs : Sim qT qM cy wt wm) (hP : va_P D vwCl wt H) (hP2 : va_P D vwCl wm H) (hD : va_D A wt) (hD2 : va_D A wm) (hap : ap wt wm) (hS : va_S A s.heap H locs) (kk : ∀ (wt wm : va_W) (H : Heap) (locs : List Loc), Sim qT qM cy wt wm → va_P D vwCl wt H → va_P D vwCl wm H → va_D A wt → va_D A wm → ap wt wm → va_S A s.heap H locs → W p l e room_1 s m #[.ref b] below meth c H locs 35 3975 Q (F0 m 1363 ls [])) : W p l e room_1 s m #[.ref b] below meth c H locs 35 3975 Q (F0 m 491 ls []) := by
  obtain ⟨hx, hb, hml, hr, hts, hown, hlocks⟩ := id X
  obtain ⟨f1, e1⟩ := hs.t
  obtain ⟨f2, e2⟩ := hs.m
  obtain ⟨r, Ψ, Φ, rT, rM, g1, g2, hT, hM, hE⟩ := pr_share (l := l) (D := D) (cy := cy) (qT := qT) (qM := qM) (ar xs i 1) (ar xs i 2) (decide (ar xs i 3 ≠ 0)) (⟨(ar_rg xs i 1).1, (ar_rg xs i 1).2, ar_rg xs i 2⟩) wt wm hs
  refine lv_aload_n hx hb dL_law_491 rfl (lv_at hl 2 rfl) ?_
  refine lw_arg hx hb hX hbl hbA hS hl hi 1 (by decide) dL_law_492 dL_law_493 dL_law_494 dL_law_495 dL_law_496 ?_
  refine lw_arg hx hb hX hbl hbA hS hl hi 2 (by decide) dL_law_497 dL_law_498 dL_law_499 dL_law_500 dL_law_501 ?_
  refine lw_argb hx hb hX hbl hbA hS hl hi 3 (by decide) dL_law_502 dL_law_503 dL_law_504 dL_law_505 dL_law_506 dL_law_507 dL_law_510 dL_law_511 dL_law_514 ?_
  refine z_callF (ci := 5) (q0 := 0) (As := [.int (iI (ar xs i 1)), .int (iI (ar xs i 2)), .int (iI (bZ (decide (ar xs i 3 ≠ 0))))]) (rest := []) X hK hP hP2 hD hap hA hS hl.1 gL_law_X5_share rfl ⟨g1.1, g1.2.1⟩ hd_X5_share (g1.R (Nat.le_of_ble_eq_true rfl)) rfl e1 rfl (Nat.le_of_ble_eq_true rfl) ⟨Nat.le_of_ble_eq_true rfl, Nat.le_of_ble_eq_true rfl⟩ rfl dL_law_515 hT (fun r9 w1 H locs hr9 hP hP2 hD hap hS => ?_)
  obtain ⟨er9, hΨ⟩ := hr9
  rw [er9]
  refine lv_aload_n hx hb dL_law_518 rfl (lv_at hl 1 rfl) ?_
  refine lw_arg hx hb hX hbl hbA hS hl hi 1 (by decide) dL_law_519 dL_law_520 dL_law_521 dL_law_522 dL_law_523 ?_
  refine lw_arg hx hb hX hbl hbA hS hl hi 2 (by decide) dL_law_524 dL_law_525 dL_law_526 dL_law_527 dL_law_528 ?_
  refine lw_argb hx hb hX hbl hbA hS hl hi 3 (by decide) dL_law_529 dL_law_530 dL_law_531 dL_law_532 dL_law_533 dL_law_534 dL_law_537 dL_law_538 dL_law_541 ?_
  refine z_callF (ci := 6) (q0 := 0) (As := [.int (iI (ar xs i 1)), .int (iI (ar xs i 2)), .int (iI (bZ (decide (ar xs i 3 ≠ 0))))]) (rest := [.int (iI r)]) X hK hP2 hP hD2 hap.symm hA hS hl.1 gL_law_X6_share rfl ⟨g2.1, g2.2.1⟩ hd_X6_share (g2.R (Nat.le_of_ble_eq_true rfl)) rfl e2 rfl (Nat.le_of_ble_eq_true rfl) ⟨Nat.le_of_ble_eq_true rfl, Nat.le_of_ble_eq_true rfl⟩ rfl dL_law_542 hM (fun r8 w2 H locs hr8 hP2 hP hD2 hap hS => ?_)
  obtain ⟨er8, hΦ⟩ := hr8
  rw [er8]
  refine lv_icmp_eq (tgt := 1363) hx hb dL_law_545 (by decide) (fun _ => ?_) (fun q => absurd rfl q)
  exact kk w1 w2 H locs (hE w1 w2 hΨ hΦ) hP hP2 hD hD2 hap.symm hS
set_option maxHeartbeats 2000000 in
theorem law_c10 (X : Cx p s m meth c cL_law 4 (some .boolean) wsL_law RL #[.ref b]) (hX : va_X b L xs s s.heap) (hbl : b < s.heap.size) (hbA : ¬ A b) (hA : ∀ q, s.heap.size ≤ q → A q) (hK : va_K D vwCl [(cy, .int)] s) (hi : 0 ≤ i ∧ i + 5 ≤ L ∧ L ≤ 2560) (hl : lv_has ls 4 (lwL b (qT 0) (qM 0) i)) (hs : Sim qT qM cy wt wm) (hP : va_P D vwCl wt H) (hP2 : va_P D vwCl wm H) (hD : va_D A wt) (hD2 : va_D A wm) (hap : ap wt wm) (hS : va_S A s.heap H locs) (kk : ∀ (wt wm : va_W) (H : Heap) (locs : List Loc), Sim qT qM cy wt wm → va_P D vwCl wt H → va_P D vwCl wm H → va_D A wt → va_D A wm → ap wt wm → va_S A s.heap H locs → W p l e room_1 s m #[.ref b] below meth c H locs 35 3975 Q (F0 m 1363 ls [])) : W p l e room_1 s m #[.ref b] below meth c H locs 35 3975 Q (F0 m 550 ls []) := by
  obtain ⟨hx, hb, hml, hr, hts, hown, hlocks⟩ := id X
  obtain ⟨f1, e1⟩ := hs.t
  obtain ⟨f2, e2⟩ := hs.m
  obtain ⟨r, Ψ, Φ, rT, rM, g1, g2, hT, hM, hE⟩ := pr_use (l := l) (D := D) (cy := cy) (qT := qT) (qM := qM) (ar xs i 1) (ar_rg xs i 1) wt wm hs
  refine lv_aload_n hx hb dL_law_550 rfl (lv_at hl 2 rfl) ?_
  refine lw_arg hx hb hX hbl hbA hS hl hi 1 (by decide) dL_law_551 dL_law_552 dL_law_553 dL_law_554 dL_law_555 ?_
  refine z_callF (ci := 5) (q0 := 0) (As := [.int (iI (ar xs i 1))]) (rest := []) X hK hP hP2 hD hap hA hS hl.1 gL_law_X5_use rfl ⟨g1.1, g1.2.1⟩ hd_X5_use (g1.R (Nat.le_of_ble_eq_true rfl)) rfl e1 rfl (Nat.le_of_ble_eq_true rfl) ⟨Nat.le_of_ble_eq_true rfl, Nat.le_of_ble_eq_true rfl⟩ rfl dL_law_556 hT (fun r9 w1 H locs hr9 hP hP2 hD hap hS => ?_)
  obtain ⟨er9, hΨ⟩ := hr9
  rw [er9]
  refine lv_aload_n hx hb dL_law_559 rfl (lv_at hl 1 rfl) ?_
  refine lw_arg hx hb hX hbl hbA hS hl hi 1 (by decide) dL_law_560 dL_law_561 dL_law_562 dL_law_563 dL_law_564 ?_
  refine z_callF (ci := 6) (q0 := 0) (As := [.int (iI (ar xs i 1))]) (rest := [.int (iI r)]) X hK hP2 hP hD2 hap.symm hA hS hl.1 gL_law_X6_use rfl ⟨g2.1, g2.2.1⟩ hd_X6_use (g2.R (Nat.le_of_ble_eq_true rfl)) rfl e2 rfl (Nat.le_of_ble_eq_true rfl) ⟨Nat.le_of_ble_eq_true rfl, Nat.le_of_ble_eq_true rfl⟩ rfl dL_law_565 hM (fun r8 w2 H locs hr8 hP2 hP hD2 hap hS => ?_)
  obtain ⟨er8, hΦ⟩ := hr8
  rw [er8]
  refine lv_icmp_eq (tgt := 1363) hx hb dL_law_568 (by decide) (fun _ => ?_) (fun q => absurd rfl q)
  exact kk w1 w2 H locs (hE w1 w2 hΨ hΦ) hP hP2 hD hD2 hap.symm hS
set_option maxHeartbeats 2000000 in
theorem law_c11 (X : Cx p s m meth c cL_law 4 (some .boolean) wsL_law RL #[.ref b]) (hX : va_X b L xs s s.heap) (hbl : b < s.heap.size) (hbA : ¬ A b) (hA : ∀ q, s.heap.size ≤ q → A q) (hK : va_K D vwCl [(cy, .int)] s) (hi : 0 ≤ i ∧ i + 5 ≤ L ∧ L ≤ 2560) (hl : lv_has ls 4 (lwL b (qT 0) (qM 0) i)) (hs : Sim qT qM cy wt wm) (hP : va_P D vwCl wt H) (hP2 : va_P D vwCl wm H) (hD : va_D A wt) (hD2 : va_D A wm) (hap : ap wt wm) (hS : va_S A s.heap H locs) (kk : ∀ (wt wm : va_W) (H : Heap) (locs : List Loc), Sim qT qM cy wt wm → va_P D vwCl wt H → va_P D vwCl wm H → va_D A wt → va_D A wm → ap wt wm → va_S A s.heap H locs → W p l e room_1 s m #[.ref b] below meth c H locs 35 3975 Q (F0 m 1363 ls [])) : W p l e room_1 s m #[.ref b] below meth c H locs 35 3975 Q (F0 m 573 ls []) := by
  obtain ⟨hx, hb, hml, hr, hts, hown, hlocks⟩ := id X
  obtain ⟨f1, e1⟩ := hs.t
  obtain ⟨f2, e2⟩ := hs.m
  obtain ⟨r, Ψ, Φ, rT, rM, g1, g2, hT, hM, hE⟩ := pr_pitch (l := l) (D := D) (cy := cy) (qT := qT) (qM := qM) (ar xs i 1) (ar_rg xs i 1) wt wm hs
  refine lv_aload_n hx hb dL_law_573 rfl (lv_at hl 2 rfl) ?_
  refine lw_arg hx hb hX hbl hbA hS hl hi 1 (by decide) dL_law_574 dL_law_575 dL_law_576 dL_law_577 dL_law_578 ?_
  refine z_callF (ci := 5) (q0 := 0) (As := [.int (iI (ar xs i 1))]) (rest := []) X hK hP hP2 hD hap hA hS hl.1 gL_law_X5_pitch rfl ⟨g1.1, g1.2.1⟩ hd_X5_pitch (g1.R (Nat.le_of_ble_eq_true rfl)) rfl e1 rfl (Nat.le_of_ble_eq_true rfl) ⟨Nat.le_of_ble_eq_true rfl, Nat.le_of_ble_eq_true rfl⟩ rfl dL_law_579 hT (fun r9 w1 H locs hr9 hP hP2 hD hap hS => ?_)
  obtain ⟨er9, hΨ⟩ := hr9
  rw [er9]
  refine lv_aload_n hx hb dL_law_582 rfl (lv_at hl 1 rfl) ?_
  refine lw_arg hx hb hX hbl hbA hS hl hi 1 (by decide) dL_law_583 dL_law_584 dL_law_585 dL_law_586 dL_law_587 ?_
  refine z_callF (ci := 6) (q0 := 0) (As := [.int (iI (ar xs i 1))]) (rest := [.int (iI r)]) X hK hP2 hP hD2 hap.symm hA hS hl.1 gL_law_X6_pitch rfl ⟨g2.1, g2.2.1⟩ hd_X6_pitch (g2.R (Nat.le_of_ble_eq_true rfl)) rfl e2 rfl (Nat.le_of_ble_eq_true rfl) ⟨Nat.le_of_ble_eq_true rfl, Nat.le_of_ble_eq_true rfl⟩ rfl dL_law_588 hM (fun r8 w2 H locs hr8 hP2 hP hD2 hap hS => ?_)
  obtain ⟨er8, hΦ⟩ := hr8
  rw [er8]
  refine lv_icmp_eq (tgt := 1363) hx hb dL_law_591 (by decide) (fun _ => ?_) (fun q => absurd rfl q)
  exact kk w1 w2 H locs (hE w1 w2 hΨ hΦ) hP hP2 hD hD2 hap.symm hS
set_option maxHeartbeats 2000000 in
theorem law_c12 (X : Cx p s m meth c cL_law 4 (some .boolean) wsL_law RL #[.ref b]) (hX : va_X b L xs s s.heap) (hbl : b < s.heap.size) (hbA : ¬ A b) (hA : ∀ q, s.heap.size ≤ q → A q) (hK : va_K D vwCl [(cy, .int)] s) (hi : 0 ≤ i ∧ i + 5 ≤ L ∧ L ≤ 2560) (hl : lv_has ls 4 (lwL b (qT 0) (qM 0) i)) (hs : Sim qT qM cy wt wm) (hP : va_P D vwCl wt H) (hP2 : va_P D vwCl wm H) (hD : va_D A wt) (hD2 : va_D A wm) (hap : ap wt wm) (hS : va_S A s.heap H locs) (kk : ∀ (wt wm : va_W) (H : Heap) (locs : List Loc), Sim qT qM cy wt wm → va_P D vwCl wt H → va_P D vwCl wm H → va_D A wt → va_D A wm → ap wt wm → va_S A s.heap H locs → W p l e room_1 s m #[.ref b] below meth c H locs 35 3975 Q (F0 m 1363 ls [])) : W p l e room_1 s m #[.ref b] below meth c H locs 35 3975 Q (F0 m 596 ls []) := by
  obtain ⟨hx, hb, hml, hr, hts, hown, hlocks⟩ := id X
  obtain ⟨f1, e1⟩ := hs.t
  obtain ⟨f2, e2⟩ := hs.m
  obtain ⟨r, Ψ, Φ, rT, rM, g1, g2, hT, hM, hE⟩ := pr_wrong (l := l) (D := D) (cy := cy) (qT := qT) (qM := qM)   wt wm hs
  refine lv_aload_n hx hb dL_law_596 rfl (lv_at hl 2 rfl) ?_
  refine z_callF (ci := 5) (q0 := 0) (As := []) (rest := []) X hK hP hP2 hD hap hA hS hl.1 gL_law_X5_wrong rfl ⟨g1.1, g1.2.1⟩ hd_X5_wrong (g1.R (Nat.le_of_ble_eq_true rfl)) rfl e1 rfl (Nat.le_of_ble_eq_true rfl) ⟨Nat.le_of_ble_eq_true rfl, Nat.le_of_ble_eq_true rfl⟩ rfl dL_law_597 hT (fun r9 w1 H locs hr9 hP hP2 hD hap hS => ?_)
  obtain ⟨er9, hΨ⟩ := hr9
  rw [er9]
  refine lv_aload_n hx hb dL_law_600 rfl (lv_at hl 1 rfl) ?_
  refine z_callF (ci := 6) (q0 := 0) (As := []) (rest := [.int (iI r)]) X hK hP2 hP hD2 hap.symm hA hS hl.1 gL_law_X6_wrong rfl ⟨g2.1, g2.2.1⟩ hd_X6_wrong (g2.R (Nat.le_of_ble_eq_true rfl)) rfl e2 rfl (Nat.le_of_ble_eq_true rfl) ⟨Nat.le_of_ble_eq_true rfl, Nat.le_of_ble_eq_true rfl⟩ rfl dL_law_601 hM (fun r8 w2 H locs hr8 hP2 hP hD2 hap hS => ?_)
  obtain ⟨er8, hΦ⟩ := hr8
  rw [er8]
  refine lv_icmp_eq (tgt := 1363) hx hb dL_law_604 (by decide) (fun _ => ?_) (fun q => absurd rfl q)
  exact kk w1 w2 H locs (hE w1 w2 hΨ hΦ) hP hP2 hD hD2 hap.symm hS
set_option maxHeartbeats 2000000 in
theorem law_c13 (X : Cx p s m meth c cL_law 4 (some .boolean) wsL_law RL #[.ref b]) (hX : va_X b L xs s s.heap) (hbl : b < s.heap.size) (hbA : ¬ A b) (hA : ∀ q, s.heap.size ≤ q → A q) (hK : va_K D vwCl [(cy, .int)] s) (hi : 0 ≤ i ∧ i + 5 ≤ L ∧ L ≤ 2560) (hl : lv_has ls 4 (lwL b (qT 0) (qM 0) i)) (hs : Sim qT qM cy wt wm) (hP : va_P D vwCl wt H) (hP2 : va_P D vwCl wm H) (hD : va_D A wt) (hD2 : va_D A wm) (hap : ap wt wm) (hS : va_S A s.heap H locs) (kk : ∀ (wt wm : va_W) (H : Heap) (locs : List Loc), Sim qT qM cy wt wm → va_P D vwCl wt H → va_P D vwCl wm H → va_D A wt → va_D A wm → ap wt wm → va_S A s.heap H locs → W p l e room_1 s m #[.ref b] below meth c H locs 35 3975 Q (F0 m 1363 ls [])) : W p l e room_1 s m #[.ref b] below meth c H locs 35 3975 Q (F0 m 609 ls []) := by
  obtain ⟨hx, hb, hml, hr, hts, hown, hlocks⟩ := id X
  obtain ⟨f1, e1⟩ := hs.t
  obtain ⟨f2, e2⟩ := hs.m
  obtain ⟨r, Ψ, Φ, rT, rM, g1, g2, hT, hM, hE⟩ := pr_tune (l := l) (D := D) (cy := cy) (qT := qT) (qM := qM) (ar xs i 1) (ar_rg xs i 1) wt wm hs
  refine lv_aload_n hx hb dL_law_609 rfl (lv_at hl 2 rfl) ?_
  refine lw_arg hx hb hX hbl hbA hS hl hi 1 (by decide) dL_law_610 dL_law_611 dL_law_612 dL_law_613 dL_law_614 ?_
  refine z_callF (ci := 5) (q0 := 0) (As := [.int (iI (ar xs i 1))]) (rest := []) X hK hP hP2 hD hap hA hS hl.1 gL_law_X5_tune rfl ⟨g1.1, g1.2.1⟩ hd_X5_tune (g1.R (Nat.le_of_ble_eq_true rfl)) rfl e1 rfl (Nat.le_of_ble_eq_true rfl) ⟨Nat.le_of_ble_eq_true rfl, Nat.le_of_ble_eq_true rfl⟩ rfl dL_law_615 hT (fun r9 w1 H locs hr9 hP hP2 hD hap hS => ?_)
  obtain ⟨er9, hΨ⟩ := hr9
  rw [er9]
  refine lv_aload_n hx hb dL_law_618 rfl (lv_at hl 1 rfl) ?_
  refine lw_arg hx hb hX hbl hbA hS hl hi 1 (by decide) dL_law_619 dL_law_620 dL_law_621 dL_law_622 dL_law_623 ?_
  refine z_callF (ci := 6) (q0 := 0) (As := [.int (iI (ar xs i 1))]) (rest := [.int (iI r)]) X hK hP2 hP hD2 hap.symm hA hS hl.1 gL_law_X6_tune rfl ⟨g2.1, g2.2.1⟩ hd_X6_tune (g2.R (Nat.le_of_ble_eq_true rfl)) rfl e2 rfl (Nat.le_of_ble_eq_true rfl) ⟨Nat.le_of_ble_eq_true rfl, Nat.le_of_ble_eq_true rfl⟩ rfl dL_law_624 hM (fun r8 w2 H locs hr8 hP2 hP hD2 hap hS => ?_)
  obtain ⟨er8, hΦ⟩ := hr8
  rw [er8]
  refine lv_icmp_eq (tgt := 1363) hx hb dL_law_627 (by decide) (fun _ => ?_) (fun q => absurd rfl q)
  exact kk w1 w2 H locs (hE w1 w2 hΨ hΦ) hP hP2 hD hD2 hap.symm hS
set_option maxHeartbeats 2000000 in
theorem law_c14 (X : Cx p s m meth c cL_law 4 (some .boolean) wsL_law RL #[.ref b]) (hX : va_X b L xs s s.heap) (hbl : b < s.heap.size) (hbA : ¬ A b) (hA : ∀ q, s.heap.size ≤ q → A q) (hK : va_K D vwCl [(cy, .int)] s) (hi : 0 ≤ i ∧ i + 5 ≤ L ∧ L ≤ 2560) (hl : lv_has ls 4 (lwL b (qT 0) (qM 0) i)) (hs : Sim qT qM cy wt wm) (hP : va_P D vwCl wt H) (hP2 : va_P D vwCl wm H) (hD : va_D A wt) (hD2 : va_D A wm) (hap : ap wt wm) (hS : va_S A s.heap H locs) (kk : ∀ (wt wm : va_W) (H : Heap) (locs : List Loc), Sim qT qM cy wt wm → va_P D vwCl wt H → va_P D vwCl wm H → va_D A wt → va_D A wm → ap wt wm → va_S A s.heap H locs → W p l e room_1 s m #[.ref b] below meth c H locs 35 3975 Q (F0 m 1363 ls [])) : W p l e room_1 s m #[.ref b] below meth c H locs 35 3975 Q (F0 m 632 ls []) := by
  obtain ⟨hx, hb, hml, hr, hts, hown, hlocks⟩ := id X
  obtain ⟨f1, e1⟩ := hs.t
  obtain ⟨f2, e2⟩ := hs.m
  obtain ⟨r, Ψ, Φ, rT, rM, g1, g2, hT, hM, hE⟩ := pr_tuneAll (l := l) (D := D) (cy := cy) (qT := qT) (qM := qM)   wt wm hs
  refine lv_aload_n hx hb dL_law_632 rfl (lv_at hl 2 rfl) ?_
  refine z_callF (ci := 5) (q0 := 0) (As := []) (rest := []) X hK hP hP2 hD hap hA hS hl.1 gL_law_X5_tuneAll rfl ⟨g1.1, g1.2.1⟩ hd_X5_tuneAll (g1.R (Nat.le_of_ble_eq_true rfl)) rfl e1 rfl (Nat.le_of_ble_eq_true rfl) ⟨Nat.le_of_ble_eq_true rfl, Nat.le_of_ble_eq_true rfl⟩ rfl dL_law_633 hT (fun r9 w1 H locs hr9 hP hP2 hD hap hS => ?_)
  obtain ⟨er9, hΨ⟩ := hr9
  rw [er9]
  refine lv_aload_n hx hb dL_law_636 rfl (lv_at hl 1 rfl) ?_
  refine z_callF (ci := 6) (q0 := 0) (As := []) (rest := [.int (iI r)]) X hK hP2 hP hD2 hap.symm hA hS hl.1 gL_law_X6_tuneAll rfl ⟨g2.1, g2.2.1⟩ hd_X6_tuneAll (g2.R (Nat.le_of_ble_eq_true rfl)) rfl e2 rfl (Nat.le_of_ble_eq_true rfl) ⟨Nat.le_of_ble_eq_true rfl, Nat.le_of_ble_eq_true rfl⟩ rfl dL_law_637 hM (fun r8 w2 H locs hr8 hP2 hP hD2 hap hS => ?_)
  obtain ⟨er8, hΦ⟩ := hr8
  rw [er8]
  refine lv_icmp_eq (tgt := 1363) hx hb dL_law_640 (by decide) (fun _ => ?_) (fun q => absurd rfl q)
  exact kk w1 w2 H locs (hE w1 w2 hΨ hΦ) hP hP2 hD hD2 hap.symm hS
set_option maxHeartbeats 2000000 in
theorem law_c15 (X : Cx p s m meth c cL_law 4 (some .boolean) wsL_law RL #[.ref b]) (hX : va_X b L xs s s.heap) (hbl : b < s.heap.size) (hbA : ¬ A b) (hA : ∀ q, s.heap.size ≤ q → A q) (hK : va_K D vwCl [(cy, .int)] s) (hi : 0 ≤ i ∧ i + 5 ≤ L ∧ L ≤ 2560) (hl : lv_has ls 4 (lwL b (qT 0) (qM 0) i)) (hs : Sim qT qM cy wt wm) (hP : va_P D vwCl wt H) (hP2 : va_P D vwCl wm H) (hD : va_D A wt) (hD2 : va_D A wm) (hap : ap wt wm) (hS : va_S A s.heap H locs) (kk : ∀ (wt wm : va_W) (H : Heap) (locs : List Loc), Sim qT qM cy wt wm → va_P D vwCl wt H → va_P D vwCl wm H → va_D A wt → va_D A wm → ap wt wm → va_S A s.heap H locs → W p l e room_1 s m #[.ref b] below meth c H locs 35 3975 Q (F0 m 1363 ls [])) : W p l e room_1 s m #[.ref b] below meth c H locs 35 3975 Q (F0 m 645 ls []) := by
  obtain ⟨hx, hb, hml, hr, hts, hown, hlocks⟩ := id X
  obtain ⟨f1, e1⟩ := hs.t
  obtain ⟨f2, e2⟩ := hs.m
  obtain ⟨r, Ψ, Φ, rT, rM, g1, g2, hT, hM, hE⟩ := pr_worst (l := l) (D := D) (cy := cy) (qT := qT) (qM := qM)   wt wm hs
  refine lv_aload_n hx hb dL_law_645 rfl (lv_at hl 2 rfl) ?_
  refine z_callF (ci := 5) (q0 := 0) (As := []) (rest := []) X hK hP hP2 hD hap hA hS hl.1 gL_law_X5_worst rfl ⟨g1.1, g1.2.1⟩ hd_X5_worst (g1.R (Nat.le_of_ble_eq_true rfl)) rfl e1 rfl (Nat.le_of_ble_eq_true rfl) ⟨Nat.le_of_ble_eq_true rfl, Nat.le_of_ble_eq_true rfl⟩ rfl dL_law_646 hT (fun r9 w1 H locs hr9 hP hP2 hD hap hS => ?_)
  obtain ⟨er9, hΨ⟩ := hr9
  rw [er9]
  refine lv_aload_n hx hb dL_law_649 rfl (lv_at hl 1 rfl) ?_
  refine z_callF (ci := 6) (q0 := 0) (As := []) (rest := [.int (iI r)]) X hK hP2 hP hD2 hap.symm hA hS hl.1 gL_law_X6_worst rfl ⟨g2.1, g2.2.1⟩ hd_X6_worst (g2.R (Nat.le_of_ble_eq_true rfl)) rfl e2 rfl (Nat.le_of_ble_eq_true rfl) ⟨Nat.le_of_ble_eq_true rfl, Nat.le_of_ble_eq_true rfl⟩ rfl dL_law_650 hM (fun r8 w2 H locs hr8 hP2 hP hD2 hap hS => ?_)
  obtain ⟨er8, hΦ⟩ := hr8
  rw [er8]
  refine lv_icmp_eq (tgt := 1363) hx hb dL_law_653 (by decide) (fun _ => ?_) (fun q => absurd rfl q)
  exact kk w1 w2 H locs (hE w1 w2 hΨ hΦ) hP hP2 hD hD2 hap.symm hS
set_option maxHeartbeats 2000000 in
theorem law_c16 (X : Cx p s m meth c cL_law 4 (some .boolean) wsL_law RL #[.ref b]) (hX : va_X b L xs s s.heap) (hbl : b < s.heap.size) (hbA : ¬ A b) (hA : ∀ q, s.heap.size ≤ q → A q) (hK : va_K D vwCl [(cy, .int)] s) (hi : 0 ≤ i ∧ i + 5 ≤ L ∧ L ≤ 2560) (hl : lv_has ls 4 (lwL b (qT 0) (qM 0) i)) (hs : Sim qT qM cy wt wm) (hP : va_P D vwCl wt H) (hP2 : va_P D vwCl wm H) (hD : va_D A wt) (hD2 : va_D A wm) (hap : ap wt wm) (hS : va_S A s.heap H locs) (kk : ∀ (wt wm : va_W) (H : Heap) (locs : List Loc), Sim qT qM cy wt wm → va_P D vwCl wt H → va_P D vwCl wm H → va_D A wt → va_D A wm → ap wt wm → va_S A s.heap H locs → W p l e room_1 s m #[.ref b] below meth c H locs 35 3975 Q (F0 m 1363 ls [])) : W p l e room_1 s m #[.ref b] below meth c H locs 35 3975 Q (F0 m 658 ls []) := by
  obtain ⟨hx, hb, hml, hr, hts, hown, hlocks⟩ := id X
  obtain ⟨f1, e1⟩ := hs.t
  obtain ⟨f2, e2⟩ := hs.m
  obtain ⟨r, Ψ, Φ, rT, rM, g1, g2, hT, hM, hE⟩ := pr_note (l := l) (D := D) (cy := cy) (qT := qT) (qM := qM) (ar xs i 1) (ar xs i 2) (ar xs i 3) (ar xs i 4) (⟨(ar_rg xs i 1).1, (ar_rg xs i 1).2, (ar_rg xs i 2).1, (ar_rg xs i 2).2, (ar_rg xs i 3).1, (ar_rg xs i 3).2, ar_rg xs i 4⟩) wt wm hs
  refine lv_aload_n hx hb dL_law_658 rfl (lv_at hl 2 rfl) ?_
  refine lw_arg hx hb hX hbl hbA hS hl hi 1 (by decide) dL_law_659 dL_law_660 dL_law_661 dL_law_662 dL_law_663 ?_
  refine lw_arg hx hb hX hbl hbA hS hl hi 2 (by decide) dL_law_664 dL_law_665 dL_law_666 dL_law_667 dL_law_668 ?_
  refine lw_arg hx hb hX hbl hbA hS hl hi 3 (by decide) dL_law_669 dL_law_670 dL_law_671 dL_law_672 dL_law_673 ?_
  refine lw_arg hx hb hX hbl hbA hS hl hi 4 (by decide) dL_law_674 dL_law_675 dL_law_676 dL_law_677 dL_law_678 ?_
  refine z_callF (ci := 5) (q0 := 0) (As := [.int (iI (ar xs i 1)), .int (iI (ar xs i 2)), .int (iI (ar xs i 3)), .int (iI (ar xs i 4))]) (rest := []) X hK hP hP2 hD hap hA hS hl.1 gL_law_X5_note rfl ⟨g1.1, g1.2.1⟩ hd_X5_note (g1.R (Nat.le_of_ble_eq_true rfl)) rfl e1 rfl (Nat.le_of_ble_eq_true rfl) ⟨Nat.le_of_ble_eq_true rfl, Nat.le_of_ble_eq_true rfl⟩ rfl dL_law_679 hT (fun r9 w1 H locs hr9 hP hP2 hD hap hS => ?_)
  obtain ⟨er9, hΨ⟩ := hr9
  rw [er9]
  refine lv_aload_n hx hb dL_law_682 rfl (lv_at hl 1 rfl) ?_
  refine lw_arg hx hb hX hbl hbA hS hl hi 1 (by decide) dL_law_683 dL_law_684 dL_law_685 dL_law_686 dL_law_687 ?_
  refine lw_arg hx hb hX hbl hbA hS hl hi 2 (by decide) dL_law_688 dL_law_689 dL_law_690 dL_law_691 dL_law_692 ?_
  refine lw_arg hx hb hX hbl hbA hS hl hi 3 (by decide) dL_law_693 dL_law_694 dL_law_695 dL_law_696 dL_law_697 ?_
  refine lw_arg hx hb hX hbl hbA hS hl hi 4 (by decide) dL_law_698 dL_law_699 dL_law_700 dL_law_701 dL_law_702 ?_
  refine z_callF (ci := 6) (q0 := 0) (As := [.int (iI (ar xs i 1)), .int (iI (ar xs i 2)), .int (iI (ar xs i 3)), .int (iI (ar xs i 4))]) (rest := [.int (iI r)]) X hK hP2 hP hD2 hap.symm hA hS hl.1 gL_law_X6_note rfl ⟨g2.1, g2.2.1⟩ hd_X6_note (g2.R (Nat.le_of_ble_eq_true rfl)) rfl e2 rfl (Nat.le_of_ble_eq_true rfl) ⟨Nat.le_of_ble_eq_true rfl, Nat.le_of_ble_eq_true rfl⟩ rfl dL_law_703 hM (fun r8 w2 H locs hr8 hP2 hP hD2 hap hS => ?_)
  obtain ⟨er8, hΦ⟩ := hr8
  rw [er8]
  refine lv_icmp_eq (tgt := 1363) hx hb dL_law_706 (by decide) (fun _ => ?_) (fun q => absurd rfl q)
  exact kk w1 w2 H locs (hE w1 w2 hΨ hΦ) hP hP2 hD hD2 hap.symm hS
set_option maxHeartbeats 2000000 in
theorem law_c17 (X : Cx p s m meth c cL_law 4 (some .boolean) wsL_law RL #[.ref b]) (hX : va_X b L xs s s.heap) (hbl : b < s.heap.size) (hbA : ¬ A b) (hA : ∀ q, s.heap.size ≤ q → A q) (hK : va_K D vwCl [(cy, .int)] s) (hi : 0 ≤ i ∧ i + 5 ≤ L ∧ L ≤ 2560) (hl : lv_has ls 4 (lwL b (qT 0) (qM 0) i)) (hs : Sim qT qM cy wt wm) (hP : va_P D vwCl wt H) (hP2 : va_P D vwCl wm H) (hD : va_D A wt) (hD2 : va_D A wm) (hap : ap wt wm) (hS : va_S A s.heap H locs) (kk : ∀ (wt wm : va_W) (H : Heap) (locs : List Loc), Sim qT qM cy wt wm → va_P D vwCl wt H → va_P D vwCl wm H → va_D A wt → va_D A wm → ap wt wm → va_S A s.heap H locs → W p l e room_1 s m #[.ref b] below meth c H locs 35 3975 Q (F0 m 1363 ls [])) : W p l e room_1 s m #[.ref b] below meth c H locs 35 3975 Q (F0 m 711 ls []) := by
  obtain ⟨hx, hb, hml, hr, hts, hown, hlocks⟩ := id X
  obtain ⟨f1, e1⟩ := hs.t
  obtain ⟨f2, e2⟩ := hs.m
  obtain ⟨r, Ψ, Φ, rT, rM, g1, g2, hT, hM, hE⟩ := pr_wipe (l := l) (D := D) (cy := cy) (qT := qT) (qM := qM) (ar xs i 1) (ar_rg xs i 1) wt wm hs
  refine lv_aload_n hx hb dL_law_711 rfl (lv_at hl 2 rfl) ?_
  refine lw_arg hx hb hX hbl hbA hS hl hi 1 (by decide) dL_law_712 dL_law_713 dL_law_714 dL_law_715 dL_law_716 ?_
  refine z_callF (ci := 5) (q0 := 0) (As := [.int (iI (ar xs i 1))]) (rest := []) X hK hP hP2 hD hap hA hS hl.1 gL_law_X5_wipe rfl ⟨g1.1, g1.2.1⟩ hd_X5_wipe (g1.R (Nat.le_of_ble_eq_true rfl)) rfl e1 rfl (Nat.le_of_ble_eq_true rfl) ⟨Nat.le_of_ble_eq_true rfl, Nat.le_of_ble_eq_true rfl⟩ rfl dL_law_717 hT (fun r9 w1 H locs hr9 hP hP2 hD hap hS => ?_)
  obtain ⟨er9, hΨ⟩ := hr9
  rw [er9]
  refine lv_aload_n hx hb dL_law_720 rfl (lv_at hl 1 rfl) ?_
  refine lw_arg hx hb hX hbl hbA hS hl hi 1 (by decide) dL_law_721 dL_law_722 dL_law_723 dL_law_724 dL_law_725 ?_
  refine z_callF (ci := 6) (q0 := 0) (As := [.int (iI (ar xs i 1))]) (rest := [.int (iI r)]) X hK hP2 hP hD2 hap.symm hA hS hl.1 gL_law_X6_wipe rfl ⟨g2.1, g2.2.1⟩ hd_X6_wipe (g2.R (Nat.le_of_ble_eq_true rfl)) rfl e2 rfl (Nat.le_of_ble_eq_true rfl) ⟨Nat.le_of_ble_eq_true rfl, Nat.le_of_ble_eq_true rfl⟩ rfl dL_law_726 hM (fun r8 w2 H locs hr8 hP2 hP hD2 hap hS => ?_)
  obtain ⟨er8, hΦ⟩ := hr8
  rw [er8]
  refine lv_icmp_eq (tgt := 1363) hx hb dL_law_729 (by decide) (fun _ => ?_) (fun q => absurd rfl q)
  exact kk w1 w2 H locs (hE w1 w2 hΨ hΦ) hP hP2 hD hD2 hap.symm hS
set_option maxHeartbeats 2000000 in
theorem law_c18 (X : Cx p s m meth c cL_law 4 (some .boolean) wsL_law RL #[.ref b]) (hX : va_X b L xs s s.heap) (hbl : b < s.heap.size) (hbA : ¬ A b) (hA : ∀ q, s.heap.size ≤ q → A q) (hK : va_K D vwCl [(cy, .int)] s) (hi : 0 ≤ i ∧ i + 5 ≤ L ∧ L ≤ 2560) (hl : lv_has ls 4 (lwL b (qT 0) (qM 0) i)) (hs : Sim qT qM cy wt wm) (hP : va_P D vwCl wt H) (hP2 : va_P D vwCl wm H) (hD : va_D A wt) (hD2 : va_D A wm) (hap : ap wt wm) (hS : va_S A s.heap H locs) (kk : ∀ (wt wm : va_W) (H : Heap) (locs : List Loc), Sim qT qM cy wt wm → va_P D vwCl wt H → va_P D vwCl wm H → va_D A wt → va_D A wm → ap wt wm → va_S A s.heap H locs → W p l e room_1 s m #[.ref b] below meth c H locs 35 3975 Q (F0 m 1363 ls [])) : W p l e room_1 s m #[.ref b] below meth c H locs 35 3975 Q (F0 m 734 ls []) := by
  obtain ⟨hx, hb, hml, hr, hts, hown, hlocks⟩ := id X
  obtain ⟨f1, e1⟩ := hs.t
  obtain ⟨f2, e2⟩ := hs.m
  obtain ⟨r, Ψ, Φ, rT, rM, g1, g2, hT, hM, hE⟩ := pr_rest (l := l) (D := D) (cy := cy) (qT := qT) (qM := qM) (ar xs i 1) (ar_rg xs i 1) wt wm hs
  refine lv_aload_n hx hb dL_law_734 rfl (lv_at hl 2 rfl) ?_
  refine lw_arg hx hb hX hbl hbA hS hl hi 1 (by decide) dL_law_735 dL_law_736 dL_law_737 dL_law_738 dL_law_739 ?_
  refine z_callF (ci := 5) (q0 := 0) (As := [.int (iI (ar xs i 1))]) (rest := []) X hK hP hP2 hD hap hA hS hl.1 gL_law_X5_rest rfl ⟨g1.1, g1.2.1⟩ hd_X5_rest (g1.R (Nat.le_of_ble_eq_true rfl)) rfl e1 rfl (Nat.le_of_ble_eq_true rfl) ⟨Nat.le_of_ble_eq_true rfl, Nat.le_of_ble_eq_true rfl⟩ rfl dL_law_740 hT (fun r9 w1 H locs hr9 hP hP2 hD hap hS => ?_)
  obtain ⟨er9, hΨ⟩ := hr9
  rw [er9]
  refine lv_aload_n hx hb dL_law_743 rfl (lv_at hl 1 rfl) ?_
  refine lw_arg hx hb hX hbl hbA hS hl hi 1 (by decide) dL_law_744 dL_law_745 dL_law_746 dL_law_747 dL_law_748 ?_
  refine z_callF (ci := 6) (q0 := 0) (As := [.int (iI (ar xs i 1))]) (rest := [.int (iI r)]) X hK hP2 hP hD2 hap.symm hA hS hl.1 gL_law_X6_rest rfl ⟨g2.1, g2.2.1⟩ hd_X6_rest (g2.R (Nat.le_of_ble_eq_true rfl)) rfl e2 rfl (Nat.le_of_ble_eq_true rfl) ⟨Nat.le_of_ble_eq_true rfl, Nat.le_of_ble_eq_true rfl⟩ rfl dL_law_749 hM (fun r8 w2 H locs hr8 hP2 hP hD2 hap hS => ?_)
  obtain ⟨er8, hΦ⟩ := hr8
  rw [er8]
  refine lv_icmp_eq (tgt := 1363) hx hb dL_law_752 (by decide) (fun _ => ?_) (fun q => absurd rfl q)
  exact kk w1 w2 H locs (hE w1 w2 hΨ hΦ) hP hP2 hD hD2 hap.symm hS
set_option maxHeartbeats 2000000 in
theorem law_c19 (X : Cx p s m meth c cL_law 4 (some .boolean) wsL_law RL #[.ref b]) (hX : va_X b L xs s s.heap) (hbl : b < s.heap.size) (hbA : ¬ A b) (hA : ∀ q, s.heap.size ≤ q → A q) (hK : va_K D vwCl [(cy, .int)] s) (hi : 0 ≤ i ∧ i + 5 ≤ L ∧ L ≤ 2560) (hl : lv_has ls 4 (lwL b (qT 0) (qM 0) i)) (hs : Sim qT qM cy wt wm) (hP : va_P D vwCl wt H) (hP2 : va_P D vwCl wm H) (hD : va_D A wt) (hD2 : va_D A wm) (hap : ap wt wm) (hS : va_S A s.heap H locs) (kk : ∀ (wt wm : va_W) (H : Heap) (locs : List Loc), Sim qT qM cy wt wm → va_P D vwCl wt H → va_P D vwCl wm H → va_D A wt → va_D A wm → ap wt wm → va_S A s.heap H locs → W p l e room_1 s m #[.ref b] below meth c H locs 35 3975 Q (F0 m 1363 ls [])) : W p l e room_1 s m #[.ref b] below meth c H locs 35 3975 Q (F0 m 757 ls []) := by
  obtain ⟨hx, hb, hml, hr, hts, hown, hlocks⟩ := id X
  obtain ⟨f1, e1⟩ := hs.t
  obtain ⟨f2, e2⟩ := hs.m
  obtain ⟨r, Ψ, Φ, rT, rM, g1, g2, hT, hM, hE⟩ := pr_clashes (l := l) (D := D) (cy := cy) (qT := qT) (qM := qM) (ar xs i 1) (ar_rg xs i 1) wt wm hs
  refine lv_aload_n hx hb dL_law_757 rfl (lv_at hl 2 rfl) ?_
  refine lw_arg hx hb hX hbl hbA hS hl hi 1 (by decide) dL_law_758 dL_law_759 dL_law_760 dL_law_761 dL_law_762 ?_
  refine z_callF (ci := 5) (q0 := 0) (As := [.int (iI (ar xs i 1))]) (rest := []) X hK hP hP2 hD hap hA hS hl.1 gL_law_X5_clashes rfl ⟨g1.1, g1.2.1⟩ hd_X5_clashes (g1.R (Nat.le_of_ble_eq_true rfl)) rfl e1 rfl (Nat.le_of_ble_eq_true rfl) ⟨Nat.le_of_ble_eq_true rfl, Nat.le_of_ble_eq_true rfl⟩ rfl dL_law_763 hT (fun r9 w1 H locs hr9 hP hP2 hD hap hS => ?_)
  obtain ⟨er9, hΨ⟩ := hr9
  rw [er9]
  refine lv_aload_n hx hb dL_law_766 rfl (lv_at hl 1 rfl) ?_
  refine lw_arg hx hb hX hbl hbA hS hl hi 1 (by decide) dL_law_767 dL_law_768 dL_law_769 dL_law_770 dL_law_771 ?_
  refine z_callF (ci := 6) (q0 := 0) (As := [.int (iI (ar xs i 1))]) (rest := [.int (iI r)]) X hK hP2 hP hD2 hap.symm hA hS hl.1 gL_law_X6_clashes rfl ⟨g2.1, g2.2.1⟩ hd_X6_clashes (g2.R (Nat.le_of_ble_eq_true rfl)) rfl e2 rfl (Nat.le_of_ble_eq_true rfl) ⟨Nat.le_of_ble_eq_true rfl, Nat.le_of_ble_eq_true rfl⟩ rfl dL_law_772 hM (fun r8 w2 H locs hr8 hP2 hP hD2 hap hS => ?_)
  obtain ⟨er8, hΦ⟩ := hr8
  rw [er8]
  refine lv_icmp_eq (tgt := 1363) hx hb dL_law_775 (by decide) (fun _ => ?_) (fun q => absurd rfl q)
  exact kk w1 w2 H locs (hE w1 w2 hΨ hΦ) hP hP2 hD hD2 hap.symm hS
set_option maxHeartbeats 2000000 in
theorem law_c20 (X : Cx p s m meth c cL_law 4 (some .boolean) wsL_law RL #[.ref b]) (hX : va_X b L xs s s.heap) (hbl : b < s.heap.size) (hbA : ¬ A b) (hA : ∀ q, s.heap.size ≤ q → A q) (hK : va_K D vwCl [(cy, .int)] s) (hi : 0 ≤ i ∧ i + 5 ≤ L ∧ L ≤ 2560) (hl : lv_has ls 4 (lwL b (qT 0) (qM 0) i)) (hs : Sim qT qM cy wt wm) (hP : va_P D vwCl wt H) (hP2 : va_P D vwCl wm H) (hD : va_D A wt) (hD2 : va_D A wm) (hap : ap wt wm) (hS : va_S A s.heap H locs) (kk : ∀ (wt wm : va_W) (H : Heap) (locs : List Loc), Sim qT qM cy wt wm → va_P D vwCl wt H → va_P D vwCl wm H → va_D A wt → va_D A wm → ap wt wm → va_S A s.heap H locs → W p l e room_1 s m #[.ref b] below meth c H locs 35 3975 Q (F0 m 1363 ls [])) : W p l e room_1 s m #[.ref b] below meth c H locs 35 3975 Q (F0 m 780 ls []) := by
  obtain ⟨hx, hb, hml, hr, hts, hown, hlocks⟩ := id X
  obtain ⟨f1, e1⟩ := hs.t
  obtain ⟨f2, e2⟩ := hs.m
  obtain ⟨r, Ψ, Φ, rT, rM, g1, g2, hT, hM, hE⟩ := pr_clash (l := l) (D := D) (cy := cy) (qT := qT) (qM := qM) (ar xs i 1) (ar xs i 2) (⟨(ar_rg xs i 1).1, (ar_rg xs i 1).2, ar_rg xs i 2⟩) wt wm hs
  refine lv_aload_n hx hb dL_law_780 rfl (lv_at hl 2 rfl) ?_
  refine lw_arg hx hb hX hbl hbA hS hl hi 1 (by decide) dL_law_781 dL_law_782 dL_law_783 dL_law_784 dL_law_785 ?_
  refine lw_arg hx hb hX hbl hbA hS hl hi 2 (by decide) dL_law_786 dL_law_787 dL_law_788 dL_law_789 dL_law_790 ?_
  refine z_callF (ci := 5) (q0 := 0) (As := [.int (iI (ar xs i 1)), .int (iI (ar xs i 2))]) (rest := []) X hK hP hP2 hD hap hA hS hl.1 gL_law_X5_clash rfl ⟨g1.1, g1.2.1⟩ hd_X5_clash (g1.R (Nat.le_of_ble_eq_true rfl)) rfl e1 rfl (Nat.le_of_ble_eq_true rfl) ⟨Nat.le_of_ble_eq_true rfl, Nat.le_of_ble_eq_true rfl⟩ rfl dL_law_791 hT (fun r9 w1 H locs hr9 hP hP2 hD hap hS => ?_)
  obtain ⟨er9, hΨ⟩ := hr9
  rw [er9]
  refine lv_aload_n hx hb dL_law_794 rfl (lv_at hl 1 rfl) ?_
  refine lw_arg hx hb hX hbl hbA hS hl hi 1 (by decide) dL_law_795 dL_law_796 dL_law_797 dL_law_798 dL_law_799 ?_
  refine lw_arg hx hb hX hbl hbA hS hl hi 2 (by decide) dL_law_800 dL_law_801 dL_law_802 dL_law_803 dL_law_804 ?_
  refine z_callF (ci := 6) (q0 := 0) (As := [.int (iI (ar xs i 1)), .int (iI (ar xs i 2))]) (rest := [.int (iI r)]) X hK hP2 hP hD2 hap.symm hA hS hl.1 gL_law_X6_clash rfl ⟨g2.1, g2.2.1⟩ hd_X6_clash (g2.R (Nat.le_of_ble_eq_true rfl)) rfl e2 rfl (Nat.le_of_ble_eq_true rfl) ⟨Nat.le_of_ble_eq_true rfl, Nat.le_of_ble_eq_true rfl⟩ rfl dL_law_805 hM (fun r8 w2 H locs hr8 hP2 hP hD2 hap hS => ?_)
  obtain ⟨er8, hΦ⟩ := hr8
  rw [er8]
  refine lv_icmp_eq (tgt := 1363) hx hb dL_law_808 (by decide) (fun _ => ?_) (fun q => absurd rfl q)
  exact kk w1 w2 H locs (hE w1 w2 hΨ hΦ) hP hP2 hD hD2 hap.symm hS
set_option maxHeartbeats 2000000 in
theorem law_c21 (X : Cx p s m meth c cL_law 4 (some .boolean) wsL_law RL #[.ref b]) (hX : va_X b L xs s s.heap) (hbl : b < s.heap.size) (hbA : ¬ A b) (hA : ∀ q, s.heap.size ≤ q → A q) (hK : va_K D vwCl [(cy, .int)] s) (hi : 0 ≤ i ∧ i + 5 ≤ L ∧ L ≤ 2560) (hl : lv_has ls 4 (lwL b (qT 0) (qM 0) i)) (hs : Sim qT qM cy wt wm) (hP : va_P D vwCl wt H) (hP2 : va_P D vwCl wm H) (hD : va_D A wt) (hD2 : va_D A wm) (hap : ap wt wm) (hS : va_S A s.heap H locs) (kk : ∀ (wt wm : va_W) (H : Heap) (locs : List Loc), Sim qT qM cy wt wm → va_P D vwCl wt H → va_P D vwCl wm H → va_D A wt → va_D A wm → ap wt wm → va_S A s.heap H locs → W p l e room_1 s m #[.ref b] below meth c H locs 35 3975 Q (F0 m 1363 ls [])) : W p l e room_1 s m #[.ref b] below meth c H locs 35 3975 Q (F0 m 813 ls []) := by
  obtain ⟨hx, hb, hml, hr, hts, hown, hlocks⟩ := id X
  obtain ⟨f1, e1⟩ := hs.t
  obtain ⟨f2, e2⟩ := hs.m
  obtain ⟨r, Ψ, Φ, rT, rM, g1, g2, hT, hM, hE⟩ := pr_chokes (l := l) (D := D) (cy := cy) (qT := qT) (qM := qM) (ar xs i 1) (ar_rg xs i 1) wt wm hs
  refine lv_aload_n hx hb dL_law_813 rfl (lv_at hl 2 rfl) ?_
  refine lw_arg hx hb hX hbl hbA hS hl hi 1 (by decide) dL_law_814 dL_law_815 dL_law_816 dL_law_817 dL_law_818 ?_
  refine z_callF (ci := 5) (q0 := 0) (As := [.int (iI (ar xs i 1))]) (rest := []) X hK hP hP2 hD hap hA hS hl.1 gL_law_X5_chokes rfl ⟨g1.1, g1.2.1⟩ hd_X5_chokes (g1.R (Nat.le_of_ble_eq_true rfl)) rfl e1 rfl (Nat.le_of_ble_eq_true rfl) ⟨Nat.le_of_ble_eq_true rfl, Nat.le_of_ble_eq_true rfl⟩ rfl dL_law_819 hT (fun r9 w1 H locs hr9 hP hP2 hD hap hS => ?_)
  obtain ⟨er9, hΨ⟩ := hr9
  rw [er9]
  refine lv_aload_n hx hb dL_law_822 rfl (lv_at hl 1 rfl) ?_
  refine lw_arg hx hb hX hbl hbA hS hl hi 1 (by decide) dL_law_823 dL_law_824 dL_law_825 dL_law_826 dL_law_827 ?_
  refine z_callF (ci := 6) (q0 := 0) (As := [.int (iI (ar xs i 1))]) (rest := [.int (iI r)]) X hK hP2 hP hD2 hap.symm hA hS hl.1 gL_law_X6_chokes rfl ⟨g2.1, g2.2.1⟩ hd_X6_chokes (g2.R (Nat.le_of_ble_eq_true rfl)) rfl e2 rfl (Nat.le_of_ble_eq_true rfl) ⟨Nat.le_of_ble_eq_true rfl, Nat.le_of_ble_eq_true rfl⟩ rfl dL_law_828 hM (fun r8 w2 H locs hr8 hP2 hP hD2 hap hS => ?_)
  obtain ⟨er8, hΦ⟩ := hr8
  rw [er8]
  refine lv_icmp_eq (tgt := 1363) hx hb dL_law_831 (by decide) (fun _ => ?_) (fun q => absurd rfl q)
  exact kk w1 w2 H locs (hE w1 w2 hΨ hΦ) hP hP2 hD hD2 hap.symm hS
set_option maxHeartbeats 2000000 in
theorem law_c22 (X : Cx p s m meth c cL_law 4 (some .boolean) wsL_law RL #[.ref b]) (hX : va_X b L xs s s.heap) (hbl : b < s.heap.size) (hbA : ¬ A b) (hA : ∀ q, s.heap.size ≤ q → A q) (hK : va_K D vwCl [(cy, .int)] s) (hi : 0 ≤ i ∧ i + 5 ≤ L ∧ L ≤ 2560) (hl : lv_has ls 4 (lwL b (qT 0) (qM 0) i)) (hs : Sim qT qM cy wt wm) (hP : va_P D vwCl wt H) (hP2 : va_P D vwCl wm H) (hD : va_D A wt) (hD2 : va_D A wm) (hap : ap wt wm) (hS : va_S A s.heap H locs) (kk : ∀ (wt wm : va_W) (H : Heap) (locs : List Loc), Sim qT qM cy wt wm → va_P D vwCl wt H → va_P D vwCl wm H → va_D A wt → va_D A wm → ap wt wm → va_S A s.heap H locs → W p l e room_1 s m #[.ref b] below meth c H locs 35 3975 Q (F0 m 1363 ls [])) : W p l e room_1 s m #[.ref b] below meth c H locs 35 3975 Q (F0 m 836 ls []) := by
  obtain ⟨hx, hb, hml, hr, hts, hown, hlocks⟩ := id X
  obtain ⟨f1, e1⟩ := hs.t
  obtain ⟨f2, e2⟩ := hs.m
  obtain ⟨r, Ψ, Φ, rT, rM, g1, g2, hT, hM, hE⟩ := pr_trills (l := l) (D := D) (cy := cy) (qT := qT) (qM := qM) (ar xs i 1) (decide (ar xs i 2 ≠ 0)) (ar_rg xs i 1) wt wm hs
  refine lv_aload_n hx hb dL_law_836 rfl (lv_at hl 2 rfl) ?_
  refine lw_arg hx hb hX hbl hbA hS hl hi 1 (by decide) dL_law_837 dL_law_838 dL_law_839 dL_law_840 dL_law_841 ?_
  refine lw_argb hx hb hX hbl hbA hS hl hi 2 (by decide) dL_law_842 dL_law_843 dL_law_844 dL_law_845 dL_law_846 dL_law_847 dL_law_850 dL_law_851 dL_law_854 ?_
  refine z_callF (ci := 5) (q0 := 0) (As := [.int (iI (ar xs i 1)), .int (iI (bZ (decide (ar xs i 2 ≠ 0))))]) (rest := []) X hK hP hP2 hD hap hA hS hl.1 gL_law_X5_trills rfl ⟨g1.1, g1.2.1⟩ hd_X5_trills (g1.R (Nat.le_of_ble_eq_true rfl)) rfl e1 rfl (Nat.le_of_ble_eq_true rfl) ⟨Nat.le_of_ble_eq_true rfl, Nat.le_of_ble_eq_true rfl⟩ rfl dL_law_855 hT (fun r9 w1 H locs hr9 hP hP2 hD hap hS => ?_)
  obtain ⟨er9, hΨ⟩ := hr9
  rw [er9]
  refine lv_aload_n hx hb dL_law_858 rfl (lv_at hl 1 rfl) ?_
  refine lw_arg hx hb hX hbl hbA hS hl hi 1 (by decide) dL_law_859 dL_law_860 dL_law_861 dL_law_862 dL_law_863 ?_
  refine lw_argb hx hb hX hbl hbA hS hl hi 2 (by decide) dL_law_864 dL_law_865 dL_law_866 dL_law_867 dL_law_868 dL_law_869 dL_law_872 dL_law_873 dL_law_876 ?_
  refine z_callF (ci := 6) (q0 := 0) (As := [.int (iI (ar xs i 1)), .int (iI (bZ (decide (ar xs i 2 ≠ 0))))]) (rest := [.int (iI r)]) X hK hP2 hP hD2 hap.symm hA hS hl.1 gL_law_X6_trills rfl ⟨g2.1, g2.2.1⟩ hd_X6_trills (g2.R (Nat.le_of_ble_eq_true rfl)) rfl e2 rfl (Nat.le_of_ble_eq_true rfl) ⟨Nat.le_of_ble_eq_true rfl, Nat.le_of_ble_eq_true rfl⟩ rfl dL_law_877 hM (fun r8 w2 H locs hr8 hP2 hP hD2 hap hS => ?_)
  obtain ⟨er8, hΦ⟩ := hr8
  rw [er8]
  refine lv_icmp_eq (tgt := 1363) hx hb dL_law_880 (by decide) (fun _ => ?_) (fun q => absurd rfl q)
  exact kk w1 w2 H locs (hE w1 w2 hΨ hΦ) hP hP2 hD hD2 hap.symm hS
set_option maxHeartbeats 2000000 in
theorem law_c23 (X : Cx p s m meth c cL_law 4 (some .boolean) wsL_law RL #[.ref b]) (hX : va_X b L xs s s.heap) (hbl : b < s.heap.size) (hbA : ¬ A b) (hA : ∀ q, s.heap.size ≤ q → A q) (hK : va_K D vwCl [(cy, .int)] s) (hi : 0 ≤ i ∧ i + 5 ≤ L ∧ L ≤ 2560) (hl : lv_has ls 4 (lwL b (qT 0) (qM 0) i)) (hs : Sim qT qM cy wt wm) (hP : va_P D vwCl wt H) (hP2 : va_P D vwCl wm H) (hD : va_D A wt) (hD2 : va_D A wm) (hap : ap wt wm) (hS : va_S A s.heap H locs) (kk : ∀ (wt wm : va_W) (H : Heap) (locs : List Loc), Sim qT qM cy wt wm → va_P D vwCl wt H → va_P D vwCl wm H → va_D A wt → va_D A wm → ap wt wm → va_S A s.heap H locs → W p l e room_1 s m #[.ref b] below meth c H locs 35 3975 Q (F0 m 1363 ls [])) : W p l e room_1 s m #[.ref b] below meth c H locs 35 3975 Q (F0 m 885 ls []) := by
  obtain ⟨hx, hb, hml, hr, hts, hown, hlocks⟩ := id X
  obtain ⟨f1, e1⟩ := hs.t
  obtain ⟨f2, e2⟩ := hs.m
  obtain ⟨r, Ψ, Φ, rT, rM, g1, g2, hT, hM, hE⟩ := pr_heard (l := l) (D := D) (cy := cy) (qT := qT) (qM := qM) (ar xs i 1) (ar xs i 2) (ar xs i 3) (⟨(ar_rg xs i 1).1, (ar_rg xs i 1).2, (ar_rg xs i 2).1, (ar_rg xs i 2).2, ar_rg xs i 3⟩) wt wm hs
  refine lv_aload_n hx hb dL_law_885 rfl (lv_at hl 2 rfl) ?_
  refine lw_arg hx hb hX hbl hbA hS hl hi 1 (by decide) dL_law_886 dL_law_887 dL_law_888 dL_law_889 dL_law_890 ?_
  refine lw_arg hx hb hX hbl hbA hS hl hi 2 (by decide) dL_law_891 dL_law_892 dL_law_893 dL_law_894 dL_law_895 ?_
  refine lw_arg hx hb hX hbl hbA hS hl hi 3 (by decide) dL_law_896 dL_law_897 dL_law_898 dL_law_899 dL_law_900 ?_
  refine z_callF (ci := 5) (q0 := 0) (As := [.int (iI (ar xs i 1)), .int (iI (ar xs i 2)), .int (iI (ar xs i 3))]) (rest := []) X hK hP hP2 hD hap hA hS hl.1 gL_law_X5_heard rfl ⟨g1.1, g1.2.1⟩ hd_X5_heard (g1.R (Nat.le_of_ble_eq_true rfl)) rfl e1 rfl (Nat.le_of_ble_eq_true rfl) ⟨Nat.le_of_ble_eq_true rfl, Nat.le_of_ble_eq_true rfl⟩ rfl dL_law_901 hT (fun r9 w1 H locs hr9 hP hP2 hD hap hS => ?_)
  obtain ⟨er9, hΨ⟩ := hr9
  rw [er9]
  refine lv_aload_n hx hb dL_law_904 rfl (lv_at hl 1 rfl) ?_
  refine lw_arg hx hb hX hbl hbA hS hl hi 1 (by decide) dL_law_905 dL_law_906 dL_law_907 dL_law_908 dL_law_909 ?_
  refine lw_arg hx hb hX hbl hbA hS hl hi 2 (by decide) dL_law_910 dL_law_911 dL_law_912 dL_law_913 dL_law_914 ?_
  refine lw_arg hx hb hX hbl hbA hS hl hi 3 (by decide) dL_law_915 dL_law_916 dL_law_917 dL_law_918 dL_law_919 ?_
  refine z_callF (ci := 6) (q0 := 0) (As := [.int (iI (ar xs i 1)), .int (iI (ar xs i 2)), .int (iI (ar xs i 3))]) (rest := [.int (iI r)]) X hK hP2 hP hD2 hap.symm hA hS hl.1 gL_law_X6_heard rfl ⟨g2.1, g2.2.1⟩ hd_X6_heard (g2.R (Nat.le_of_ble_eq_true rfl)) rfl e2 rfl (Nat.le_of_ble_eq_true rfl) ⟨Nat.le_of_ble_eq_true rfl, Nat.le_of_ble_eq_true rfl⟩ rfl dL_law_920 hM (fun r8 w2 H locs hr8 hP2 hP hD2 hap hS => ?_)
  obtain ⟨er8, hΦ⟩ := hr8
  rw [er8]
  refine lv_icmp_eq (tgt := 1363) hx hb dL_law_923 (by decide) (fun _ => ?_) (fun q => absurd rfl q)
  exact kk w1 w2 H locs (hE w1 w2 hΨ hΦ) hP hP2 hD hD2 hap.symm hS
set_option maxHeartbeats 2000000 in
theorem law_c24 (X : Cx p s m meth c cL_law 4 (some .boolean) wsL_law RL #[.ref b]) (hX : va_X b L xs s s.heap) (hbl : b < s.heap.size) (hbA : ¬ A b) (hA : ∀ q, s.heap.size ≤ q → A q) (hK : va_K D vwCl [(cy, .int)] s) (hi : 0 ≤ i ∧ i + 5 ≤ L ∧ L ≤ 2560) (hl : lv_has ls 4 (lwL b (qT 0) (qM 0) i)) (hs : Sim qT qM cy wt wm) (hP : va_P D vwCl wt H) (hP2 : va_P D vwCl wm H) (hD : va_D A wt) (hD2 : va_D A wm) (hap : ap wt wm) (hS : va_S A s.heap H locs) (kk : ∀ (wt wm : va_W) (H : Heap) (locs : List Loc), Sim qT qM cy wt wm → va_P D vwCl wt H → va_P D vwCl wm H → va_D A wt → va_D A wm → ap wt wm → va_S A s.heap H locs → W p l e room_1 s m #[.ref b] below meth c H locs 35 3975 Q (F0 m 1363 ls [])) : W p l e room_1 s m #[.ref b] below meth c H locs 35 3975 Q (F0 m 928 ls []) := by
  obtain ⟨hx, hb, hml, hr, hts, hown, hlocks⟩ := id X
  obtain ⟨f1, e1⟩ := hs.t
  obtain ⟨f2, e2⟩ := hs.m
  obtain ⟨r, Ψ, Φ, rT, rM, g1, g2, hT, hM, hE⟩ := pr_lost (l := l) (D := D) (cy := cy) (qT := qT) (qM := qM) (ar xs i 1) (ar xs i 2) (⟨(ar_rg xs i 1).1, (ar_rg xs i 1).2, ar_rg xs i 2⟩) wt wm hs
  refine lv_aload_n hx hb dL_law_928 rfl (lv_at hl 2 rfl) ?_
  refine lw_arg hx hb hX hbl hbA hS hl hi 1 (by decide) dL_law_929 dL_law_930 dL_law_931 dL_law_932 dL_law_933 ?_
  refine lw_arg hx hb hX hbl hbA hS hl hi 2 (by decide) dL_law_934 dL_law_935 dL_law_936 dL_law_937 dL_law_938 ?_
  refine z_callF (ci := 5) (q0 := 0) (As := [.int (iI (ar xs i 1)), .int (iI (ar xs i 2))]) (rest := []) X hK hP hP2 hD hap hA hS hl.1 gL_law_X5_lost rfl ⟨g1.1, g1.2.1⟩ hd_X5_lost (g1.R (Nat.le_of_ble_eq_true rfl)) rfl e1 rfl (Nat.le_of_ble_eq_true rfl) ⟨Nat.le_of_ble_eq_true rfl, Nat.le_of_ble_eq_true rfl⟩ rfl dL_law_939 hT (fun r9 w1 H locs hr9 hP hP2 hD hap hS => ?_)
  obtain ⟨er9, hΨ⟩ := hr9
  rw [er9]
  refine lv_aload_n hx hb dL_law_942 rfl (lv_at hl 1 rfl) ?_
  refine lw_arg hx hb hX hbl hbA hS hl hi 1 (by decide) dL_law_943 dL_law_944 dL_law_945 dL_law_946 dL_law_947 ?_
  refine lw_arg hx hb hX hbl hbA hS hl hi 2 (by decide) dL_law_948 dL_law_949 dL_law_950 dL_law_951 dL_law_952 ?_
  refine z_callF (ci := 6) (q0 := 0) (As := [.int (iI (ar xs i 1)), .int (iI (ar xs i 2))]) (rest := [.int (iI r)]) X hK hP2 hP hD2 hap.symm hA hS hl.1 gL_law_X6_lost rfl ⟨g2.1, g2.2.1⟩ hd_X6_lost (g2.R (Nat.le_of_ble_eq_true rfl)) rfl e2 rfl (Nat.le_of_ble_eq_true rfl) ⟨Nat.le_of_ble_eq_true rfl, Nat.le_of_ble_eq_true rfl⟩ rfl dL_law_953 hM (fun r8 w2 H locs hr8 hP2 hP hD2 hap hS => ?_)
  obtain ⟨er8, hΦ⟩ := hr8
  rw [er8]
  refine lv_icmp_eq (tgt := 1363) hx hb dL_law_956 (by decide) (fun _ => ?_) (fun q => absurd rfl q)
  exact kk w1 w2 H locs (hE w1 w2 hΨ hΦ) hP hP2 hD hD2 hap.symm hS
set_option maxHeartbeats 2000000 in
theorem law_c25 (X : Cx p s m meth c cL_law 4 (some .boolean) wsL_law RL #[.ref b]) (hX : va_X b L xs s s.heap) (hbl : b < s.heap.size) (hbA : ¬ A b) (hA : ∀ q, s.heap.size ≤ q → A q) (hK : va_K D vwCl [(cy, .int)] s) (hi : 0 ≤ i ∧ i + 5 ≤ L ∧ L ≤ 2560) (hl : lv_has ls 4 (lwL b (qT 0) (qM 0) i)) (hs : Sim qT qM cy wt wm) (hP : va_P D vwCl wt H) (hP2 : va_P D vwCl wm H) (hD : va_D A wt) (hD2 : va_D A wm) (hap : ap wt wm) (hS : va_S A s.heap H locs) (kk : ∀ (wt wm : va_W) (H : Heap) (locs : List Loc), Sim qT qM cy wt wm → va_P D vwCl wt H → va_P D vwCl wm H → va_D A wt → va_D A wm → ap wt wm → va_S A s.heap H locs → W p l e room_1 s m #[.ref b] below meth c H locs 35 3975 Q (F0 m 1363 ls [])) : W p l e room_1 s m #[.ref b] below meth c H locs 35 3975 Q (F0 m 961 ls []) := by
  obtain ⟨hx, hb, hml, hr, hts, hown, hlocks⟩ := id X
  obtain ⟨f1, e1⟩ := hs.t
  obtain ⟨f2, e2⟩ := hs.m
  obtain ⟨r, Ψ, Φ, rT, rM, g1, g2, hT, hM, hE⟩ := pr_passes (l := l) (D := D) (cy := cy) (qT := qT) (qM := qM) (ar xs i 1) (ar_rg xs i 1) wt wm hs
  refine lv_aload_n hx hb dL_law_961 rfl (lv_at hl 2 rfl) ?_
  refine lw_arg hx hb hX hbl hbA hS hl hi 1 (by decide) dL_law_962 dL_law_963 dL_law_964 dL_law_965 dL_law_966 ?_
  refine z_callF (ci := 5) (q0 := 0) (As := [.int (iI (ar xs i 1))]) (rest := []) X hK hP hP2 hD hap hA hS hl.1 gL_law_X5_passes rfl ⟨g1.1, g1.2.1⟩ hd_X5_passes (g1.R (Nat.le_of_ble_eq_true rfl)) rfl e1 rfl (Nat.le_of_ble_eq_true rfl) ⟨Nat.le_of_ble_eq_true rfl, Nat.le_of_ble_eq_true rfl⟩ rfl dL_law_967 hT (fun r9 w1 H locs hr9 hP hP2 hD hap hS => ?_)
  obtain ⟨er9, hΨ⟩ := hr9
  rw [er9]
  refine lv_aload_n hx hb dL_law_970 rfl (lv_at hl 1 rfl) ?_
  refine lw_arg hx hb hX hbl hbA hS hl hi 1 (by decide) dL_law_971 dL_law_972 dL_law_973 dL_law_974 dL_law_975 ?_
  refine z_callF (ci := 6) (q0 := 0) (As := [.int (iI (ar xs i 1))]) (rest := [.int (iI r)]) X hK hP2 hP hD2 hap.symm hA hS hl.1 gL_law_X6_passes rfl ⟨g2.1, g2.2.1⟩ hd_X6_passes (g2.R (Nat.le_of_ble_eq_true rfl)) rfl e2 rfl (Nat.le_of_ble_eq_true rfl) ⟨Nat.le_of_ble_eq_true rfl, Nat.le_of_ble_eq_true rfl⟩ rfl dL_law_976 hM (fun r8 w2 H locs hr8 hP2 hP hD2 hap hS => ?_)
  obtain ⟨er8, hΦ⟩ := hr8
  rw [er8]
  refine lv_icmp_eq (tgt := 1363) hx hb dL_law_979 (by decide) (fun _ => ?_) (fun q => absurd rfl q)
  exact kk w1 w2 H locs (hE w1 w2 hΨ hΦ) hP hP2 hD hD2 hap.symm hS
set_option maxHeartbeats 2000000 in
theorem law_c26 (X : Cx p s m meth c cL_law 4 (some .boolean) wsL_law RL #[.ref b]) (hX : va_X b L xs s s.heap) (hbl : b < s.heap.size) (hbA : ¬ A b) (hA : ∀ q, s.heap.size ≤ q → A q) (hK : va_K D vwCl [(cy, .int)] s) (hi : 0 ≤ i ∧ i + 5 ≤ L ∧ L ≤ 2560) (hl : lv_has ls 4 (lwL b (qT 0) (qM 0) i)) (hs : Sim qT qM cy wt wm) (hP : va_P D vwCl wt H) (hP2 : va_P D vwCl wm H) (hD : va_D A wt) (hD2 : va_D A wm) (hap : ap wt wm) (hS : va_S A s.heap H locs) (kk : ∀ (wt wm : va_W) (H : Heap) (locs : List Loc), Sim qT qM cy wt wm → va_P D vwCl wt H → va_P D vwCl wm H → va_D A wt → va_D A wm → ap wt wm → va_S A s.heap H locs → W p l e room_1 s m #[.ref b] below meth c H locs 35 3975 Q (F0 m 1363 ls [])) : W p l e room_1 s m #[.ref b] below meth c H locs 35 3975 Q (F0 m 984 ls []) := by
  obtain ⟨hx, hb, hml, hr, hts, hown, hlocks⟩ := id X
  obtain ⟨f1, e1⟩ := hs.t
  obtain ⟨f2, e2⟩ := hs.m
  obtain ⟨r, Ψ, Φ, rT, rM, g1, g2, hT, hM, hE⟩ := pr_book (l := l) (D := D) (cy := cy) (qT := qT) (qM := qM) (ar xs i 1) (ar_rg xs i 1) wt wm hs
  refine lv_aload_n hx hb dL_law_984 rfl (lv_at hl 2 rfl) ?_
  refine lw_arg hx hb hX hbl hbA hS hl hi 1 (by decide) dL_law_985 dL_law_986 dL_law_987 dL_law_988 dL_law_989 ?_
  refine z_callF (ci := 5) (q0 := 0) (As := [.int (iI (ar xs i 1))]) (rest := []) X hK hP hP2 hD hap hA hS hl.1 gL_law_X5_book rfl ⟨g1.1, g1.2.1⟩ hd_X5_book (g1.R (Nat.le_of_ble_eq_true rfl)) rfl e1 rfl (Nat.le_of_ble_eq_true rfl) ⟨Nat.le_of_ble_eq_true rfl, Nat.le_of_ble_eq_true rfl⟩ rfl dL_law_990 hT (fun r9 w1 H locs hr9 hP hP2 hD hap hS => ?_)
  obtain ⟨er9, hΨ⟩ := hr9
  rw [er9]
  refine lv_aload_n hx hb dL_law_993 rfl (lv_at hl 1 rfl) ?_
  refine lw_arg hx hb hX hbl hbA hS hl hi 1 (by decide) dL_law_994 dL_law_995 dL_law_996 dL_law_997 dL_law_998 ?_
  refine z_callF (ci := 6) (q0 := 0) (As := [.int (iI (ar xs i 1))]) (rest := [.int (iI r)]) X hK hP2 hP hD2 hap.symm hA hS hl.1 gL_law_X6_book rfl ⟨g2.1, g2.2.1⟩ hd_X6_book (g2.R (Nat.le_of_ble_eq_true rfl)) rfl e2 rfl (Nat.le_of_ble_eq_true rfl) ⟨Nat.le_of_ble_eq_true rfl, Nat.le_of_ble_eq_true rfl⟩ rfl dL_law_999 hM (fun r8 w2 H locs hr8 hP2 hP hD2 hap hS => ?_)
  obtain ⟨er8, hΦ⟩ := hr8
  rw [er8]
  refine lv_icmp_eq (tgt := 1363) hx hb dL_law_1002 (by decide) (fun _ => ?_) (fun q => absurd rfl q)
  exact kk w1 w2 H locs (hE w1 w2 hΨ hΦ) hP hP2 hD hD2 hap.symm hS
set_option maxHeartbeats 2000000 in
theorem law_c27 (X : Cx p s m meth c cL_law 4 (some .boolean) wsL_law RL #[.ref b]) (hX : va_X b L xs s s.heap) (hbl : b < s.heap.size) (hbA : ¬ A b) (hA : ∀ q, s.heap.size ≤ q → A q) (hK : va_K D vwCl [(cy, .int)] s) (hi : 0 ≤ i ∧ i + 5 ≤ L ∧ L ≤ 2560) (hl : lv_has ls 4 (lwL b (qT 0) (qM 0) i)) (hs : Sim qT qM cy wt wm) (hP : va_P D vwCl wt H) (hP2 : va_P D vwCl wm H) (hD : va_D A wt) (hD2 : va_D A wm) (hap : ap wt wm) (hS : va_S A s.heap H locs) (kk : ∀ (wt wm : va_W) (H : Heap) (locs : List Loc), Sim qT qM cy wt wm → va_P D vwCl wt H → va_P D vwCl wm H → va_D A wt → va_D A wm → ap wt wm → va_S A s.heap H locs → W p l e room_1 s m #[.ref b] below meth c H locs 35 3975 Q (F0 m 1363 ls [])) : W p l e room_1 s m #[.ref b] below meth c H locs 35 3975 Q (F0 m 1007 ls []) := by
  obtain ⟨hx, hb, hml, hr, hts, hown, hlocks⟩ := id X
  obtain ⟨f1, e1⟩ := hs.t
  obtain ⟨f2, e2⟩ := hs.m
  obtain ⟨r, Ψ, Φ, rT, rM, g1, g2, hT, hM, hE⟩ := pr_together (l := l) (D := D) (cy := cy) (qT := qT) (qM := qM) (ar xs i 1) (ar xs i 2) (⟨(ar_rg xs i 1).1, (ar_rg xs i 1).2, ar_rg xs i 2⟩) wt wm hs
  refine lv_aload_n hx hb dL_law_1007 rfl (lv_at hl 2 rfl) ?_
  refine lw_arg hx hb hX hbl hbA hS hl hi 1 (by decide) dL_law_1008 dL_law_1009 dL_law_1010 dL_law_1011 dL_law_1012 ?_
  refine lw_arg hx hb hX hbl hbA hS hl hi 2 (by decide) dL_law_1013 dL_law_1014 dL_law_1015 dL_law_1016 dL_law_1017 ?_
  refine z_callF (ci := 5) (q0 := 0) (As := [.int (iI (ar xs i 1)), .int (iI (ar xs i 2))]) (rest := []) X hK hP hP2 hD hap hA hS hl.1 gL_law_X5_together rfl ⟨g1.1, g1.2.1⟩ hd_X5_together (g1.R (Nat.le_of_ble_eq_true rfl)) rfl e1 rfl (Nat.le_of_ble_eq_true rfl) ⟨Nat.le_of_ble_eq_true rfl, Nat.le_of_ble_eq_true rfl⟩ rfl dL_law_1018 hT (fun r9 w1 H locs hr9 hP hP2 hD hap hS => ?_)
  obtain ⟨er9, hΨ⟩ := hr9
  rw [er9]
  refine lv_aload_n hx hb dL_law_1021 rfl (lv_at hl 1 rfl) ?_
  refine lw_arg hx hb hX hbl hbA hS hl hi 1 (by decide) dL_law_1022 dL_law_1023 dL_law_1024 dL_law_1025 dL_law_1026 ?_
  refine lw_arg hx hb hX hbl hbA hS hl hi 2 (by decide) dL_law_1027 dL_law_1028 dL_law_1029 dL_law_1030 dL_law_1031 ?_
  refine z_callF (ci := 6) (q0 := 0) (As := [.int (iI (ar xs i 1)), .int (iI (ar xs i 2))]) (rest := [.int (iI r)]) X hK hP2 hP hD2 hap.symm hA hS hl.1 gL_law_X6_together rfl ⟨g2.1, g2.2.1⟩ hd_X6_together (g2.R (Nat.le_of_ble_eq_true rfl)) rfl e2 rfl (Nat.le_of_ble_eq_true rfl) ⟨Nat.le_of_ble_eq_true rfl, Nat.le_of_ble_eq_true rfl⟩ rfl dL_law_1032 hM (fun r8 w2 H locs hr8 hP2 hP hD2 hap hS => ?_)
  obtain ⟨er8, hΦ⟩ := hr8
  rw [er8]
  refine lv_icmp_eq (tgt := 1363) hx hb dL_law_1035 (by decide) (fun _ => ?_) (fun q => absurd rfl q)
  exact kk w1 w2 H locs (hE w1 w2 hΨ hΦ) hP hP2 hD hD2 hap.symm hS
set_option maxHeartbeats 2000000 in
theorem law_c28 (X : Cx p s m meth c cL_law 4 (some .boolean) wsL_law RL #[.ref b]) (hX : va_X b L xs s s.heap) (hbl : b < s.heap.size) (hbA : ¬ A b) (hA : ∀ q, s.heap.size ≤ q → A q) (hK : va_K D vwCl [(cy, .int)] s) (hi : 0 ≤ i ∧ i + 5 ≤ L ∧ L ≤ 2560) (hl : lv_has ls 4 (lwL b (qT 0) (qM 0) i)) (hs : Sim qT qM cy wt wm) (hP : va_P D vwCl wt H) (hP2 : va_P D vwCl wm H) (hD : va_D A wt) (hD2 : va_D A wm) (hap : ap wt wm) (hS : va_S A s.heap H locs) (kk : ∀ (wt wm : va_W) (H : Heap) (locs : List Loc), Sim qT qM cy wt wm → va_P D vwCl wt H → va_P D vwCl wm H → va_D A wt → va_D A wm → ap wt wm → va_S A s.heap H locs → W p l e room_1 s m #[.ref b] below meth c H locs 35 3975 Q (F0 m 1363 ls [])) : W p l e room_1 s m #[.ref b] below meth c H locs 35 3975 Q (F0 m 1040 ls []) := by
  obtain ⟨hx, hb, hml, hr, hts, hown, hlocks⟩ := id X
  obtain ⟨f1, e1⟩ := hs.t
  obtain ⟨f2, e2⟩ := hs.m
  obtain ⟨r, Ψ, Φ, rT, rM, g1, g2, hT, hM, hE⟩ := pr_fewest (l := l) (D := D) (cy := cy) (qT := qT) (qM := qM) (ar xs i 1) (ar_rg xs i 1) wt wm hs
  refine lv_aload_n hx hb dL_law_1040 rfl (lv_at hl 2 rfl) ?_
  refine lw_arg hx hb hX hbl hbA hS hl hi 1 (by decide) dL_law_1041 dL_law_1042 dL_law_1043 dL_law_1044 dL_law_1045 ?_
  refine z_callF (ci := 5) (q0 := 0) (As := [.int (iI (ar xs i 1))]) (rest := []) X hK hP hP2 hD hap hA hS hl.1 gL_law_X5_fewest rfl ⟨g1.1, g1.2.1⟩ hd_X5_fewest (g1.R (Nat.le_of_ble_eq_true rfl)) rfl e1 rfl (Nat.le_of_ble_eq_true rfl) ⟨Nat.le_of_ble_eq_true rfl, Nat.le_of_ble_eq_true rfl⟩ rfl dL_law_1046 hT (fun r9 w1 H locs hr9 hP hP2 hD hap hS => ?_)
  obtain ⟨er9, hΨ⟩ := hr9
  rw [er9]
  refine lv_aload_n hx hb dL_law_1049 rfl (lv_at hl 1 rfl) ?_
  refine lw_arg hx hb hX hbl hbA hS hl hi 1 (by decide) dL_law_1050 dL_law_1051 dL_law_1052 dL_law_1053 dL_law_1054 ?_
  refine z_callF (ci := 6) (q0 := 0) (As := [.int (iI (ar xs i 1))]) (rest := [.int (iI r)]) X hK hP2 hP hD2 hap.symm hA hS hl.1 gL_law_X6_fewest rfl ⟨g2.1, g2.2.1⟩ hd_X6_fewest (g2.R (Nat.le_of_ble_eq_true rfl)) rfl e2 rfl (Nat.le_of_ble_eq_true rfl) ⟨Nat.le_of_ble_eq_true rfl, Nat.le_of_ble_eq_true rfl⟩ rfl dL_law_1055 hM (fun r8 w2 H locs hr8 hP2 hP hD2 hap hS => ?_)
  obtain ⟨er8, hΦ⟩ := hr8
  rw [er8]
  refine lv_icmp_eq (tgt := 1363) hx hb dL_law_1058 (by decide) (fun _ => ?_) (fun q => absurd rfl q)
  exact kk w1 w2 H locs (hE w1 w2 hΨ hΦ) hP hP2 hD hD2 hap.symm hS
set_option maxHeartbeats 2000000 in
theorem law_c29 (X : Cx p s m meth c cL_law 4 (some .boolean) wsL_law RL #[.ref b]) (hX : va_X b L xs s s.heap) (hbl : b < s.heap.size) (hbA : ¬ A b) (hA : ∀ q, s.heap.size ≤ q → A q) (hK : va_K D vwCl [(cy, .int)] s) (hi : 0 ≤ i ∧ i + 5 ≤ L ∧ L ≤ 2560) (hl : lv_has ls 4 (lwL b (qT 0) (qM 0) i)) (hs : Sim qT qM cy wt wm) (hP : va_P D vwCl wt H) (hP2 : va_P D vwCl wm H) (hD : va_D A wt) (hD2 : va_D A wm) (hap : ap wt wm) (hS : va_S A s.heap H locs) (kk : ∀ (wt wm : va_W) (H : Heap) (locs : List Loc), Sim qT qM cy wt wm → va_P D vwCl wt H → va_P D vwCl wm H → va_D A wt → va_D A wm → ap wt wm → va_S A s.heap H locs → W p l e room_1 s m #[.ref b] below meth c H locs 35 3975 Q (F0 m 1363 ls [])) : W p l e room_1 s m #[.ref b] below meth c H locs 35 3975 Q (F0 m 1063 ls []) := by
  obtain ⟨hx, hb, hml, hr, hts, hown, hlocks⟩ := id X
  obtain ⟨f1, e1⟩ := hs.t
  obtain ⟨f2, e2⟩ := hs.m
  obtain ⟨r, Ψ, Φ, rT, rM, g1, g2, hT, hM, hE⟩ := pr_least (l := l) (D := D) (cy := cy) (qT := qT) (qM := qM) (ar xs i 1) (ar xs i 2) (⟨(ar_rg xs i 1).1, (ar_rg xs i 1).2, ar_rg xs i 2⟩) wt wm hs
  refine lv_aload_n hx hb dL_law_1063 rfl (lv_at hl 2 rfl) ?_
  refine lw_arg hx hb hX hbl hbA hS hl hi 1 (by decide) dL_law_1064 dL_law_1065 dL_law_1066 dL_law_1067 dL_law_1068 ?_
  refine lw_arg hx hb hX hbl hbA hS hl hi 2 (by decide) dL_law_1069 dL_law_1070 dL_law_1071 dL_law_1072 dL_law_1073 ?_
  refine z_callF (ci := 5) (q0 := 0) (As := [.int (iI (ar xs i 1)), .int (iI (ar xs i 2))]) (rest := []) X hK hP hP2 hD hap hA hS hl.1 gL_law_X5_least rfl ⟨g1.1, g1.2.1⟩ hd_X5_least (g1.R (Nat.le_of_ble_eq_true rfl)) rfl e1 rfl (Nat.le_of_ble_eq_true rfl) ⟨Nat.le_of_ble_eq_true rfl, Nat.le_of_ble_eq_true rfl⟩ rfl dL_law_1074 hT (fun r9 w1 H locs hr9 hP hP2 hD hap hS => ?_)
  obtain ⟨er9, hΨ⟩ := hr9
  rw [er9]
  refine lv_aload_n hx hb dL_law_1077 rfl (lv_at hl 1 rfl) ?_
  refine lw_arg hx hb hX hbl hbA hS hl hi 1 (by decide) dL_law_1078 dL_law_1079 dL_law_1080 dL_law_1081 dL_law_1082 ?_
  refine lw_arg hx hb hX hbl hbA hS hl hi 2 (by decide) dL_law_1083 dL_law_1084 dL_law_1085 dL_law_1086 dL_law_1087 ?_
  refine z_callF (ci := 6) (q0 := 0) (As := [.int (iI (ar xs i 1)), .int (iI (ar xs i 2))]) (rest := [.int (iI r)]) X hK hP2 hP hD2 hap.symm hA hS hl.1 gL_law_X6_least rfl ⟨g2.1, g2.2.1⟩ hd_X6_least (g2.R (Nat.le_of_ble_eq_true rfl)) rfl e2 rfl (Nat.le_of_ble_eq_true rfl) ⟨Nat.le_of_ble_eq_true rfl, Nat.le_of_ble_eq_true rfl⟩ rfl dL_law_1088 hM (fun r8 w2 H locs hr8 hP2 hP hD2 hap hS => ?_)
  obtain ⟨er8, hΦ⟩ := hr8
  rw [er8]
  refine lv_icmp_eq (tgt := 1363) hx hb dL_law_1091 (by decide) (fun _ => ?_) (fun q => absurd rfl q)
  exact kk w1 w2 H locs (hE w1 w2 hΨ hΦ) hP hP2 hD hD2 hap.symm hS
set_option maxHeartbeats 2000000 in
theorem law_c30 (X : Cx p s m meth c cL_law 4 (some .boolean) wsL_law RL #[.ref b]) (hX : va_X b L xs s s.heap) (hbl : b < s.heap.size) (hbA : ¬ A b) (hA : ∀ q, s.heap.size ≤ q → A q) (hK : va_K D vwCl [(cy, .int)] s) (hi : 0 ≤ i ∧ i + 5 ≤ L ∧ L ≤ 2560) (hl : lv_has ls 4 (lwL b (qT 0) (qM 0) i)) (hs : Sim qT qM cy wt wm) (hP : va_P D vwCl wt H) (hP2 : va_P D vwCl wm H) (hD : va_D A wt) (hD2 : va_D A wm) (hap : ap wt wm) (hS : va_S A s.heap H locs) (kk : ∀ (wt wm : va_W) (H : Heap) (locs : List Loc), Sim qT qM cy wt wm → va_P D vwCl wt H → va_P D vwCl wm H → va_D A wt → va_D A wm → ap wt wm → va_S A s.heap H locs → W p l e room_1 s m #[.ref b] below meth c H locs 35 3975 Q (F0 m 1363 ls [])) : W p l e room_1 s m #[.ref b] below meth c H locs 35 3975 Q (F0 m 1096 ls []) := by
  obtain ⟨hx, hb, hml, hr, hts, hown, hlocks⟩ := id X
  obtain ⟨f1, e1⟩ := hs.t
  obtain ⟨f2, e2⟩ := hs.m
  obtain ⟨r, Ψ, Φ, rT, rM, g1, g2, hT, hM, hE⟩ := pr_group (l := l) (D := D) (cy := cy) (qT := qT) (qM := qM) (ar xs i 1) (ar xs i 2) (ar xs i 3) (⟨(ar_rg xs i 1).1, (ar_rg xs i 1).2, (ar_rg xs i 2).1, (ar_rg xs i 2).2, ar_rg xs i 3⟩) wt wm hs
  refine lv_aload_n hx hb dL_law_1096 rfl (lv_at hl 2 rfl) ?_
  refine lw_arg hx hb hX hbl hbA hS hl hi 1 (by decide) dL_law_1097 dL_law_1098 dL_law_1099 dL_law_1100 dL_law_1101 ?_
  refine lw_arg hx hb hX hbl hbA hS hl hi 2 (by decide) dL_law_1102 dL_law_1103 dL_law_1104 dL_law_1105 dL_law_1106 ?_
  refine lw_arg hx hb hX hbl hbA hS hl hi 3 (by decide) dL_law_1107 dL_law_1108 dL_law_1109 dL_law_1110 dL_law_1111 ?_
  refine z_callF (ci := 5) (q0 := 0) (As := [.int (iI (ar xs i 1)), .int (iI (ar xs i 2)), .int (iI (ar xs i 3))]) (rest := []) X hK hP hP2 hD hap hA hS hl.1 gL_law_X5_group rfl ⟨g1.1, g1.2.1⟩ hd_X5_group (g1.R (Nat.le_of_ble_eq_true rfl)) rfl e1 rfl (Nat.le_of_ble_eq_true rfl) ⟨Nat.le_of_ble_eq_true rfl, Nat.le_of_ble_eq_true rfl⟩ rfl dL_law_1112 hT (fun r9 w1 H locs hr9 hP hP2 hD hap hS => ?_)
  obtain ⟨er9, hΨ⟩ := hr9
  rw [er9]
  refine lv_aload_n hx hb dL_law_1115 rfl (lv_at hl 1 rfl) ?_
  refine lw_arg hx hb hX hbl hbA hS hl hi 1 (by decide) dL_law_1116 dL_law_1117 dL_law_1118 dL_law_1119 dL_law_1120 ?_
  refine lw_arg hx hb hX hbl hbA hS hl hi 2 (by decide) dL_law_1121 dL_law_1122 dL_law_1123 dL_law_1124 dL_law_1125 ?_
  refine lw_arg hx hb hX hbl hbA hS hl hi 3 (by decide) dL_law_1126 dL_law_1127 dL_law_1128 dL_law_1129 dL_law_1130 ?_
  refine z_callF (ci := 6) (q0 := 0) (As := [.int (iI (ar xs i 1)), .int (iI (ar xs i 2)), .int (iI (ar xs i 3))]) (rest := [.int (iI r)]) X hK hP2 hP hD2 hap.symm hA hS hl.1 gL_law_X6_group rfl ⟨g2.1, g2.2.1⟩ hd_X6_group (g2.R (Nat.le_of_ble_eq_true rfl)) rfl e2 rfl (Nat.le_of_ble_eq_true rfl) ⟨Nat.le_of_ble_eq_true rfl, Nat.le_of_ble_eq_true rfl⟩ rfl dL_law_1131 hM (fun r8 w2 H locs hr8 hP2 hP hD2 hap hS => ?_)
  obtain ⟨er8, hΦ⟩ := hr8
  rw [er8]
  refine lv_icmp_eq (tgt := 1363) hx hb dL_law_1134 (by decide) (fun _ => ?_) (fun q => absurd rfl q)
  exact kk w1 w2 H locs (hE w1 w2 hΨ hΦ) hP hP2 hD hD2 hap.symm hS
set_option maxHeartbeats 2000000 in
theorem law_c31 (X : Cx p s m meth c cL_law 4 (some .boolean) wsL_law RL #[.ref b]) (hX : va_X b L xs s s.heap) (hbl : b < s.heap.size) (hbA : ¬ A b) (hA : ∀ q, s.heap.size ≤ q → A q) (hK : va_K D vwCl [(cy, .int)] s) (hi : 0 ≤ i ∧ i + 5 ≤ L ∧ L ≤ 2560) (hl : lv_has ls 4 (lwL b (qT 0) (qM 0) i)) (hs : Sim qT qM cy wt wm) (hP : va_P D vwCl wt H) (hP2 : va_P D vwCl wm H) (hD : va_D A wt) (hD2 : va_D A wm) (hap : ap wt wm) (hS : va_S A s.heap H locs) (kk : ∀ (wt wm : va_W) (H : Heap) (locs : List Loc), Sim qT qM cy wt wm → va_P D vwCl wt H → va_P D vwCl wm H → va_D A wt → va_D A wm → ap wt wm → va_S A s.heap H locs → W p l e room_1 s m #[.ref b] below meth c H locs 35 3975 Q (F0 m 1363 ls [])) : W p l e room_1 s m #[.ref b] below meth c H locs 35 3975 Q (F0 m 1139 ls []) := by
  obtain ⟨hx, hb, hml, hr, hts, hown, hlocks⟩ := id X
  obtain ⟨f1, e1⟩ := hs.t
  obtain ⟨f2, e2⟩ := hs.m
  obtain ⟨r, Ψ, Φ, rT, rM, g1, g2, hT, hM, hE⟩ := pr_setUp (l := l) (D := D) (cy := cy) (qT := qT) (qM := qM) (ar xs i 1) (ar xs i 2) (⟨(ar_rg xs i 1).1, (ar_rg xs i 1).2, ar_rg xs i 2⟩) wt wm hs
  refine lv_aload_n hx hb dL_law_1139 rfl (lv_at hl 2 rfl) ?_
  refine lw_arg hx hb hX hbl hbA hS hl hi 1 (by decide) dL_law_1140 dL_law_1141 dL_law_1142 dL_law_1143 dL_law_1144 ?_
  refine lw_arg hx hb hX hbl hbA hS hl hi 2 (by decide) dL_law_1145 dL_law_1146 dL_law_1147 dL_law_1148 dL_law_1149 ?_
  refine z_callF (ci := 5) (q0 := 0) (As := [.int (iI (ar xs i 1)), .int (iI (ar xs i 2))]) (rest := []) X hK hP hP2 hD hap hA hS hl.1 gL_law_X5_setUp rfl ⟨g1.1, g1.2.1⟩ hd_X5_setUp (g1.R (Nat.le_of_ble_eq_true rfl)) rfl e1 rfl (Nat.le_of_ble_eq_true rfl) ⟨Nat.le_of_ble_eq_true rfl, Nat.le_of_ble_eq_true rfl⟩ rfl dL_law_1150 hT (fun r9 w1 H locs hr9 hP hP2 hD hap hS => ?_)
  obtain ⟨er9, hΨ⟩ := hr9
  rw [er9]
  refine lv_aload_n hx hb dL_law_1153 rfl (lv_at hl 1 rfl) ?_
  refine lw_arg hx hb hX hbl hbA hS hl hi 1 (by decide) dL_law_1154 dL_law_1155 dL_law_1156 dL_law_1157 dL_law_1158 ?_
  refine lw_arg hx hb hX hbl hbA hS hl hi 2 (by decide) dL_law_1159 dL_law_1160 dL_law_1161 dL_law_1162 dL_law_1163 ?_
  refine z_callF (ci := 6) (q0 := 0) (As := [.int (iI (ar xs i 1)), .int (iI (ar xs i 2))]) (rest := [.int (iI r)]) X hK hP2 hP hD2 hap.symm hA hS hl.1 gL_law_X6_setUp rfl ⟨g2.1, g2.2.1⟩ hd_X6_setUp (g2.R (Nat.le_of_ble_eq_true rfl)) rfl e2 rfl (Nat.le_of_ble_eq_true rfl) ⟨Nat.le_of_ble_eq_true rfl, Nat.le_of_ble_eq_true rfl⟩ rfl dL_law_1164 hM (fun r8 w2 H locs hr8 hP2 hP hD2 hap hS => ?_)
  obtain ⟨er8, hΦ⟩ := hr8
  rw [er8]
  refine lv_icmp_eq (tgt := 1363) hx hb dL_law_1167 (by decide) (fun _ => ?_) (fun q => absurd rfl q)
  exact kk w1 w2 H locs (hE w1 w2 hΨ hΦ) hP hP2 hD hD2 hap.symm hS
set_option maxHeartbeats 2000000 in
theorem law_c32 (X : Cx p s m meth c cL_law 4 (some .boolean) wsL_law RL #[.ref b]) (hX : va_X b L xs s s.heap) (hbl : b < s.heap.size) (hbA : ¬ A b) (hA : ∀ q, s.heap.size ≤ q → A q) (hK : va_K D vwCl [(cy, .int)] s) (hi : 0 ≤ i ∧ i + 5 ≤ L ∧ L ≤ 2560) (hl : lv_has ls 4 (lwL b (qT 0) (qM 0) i)) (hs : Sim qT qM cy wt wm) (hP : va_P D vwCl wt H) (hP2 : va_P D vwCl wm H) (hD : va_D A wt) (hD2 : va_D A wm) (hap : ap wt wm) (hS : va_S A s.heap H locs) (kk : ∀ (wt wm : va_W) (H : Heap) (locs : List Loc), Sim qT qM cy wt wm → va_P D vwCl wt H → va_P D vwCl wm H → va_D A wt → va_D A wm → ap wt wm → va_S A s.heap H locs → W p l e room_1 s m #[.ref b] below meth c H locs 35 3975 Q (F0 m 1363 ls [])) : W p l e room_1 s m #[.ref b] below meth c H locs 35 3975 Q (F0 m 1172 ls []) := by
  obtain ⟨hx, hb, hml, hr, hts, hown, hlocks⟩ := id X
  obtain ⟨f1, e1⟩ := hs.t
  obtain ⟨f2, e2⟩ := hs.m
  obtain ⟨r, Ψ, Φ, rT, rM, g1, g2, hT, hM, hE⟩ := pr_measure (l := l) (D := D) (cy := cy) (qT := qT) (qM := qM) (ar xs i 1) (ar xs i 2) (⟨(ar_rg xs i 1).1, (ar_rg xs i 1).2, ar_rg xs i 2⟩) wt wm hs
  refine lv_aload_n hx hb dL_law_1172 rfl (lv_at hl 2 rfl) ?_
  refine lw_arg hx hb hX hbl hbA hS hl hi 1 (by decide) dL_law_1173 dL_law_1174 dL_law_1175 dL_law_1176 dL_law_1177 ?_
  refine lw_arg hx hb hX hbl hbA hS hl hi 2 (by decide) dL_law_1178 dL_law_1179 dL_law_1180 dL_law_1181 dL_law_1182 ?_
  refine z_callF (ci := 5) (q0 := 0) (As := [.int (iI (ar xs i 1)), .int (iI (ar xs i 2))]) (rest := []) X hK hP hP2 hD hap hA hS hl.1 gL_law_X5_measure rfl ⟨g1.1, g1.2.1⟩ hd_X5_measure (g1.R (Nat.le_of_ble_eq_true rfl)) rfl e1 rfl (Nat.le_of_ble_eq_true rfl) ⟨Nat.le_of_ble_eq_true rfl, Nat.le_of_ble_eq_true rfl⟩ rfl dL_law_1183 hT (fun r9 w1 H locs hr9 hP hP2 hD hap hS => ?_)
  obtain ⟨er9, hΨ⟩ := hr9
  rw [er9]
  refine lv_aload_n hx hb dL_law_1186 rfl (lv_at hl 1 rfl) ?_
  refine lw_arg hx hb hX hbl hbA hS hl hi 1 (by decide) dL_law_1187 dL_law_1188 dL_law_1189 dL_law_1190 dL_law_1191 ?_
  refine lw_arg hx hb hX hbl hbA hS hl hi 2 (by decide) dL_law_1192 dL_law_1193 dL_law_1194 dL_law_1195 dL_law_1196 ?_
  refine z_callF (ci := 6) (q0 := 0) (As := [.int (iI (ar xs i 1)), .int (iI (ar xs i 2))]) (rest := [.int (iI r)]) X hK hP2 hP hD2 hap.symm hA hS hl.1 gL_law_X6_measure rfl ⟨g2.1, g2.2.1⟩ hd_X6_measure (g2.R (Nat.le_of_ble_eq_true rfl)) rfl e2 rfl (Nat.le_of_ble_eq_true rfl) ⟨Nat.le_of_ble_eq_true rfl, Nat.le_of_ble_eq_true rfl⟩ rfl dL_law_1197 hM (fun r8 w2 H locs hr8 hP2 hP hD2 hap hS => ?_)
  obtain ⟨er8, hΦ⟩ := hr8
  rw [er8]
  refine lv_icmp_eq (tgt := 1363) hx hb dL_law_1200 (by decide) (fun _ => ?_) (fun q => absurd rfl q)
  exact kk w1 w2 H locs (hE w1 w2 hΨ hΦ) hP hP2 hD hD2 hap.symm hS
set_option maxHeartbeats 2000000 in
theorem law_c33 (X : Cx p s m meth c cL_law 4 (some .boolean) wsL_law RL #[.ref b]) (hX : va_X b L xs s s.heap) (hbl : b < s.heap.size) (hbA : ¬ A b) (hA : ∀ q, s.heap.size ≤ q → A q) (hK : va_K D vwCl [(cy, .int)] s) (hi : 0 ≤ i ∧ i + 5 ≤ L ∧ L ≤ 2560) (hl : lv_has ls 4 (lwL b (qT 0) (qM 0) i)) (hs : Sim qT qM cy wt wm) (hP : va_P D vwCl wt H) (hP2 : va_P D vwCl wm H) (hD : va_D A wt) (hD2 : va_D A wm) (hap : ap wt wm) (hS : va_S A s.heap H locs) (kk : ∀ (wt wm : va_W) (H : Heap) (locs : List Loc), Sim qT qM cy wt wm → va_P D vwCl wt H → va_P D vwCl wm H → va_D A wt → va_D A wm → ap wt wm → va_S A s.heap H locs → W p l e room_1 s m #[.ref b] below meth c H locs 35 3975 Q (F0 m 1363 ls [])) : W p l e room_1 s m #[.ref b] below meth c H locs 35 3975 Q (F0 m 1205 ls []) := by
  obtain ⟨hx, hb, hml, hr, hts, hown, hlocks⟩ := id X
  obtain ⟨f1, e1⟩ := hs.t
  obtain ⟨f2, e2⟩ := hs.m
  obtain ⟨r, Ψ, Φ, rT, rM, g1, g2, hT, hM, hE⟩ := pr_misfit (l := l) (D := D) (cy := cy) (qT := qT) (qM := qM) (ar xs i 1) (ar xs i 2) (⟨(ar_rg xs i 1).1, (ar_rg xs i 1).2, ar_rg xs i 2⟩) wt wm hs
  refine lv_aload_n hx hb dL_law_1205 rfl (lv_at hl 2 rfl) ?_
  refine lw_arg hx hb hX hbl hbA hS hl hi 1 (by decide) dL_law_1206 dL_law_1207 dL_law_1208 dL_law_1209 dL_law_1210 ?_
  refine lw_arg hx hb hX hbl hbA hS hl hi 2 (by decide) dL_law_1211 dL_law_1212 dL_law_1213 dL_law_1214 dL_law_1215 ?_
  refine z_callF (ci := 5) (q0 := 0) (As := [.int (iI (ar xs i 1)), .int (iI (ar xs i 2))]) (rest := []) X hK hP hP2 hD hap hA hS hl.1 gL_law_X5_misfit rfl ⟨g1.1, g1.2.1⟩ hd_X5_misfit (g1.R (Nat.le_of_ble_eq_true rfl)) rfl e1 rfl (Nat.le_of_ble_eq_true rfl) ⟨Nat.le_of_ble_eq_true rfl, Nat.le_of_ble_eq_true rfl⟩ rfl dL_law_1216 hT (fun r9 w1 H locs hr9 hP hP2 hD hap hS => ?_)
  obtain ⟨er9, hΨ⟩ := hr9
  rw [er9]
  refine lv_aload_n hx hb dL_law_1219 rfl (lv_at hl 1 rfl) ?_
  refine lw_arg hx hb hX hbl hbA hS hl hi 1 (by decide) dL_law_1220 dL_law_1221 dL_law_1222 dL_law_1223 dL_law_1224 ?_
  refine lw_arg hx hb hX hbl hbA hS hl hi 2 (by decide) dL_law_1225 dL_law_1226 dL_law_1227 dL_law_1228 dL_law_1229 ?_
  refine z_callF (ci := 6) (q0 := 0) (As := [.int (iI (ar xs i 1)), .int (iI (ar xs i 2))]) (rest := [.int (iI r)]) X hK hP2 hP hD2 hap.symm hA hS hl.1 gL_law_X6_misfit rfl ⟨g2.1, g2.2.1⟩ hd_X6_misfit (g2.R (Nat.le_of_ble_eq_true rfl)) rfl e2 rfl (Nat.le_of_ble_eq_true rfl) ⟨Nat.le_of_ble_eq_true rfl, Nat.le_of_ble_eq_true rfl⟩ rfl dL_law_1230 hM (fun r8 w2 H locs hr8 hP2 hP hD2 hap hS => ?_)
  obtain ⟨er8, hΦ⟩ := hr8
  rw [er8]
  refine lv_icmp_eq (tgt := 1363) hx hb dL_law_1233 (by decide) (fun _ => ?_) (fun q => absurd rfl q)
  exact kk w1 w2 H locs (hE w1 w2 hΨ hΦ) hP hP2 hD hD2 hap.symm hS
set_option maxHeartbeats 2000000 in
theorem law_c34 (X : Cx p s m meth c cL_law 4 (some .boolean) wsL_law RL #[.ref b]) (hX : va_X b L xs s s.heap) (hbl : b < s.heap.size) (hbA : ¬ A b) (hA : ∀ q, s.heap.size ≤ q → A q) (hK : va_K D vwCl [(cy, .int)] s) (hi : 0 ≤ i ∧ i + 5 ≤ L ∧ L ≤ 2560) (hl : lv_has ls 4 (lwL b (qT 0) (qM 0) i)) (hs : Sim qT qM cy wt wm) (hP : va_P D vwCl wt H) (hP2 : va_P D vwCl wm H) (hD : va_D A wt) (hD2 : va_D A wm) (hap : ap wt wm) (hS : va_S A s.heap H locs) (kk : ∀ (wt wm : va_W) (H : Heap) (locs : List Loc), Sim qT qM cy wt wm → va_P D vwCl wt H → va_P D vwCl wm H → va_D A wt → va_D A wm → ap wt wm → va_S A s.heap H locs → W p l e room_1 s m #[.ref b] below meth c H locs 35 3975 Q (F0 m 1363 ls [])) : W p l e room_1 s m #[.ref b] below meth c H locs 35 3975 Q (F0 m 1238 ls []) := by
  obtain ⟨hx, hb, hml, hr, hts, hown, hlocks⟩ := id X
  obtain ⟨f1, e1⟩ := hs.t
  obtain ⟨f2, e2⟩ := hs.m
  obtain ⟨r, Ψ, Φ, rT, rM, g1, g2, hT, hM, hE⟩ := pr_found (l := l) (D := D) (cy := cy) (qT := qT) (qM := qM) (ar xs i 1) (ar xs i 2) (⟨(ar_rg xs i 1).1, (ar_rg xs i 1).2, ar_rg xs i 2⟩) wt wm hs
  refine lv_aload_n hx hb dL_law_1238 rfl (lv_at hl 2 rfl) ?_
  refine lw_arg hx hb hX hbl hbA hS hl hi 1 (by decide) dL_law_1239 dL_law_1240 dL_law_1241 dL_law_1242 dL_law_1243 ?_
  refine lw_arg hx hb hX hbl hbA hS hl hi 2 (by decide) dL_law_1244 dL_law_1245 dL_law_1246 dL_law_1247 dL_law_1248 ?_
  refine z_callF (ci := 5) (q0 := 0) (As := [.int (iI (ar xs i 1)), .int (iI (ar xs i 2))]) (rest := []) X hK hP hP2 hD hap hA hS hl.1 gL_law_X5_found rfl ⟨g1.1, g1.2.1⟩ hd_X5_found (g1.R (Nat.le_of_ble_eq_true rfl)) rfl e1 rfl (Nat.le_of_ble_eq_true rfl) ⟨Nat.le_of_ble_eq_true rfl, Nat.le_of_ble_eq_true rfl⟩ rfl dL_law_1249 hT (fun r9 w1 H locs hr9 hP hP2 hD hap hS => ?_)
  obtain ⟨er9, hΨ⟩ := hr9
  rw [er9]
  refine lv_aload_n hx hb dL_law_1252 rfl (lv_at hl 1 rfl) ?_
  refine lw_arg hx hb hX hbl hbA hS hl hi 1 (by decide) dL_law_1253 dL_law_1254 dL_law_1255 dL_law_1256 dL_law_1257 ?_
  refine lw_arg hx hb hX hbl hbA hS hl hi 2 (by decide) dL_law_1258 dL_law_1259 dL_law_1260 dL_law_1261 dL_law_1262 ?_
  refine z_callF (ci := 6) (q0 := 0) (As := [.int (iI (ar xs i 1)), .int (iI (ar xs i 2))]) (rest := [.int (iI r)]) X hK hP2 hP hD2 hap.symm hA hS hl.1 gL_law_X6_found rfl ⟨g2.1, g2.2.1⟩ hd_X6_found (g2.R (Nat.le_of_ble_eq_true rfl)) rfl e2 rfl (Nat.le_of_ble_eq_true rfl) ⟨Nat.le_of_ble_eq_true rfl, Nat.le_of_ble_eq_true rfl⟩ rfl dL_law_1263 hM (fun r8 w2 H locs hr8 hP2 hP hD2 hap hS => ?_)
  obtain ⟨er8, hΦ⟩ := hr8
  rw [er8]
  refine lv_icmp_eq (tgt := 1363) hx hb dL_law_1266 (by decide) (fun _ => ?_) (fun q => absurd rfl q)
  exact kk w1 w2 H locs (hE w1 w2 hΨ hΦ) hP hP2 hD hD2 hap.symm hS
set_option maxHeartbeats 2000000 in
theorem law_c35 (X : Cx p s m meth c cL_law 4 (some .boolean) wsL_law RL #[.ref b]) (hX : va_X b L xs s s.heap) (hbl : b < s.heap.size) (hbA : ¬ A b) (hA : ∀ q, s.heap.size ≤ q → A q) (hK : va_K D vwCl [(cy, .int)] s) (hi : 0 ≤ i ∧ i + 5 ≤ L ∧ L ≤ 2560) (hl : lv_has ls 4 (lwL b (qT 0) (qM 0) i)) (hs : Sim qT qM cy wt wm) (hP : va_P D vwCl wt H) (hP2 : va_P D vwCl wm H) (hD : va_D A wt) (hD2 : va_D A wm) (hap : ap wt wm) (hS : va_S A s.heap H locs) (kk : ∀ (wt wm : va_W) (H : Heap) (locs : List Loc), Sim qT qM cy wt wm → va_P D vwCl wt H → va_P D vwCl wm H → va_D A wt → va_D A wm → ap wt wm → va_S A s.heap H locs → W p l e room_1 s m #[.ref b] below meth c H locs 35 3975 Q (F0 m 1363 ls [])) : W p l e room_1 s m #[.ref b] below meth c H locs 35 3975 Q (F0 m 1271 ls []) := by
  obtain ⟨hx, hb, hml, hr, hts, hown, hlocks⟩ := id X
  obtain ⟨f1, e1⟩ := hs.t
  obtain ⟨f2, e2⟩ := hs.m
  obtain ⟨r, Ψ, Φ, rT, rM, g1, g2, hT, hM, hE⟩ := pr_meant (l := l) (D := D) (cy := cy) (qT := qT) (qM := qM)   wt wm hs
  refine lv_aload_n hx hb dL_law_1271 rfl (lv_at hl 2 rfl) ?_
  refine z_callF (ci := 5) (q0 := 0) (As := []) (rest := []) X hK hP hP2 hD hap hA hS hl.1 gL_law_X5_meant rfl ⟨g1.1, g1.2.1⟩ hd_X5_meant (g1.R (Nat.le_of_ble_eq_true rfl)) rfl e1 rfl (Nat.le_of_ble_eq_true rfl) ⟨Nat.le_of_ble_eq_true rfl, Nat.le_of_ble_eq_true rfl⟩ rfl dL_law_1272 hT (fun r9 w1 H locs hr9 hP hP2 hD hap hS => ?_)
  obtain ⟨er9, hΨ⟩ := hr9
  rw [er9]
  refine lv_aload_n hx hb dL_law_1275 rfl (lv_at hl 1 rfl) ?_
  refine z_callF (ci := 6) (q0 := 0) (As := []) (rest := [.int (iI r)]) X hK hP2 hP hD2 hap.symm hA hS hl.1 gL_law_X6_meant rfl ⟨g2.1, g2.2.1⟩ hd_X6_meant (g2.R (Nat.le_of_ble_eq_true rfl)) rfl e2 rfl (Nat.le_of_ble_eq_true rfl) ⟨Nat.le_of_ble_eq_true rfl, Nat.le_of_ble_eq_true rfl⟩ rfl dL_law_1276 hM (fun r8 w2 H locs hr8 hP2 hP hD2 hap hS => ?_)
  obtain ⟨er8, hΦ⟩ := hr8
  rw [er8]
  refine lv_icmp_eq (tgt := 1363) hx hb dL_law_1279 (by decide) (fun _ => ?_) (fun q => absurd rfl q)
  exact kk w1 w2 H locs (hE w1 w2 hΨ hΦ) hP hP2 hD hD2 hap.symm hS
set_option maxHeartbeats 2000000 in
theorem law_c36 (X : Cx p s m meth c cL_law 4 (some .boolean) wsL_law RL #[.ref b]) (hX : va_X b L xs s s.heap) (hbl : b < s.heap.size) (hbA : ¬ A b) (hA : ∀ q, s.heap.size ≤ q → A q) (hK : va_K D vwCl [(cy, .int)] s) (hi : 0 ≤ i ∧ i + 5 ≤ L ∧ L ≤ 2560) (hl : lv_has ls 4 (lwL b (qT 0) (qM 0) i)) (hs : Sim qT qM cy wt wm) (hP : va_P D vwCl wt H) (hP2 : va_P D vwCl wm H) (hD : va_D A wt) (hD2 : va_D A wm) (hap : ap wt wm) (hS : va_S A s.heap H locs) (kk : ∀ (wt wm : va_W) (H : Heap) (locs : List Loc), Sim qT qM cy wt wm → va_P D vwCl wt H → va_P D vwCl wm H → va_D A wt → va_D A wm → ap wt wm → va_S A s.heap H locs → W p l e room_1 s m #[.ref b] below meth c H locs 35 3975 Q (F0 m 1363 ls [])) : W p l e room_1 s m #[.ref b] below meth c H locs 35 3975 Q (F0 m 1284 ls []) := by
  obtain ⟨hx, hb, hml, hr, hts, hown, hlocks⟩ := id X
  obtain ⟨f1, e1⟩ := hs.t
  obtain ⟨f2, e2⟩ := hs.m
  obtain ⟨r, Ψ, Φ, rT, rM, g1, g2, hT, hM, hE⟩ := pr_added (l := l) (D := D) (cy := cy) (qT := qT) (qM := qM) (ar xs i 1) (ar_rg xs i 1) wt wm hs
  refine lv_aload_n hx hb dL_law_1284 rfl (lv_at hl 2 rfl) ?_
  refine lw_arg hx hb hX hbl hbA hS hl hi 1 (by decide) dL_law_1285 dL_law_1286 dL_law_1287 dL_law_1288 dL_law_1289 ?_
  refine z_callF (ci := 5) (q0 := 0) (As := [.int (iI (ar xs i 1))]) (rest := []) X hK hP hP2 hD hap hA hS hl.1 gL_law_X5_added rfl ⟨g1.1, g1.2.1⟩ hd_X5_added (g1.R (Nat.le_of_ble_eq_true rfl)) rfl e1 rfl (Nat.le_of_ble_eq_true rfl) ⟨Nat.le_of_ble_eq_true rfl, Nat.le_of_ble_eq_true rfl⟩ rfl dL_law_1290 hT (fun r9 w1 H locs hr9 hP hP2 hD hap hS => ?_)
  obtain ⟨er9, hΨ⟩ := hr9
  rw [er9]
  refine lv_aload_n hx hb dL_law_1293 rfl (lv_at hl 1 rfl) ?_
  refine lw_arg hx hb hX hbl hbA hS hl hi 1 (by decide) dL_law_1294 dL_law_1295 dL_law_1296 dL_law_1297 dL_law_1298 ?_
  refine z_callF (ci := 6) (q0 := 0) (As := [.int (iI (ar xs i 1))]) (rest := [.int (iI r)]) X hK hP2 hP hD2 hap.symm hA hS hl.1 gL_law_X6_added rfl ⟨g2.1, g2.2.1⟩ hd_X6_added (g2.R (Nat.le_of_ble_eq_true rfl)) rfl e2 rfl (Nat.le_of_ble_eq_true rfl) ⟨Nat.le_of_ble_eq_true rfl, Nat.le_of_ble_eq_true rfl⟩ rfl dL_law_1299 hM (fun r8 w2 H locs hr8 hP2 hP hD2 hap hS => ?_)
  obtain ⟨er8, hΦ⟩ := hr8
  rw [er8]
  refine lv_icmp_eq (tgt := 1363) hx hb dL_law_1302 (by decide) (fun _ => ?_) (fun q => absurd rfl q)
  exact kk w1 w2 H locs (hE w1 w2 hΨ hΦ) hP hP2 hD hD2 hap.symm hS
set_option maxHeartbeats 2000000 in
theorem law_c37 (X : Cx p s m meth c cL_law 4 (some .boolean) wsL_law RL #[.ref b]) (hX : va_X b L xs s s.heap) (hbl : b < s.heap.size) (hbA : ¬ A b) (hA : ∀ q, s.heap.size ≤ q → A q) (hK : va_K D vwCl [(cy, .int)] s) (hi : 0 ≤ i ∧ i + 5 ≤ L ∧ L ≤ 2560) (hl : lv_has ls 4 (lwL b (qT 0) (qM 0) i)) (hs : Sim qT qM cy wt wm) (hP : va_P D vwCl wt H) (hP2 : va_P D vwCl wm H) (hD : va_D A wt) (hD2 : va_D A wm) (hap : ap wt wm) (hS : va_S A s.heap H locs) (kk : ∀ (wt wm : va_W) (H : Heap) (locs : List Loc), Sim qT qM cy wt wm → va_P D vwCl wt H → va_P D vwCl wm H → va_D A wt → va_D A wm → ap wt wm → va_S A s.heap H locs → W p l e room_1 s m #[.ref b] below meth c H locs 35 3975 Q (F0 m 1363 ls [])) : W p l e room_1 s m #[.ref b] below meth c H locs 35 3975 Q (F0 m 1307 ls []) := by
  obtain ⟨hx, hb, hml, hr, hts, hown, hlocks⟩ := id X
  obtain ⟨f1, e1⟩ := hs.t
  obtain ⟨f2, e2⟩ := hs.m
  obtain ⟨r, Ψ, Φ, rT, rM, g1, g2, hT, hM, hE⟩ := pr_bentLater (l := l) (D := D) (cy := cy) (qT := qT) (qM := qM) (ar xs i 1) (ar xs i 2) (⟨(ar_rg xs i 1).1, (ar_rg xs i 1).2, ar_rg xs i 2⟩) wt wm hs
  refine lv_aload_n hx hb dL_law_1307 rfl (lv_at hl 2 rfl) ?_
  refine lw_arg hx hb hX hbl hbA hS hl hi 1 (by decide) dL_law_1308 dL_law_1309 dL_law_1310 dL_law_1311 dL_law_1312 ?_
  refine lw_arg hx hb hX hbl hbA hS hl hi 2 (by decide) dL_law_1313 dL_law_1314 dL_law_1315 dL_law_1316 dL_law_1317 ?_
  refine z_callF (ci := 5) (q0 := 0) (As := [.int (iI (ar xs i 1)), .int (iI (ar xs i 2))]) (rest := []) X hK hP hP2 hD hap hA hS hl.1 gL_law_X5_bentLater rfl ⟨g1.1, g1.2.1⟩ hd_X5_bentLater (g1.R (Nat.le_of_ble_eq_true rfl)) rfl e1 rfl (Nat.le_of_ble_eq_true rfl) ⟨Nat.le_of_ble_eq_true rfl, Nat.le_of_ble_eq_true rfl⟩ rfl dL_law_1318 hT (fun r9 w1 H locs hr9 hP hP2 hD hap hS => ?_)
  obtain ⟨er9, hΨ⟩ := hr9
  rw [er9]
  refine lv_aload_n hx hb dL_law_1321 rfl (lv_at hl 1 rfl) ?_
  refine lw_arg hx hb hX hbl hbA hS hl hi 1 (by decide) dL_law_1322 dL_law_1323 dL_law_1324 dL_law_1325 dL_law_1326 ?_
  refine lw_arg hx hb hX hbl hbA hS hl hi 2 (by decide) dL_law_1327 dL_law_1328 dL_law_1329 dL_law_1330 dL_law_1331 ?_
  refine z_callF (ci := 6) (q0 := 0) (As := [.int (iI (ar xs i 1)), .int (iI (ar xs i 2))]) (rest := [.int (iI r)]) X hK hP2 hP hD2 hap.symm hA hS hl.1 gL_law_X6_bentLater rfl ⟨g2.1, g2.2.1⟩ hd_X6_bentLater (g2.R (Nat.le_of_ble_eq_true rfl)) rfl e2 rfl (Nat.le_of_ble_eq_true rfl) ⟨Nat.le_of_ble_eq_true rfl, Nat.le_of_ble_eq_true rfl⟩ rfl dL_law_1332 hM (fun r8 w2 H locs hr8 hP2 hP hD2 hap hS => ?_)
  obtain ⟨er8, hΦ⟩ := hr8
  rw [er8]
  refine lv_icmp_eq (tgt := 1363) hx hb dL_law_1335 (by decide) (fun _ => ?_) (fun q => absurd rfl q)
  exact kk w1 w2 H locs (hE w1 w2 hΨ hΦ) hP hP2 hD hD2 hap.symm hS
set_option maxHeartbeats 2000000 in
theorem law_c38 (X : Cx p s m meth c cL_law 4 (some .boolean) wsL_law RL #[.ref b]) (hX : va_X b L xs s s.heap) (hbl : b < s.heap.size) (hbA : ¬ A b) (hA : ∀ q, s.heap.size ≤ q → A q) (hK : va_K D vwCl [(cy, .int)] s) (hi : 0 ≤ i ∧ i + 5 ≤ L ∧ L ≤ 2560) (hl : lv_has ls 4 (lwL b (qT 0) (qM 0) i)) (hs : Sim qT qM cy wt wm) (hP : va_P D vwCl wt H) (hP2 : va_P D vwCl wm H) (hD : va_D A wt) (hD2 : va_D A wm) (hap : ap wt wm) (hS : va_S A s.heap H locs) (kk : ∀ (wt wm : va_W) (H : Heap) (locs : List Loc), Sim qT qM cy wt wm → va_P D vwCl wt H → va_P D vwCl wm H → va_D A wt → va_D A wm → ap wt wm → va_S A s.heap H locs → W p l e room_1 s m #[.ref b] below meth c H locs 35 3975 Q (F0 m 1363 ls [])) : W p l e room_1 s m #[.ref b] below meth c H locs 35 3975 Q (F0 m 1340 ls []) := by
  obtain ⟨hx, hb, hml, hr, hts, hown, hlocks⟩ := id X
  obtain ⟨f1, e1⟩ := hs.t
  obtain ⟨f2, e2⟩ := hs.m
  obtain ⟨r, Ψ, Φ, rT, rM, g1, g2, hT, hM, hE⟩ := pr_count (l := l) (D := D) (cy := cy) (qT := qT) (qM := qM) (ar xs i 1) (ar_rg xs i 1) wt wm hs
  refine lv_aload_n hx hb dL_law_1340 rfl (lv_at hl 2 rfl) ?_
  refine lw_arg hx hb hX hbl hbA hS hl hi 1 (by decide) dL_law_1341 dL_law_1342 dL_law_1343 dL_law_1344 dL_law_1345 ?_
  refine z_callF (ci := 5) (q0 := 0) (As := [.int (iI (ar xs i 1))]) (rest := []) X hK hP hP2 hD hap hA hS hl.1 gL_law_X5_count rfl ⟨g1.1, g1.2.1⟩ hd_X5_count (g1.R (Nat.le_of_ble_eq_true rfl)) rfl e1 rfl (Nat.le_of_ble_eq_true rfl) ⟨Nat.le_of_ble_eq_true rfl, Nat.le_of_ble_eq_true rfl⟩ rfl dL_law_1346 hT (fun r9 w1 H locs hr9 hP hP2 hD hap hS => ?_)
  obtain ⟨er9, hΨ⟩ := hr9
  rw [er9]
  refine lv_aload_n hx hb dL_law_1349 rfl (lv_at hl 1 rfl) ?_
  refine lw_arg hx hb hX hbl hbA hS hl hi 1 (by decide) dL_law_1350 dL_law_1351 dL_law_1352 dL_law_1353 dL_law_1354 ?_
  refine z_callF (ci := 6) (q0 := 0) (As := [.int (iI (ar xs i 1))]) (rest := [.int (iI r)]) X hK hP2 hP hD2 hap.symm hA hS hl.1 gL_law_X6_count rfl ⟨g2.1, g2.2.1⟩ hd_X6_count (g2.R (Nat.le_of_ble_eq_true rfl)) rfl e2 rfl (Nat.le_of_ble_eq_true rfl) ⟨Nat.le_of_ble_eq_true rfl, Nat.le_of_ble_eq_true rfl⟩ rfl dL_law_1355 hM (fun r8 w2 H locs hr8 hP2 hP hD2 hap hS => ?_)
  obtain ⟨er8, hΦ⟩ := hr8
  rw [er8]
  refine lv_icmp_eq (tgt := 1363) hx hb dL_law_1358 (by decide) (fun _ => ?_) (fun q => absurd rfl q)
  exact kk w1 w2 H locs (hE w1 w2 hΨ hΦ) hP hP2 hD hD2 hap.symm hS
set_option maxHeartbeats 4000000 in
theorem law_body (X : Cx p s m meth c cL_law 4 (some .boolean) wsL_law RL #[.ref b]) (hX : va_X b L xs s s.heap) (hbl : b < s.heap.size) (hbA : ¬ A b) (hA : ∀ q, s.heap.size ≤ q → A q) (hK : va_K D vwCl [(cy, .int)] s) (hi : 0 ≤ i ∧ i + 5 ≤ L ∧ L ≤ 2560) (hl : lv_has ls 4 (lwL b (qT 0) (qM 0) i)) (hs : Sim qT qM cy wt wm) (hP : va_P D vwCl wt H) (hP2 : va_P D vwCl wm H) (hD : va_D A wt) (hD2 : va_D A wm) (hap : ap wt wm) (hS : va_S A s.heap H locs) (kk : ∀ (wt wm : va_W) (H : Heap) (locs : List Loc), Sim qT qM cy wt wm → va_P D vwCl wt H → va_P D vwCl wm H → va_D A wt → va_D A wm → ap wt wm → va_S A s.heap H locs → W p l e room_1 s m #[.ref b] below meth c H locs 35 3975 Q (F0 m 1363 ls [])) : W p l e room_1 s m #[.ref b] below meth c H locs 35 3975 Q (F0 m 26 ls []) := by
  obtain ⟨hx, hb, hml, hr, hts, hown, hlocks⟩ := id X
  refine lv_aload_n hx hb dL_law_26 rfl (lv_at hl 3 rfl) ?_
  refine lv_iload_n hx hb dL_law_27 rfl (lv_at hl 0 rfl) ?_
  refine va_sld hx hb hX hbl hbA hS (iI_in (by omega) (by omega) (by omega)) dL_law_28 ?_
  refine lv_bipush (v := 63) hx hb dL_law_29 (by decide) ?_
  refine lv_iand hx hb dL_law_31 ?_
  obtain ⟨z, hz0, hz1, ez⟩ := and63 (xs (iI i).toNatClampNeg)
  rw [ez]
  rcases (show z = 0 ∨ z = 1 ∨ z = 2 ∨ z = 3 ∨ z = 4 ∨ z = 5 ∨ z = 6 ∨ z = 7 ∨ z = 8 ∨ z = 9 ∨ z = 10 ∨ z = 11 ∨ z = 12 ∨ z = 13 ∨ z = 14 ∨ z = 15 ∨ z = 16 ∨ z = 17 ∨ z = 18 ∨ z = 19 ∨ z = 20 ∨ z = 21 ∨ z = 22 ∨ z = 23 ∨ z = 24 ∨ z = 25 ∨ z = 26 ∨ z = 27 ∨ z = 28 ∨ z = 29 ∨ z = 30 ∨ z = 31 ∨ z = 32 ∨ z = 33 ∨ z = 34 ∨ z = 35 ∨ z = 36 ∨ z = 37 ∨ z = 38 ∨ 38 < z by omega) with ht | ht | ht | ht | ht | ht | ht | ht | ht | ht | ht | ht | ht | ht | ht | ht | ht | ht | ht | ht | ht | ht | ht | ht | ht | ht | ht | ht | ht | ht | ht | ht | ht | ht | ht | ht | ht | ht | ht | ht
  · refine z_tabIn (z := 0) (tgt := 204) hx hb dL_law_32 ht (by decide) (by decide) (by decide) rfl (by decide) ?_
    exact law_c0 X hX hbl hbA hA hK hi hl hs hP hP2 hD hD2 hap hS kk
  · refine z_tabIn (z := 1) (tgt := 227) hx hb dL_law_32 ht (by decide) (by decide) (by decide) rfl (by decide) ?_
    exact law_c1 X hX hbl hbA hA hK hi hl hs hP hP2 hD hD2 hap hS kk
  · refine z_tabIn (z := 2) (tgt := 270) hx hb dL_law_32 ht (by decide) (by decide) (by decide) rfl (by decide) ?_
    exact law_c2 X hX hbl hbA hA hK hi hl hs hP hP2 hD hD2 hap hS kk
  · refine z_tabIn (z := 3) (tgt := 303) hx hb dL_law_32 ht (by decide) (by decide) (by decide) rfl (by decide) ?_
    exact law_c3 X hX hbl hbA hA hK hi hl hs hP hP2 hD hD2 hap hS kk
  · refine z_tabIn (z := 4) (tgt := 336) hx hb dL_law_32 ht (by decide) (by decide) (by decide) rfl (by decide) ?_
    exact law_c4 X hX hbl hbA hA hK hi hl hs hP hP2 hD hD2 hap hS kk
  · refine z_tabIn (z := 5) (tgt := 369) hx hb dL_law_32 ht (by decide) (by decide) (by decide) rfl (by decide) ?_
    exact law_c5 X hX hbl hbA hA hK hi hl hs hP hP2 hD hD2 hap hS kk
  · refine z_tabIn (z := 6) (tgt := 402) hx hb dL_law_32 ht (by decide) (by decide) (by decide) rfl (by decide) ?_
    exact law_c6 X hX hbl hbA hA hK hi hl hs hP hP2 hD hD2 hap hS kk
  · refine z_tabIn (z := 7) (tgt := 425) hx hb dL_law_32 ht (by decide) (by decide) (by decide) rfl (by decide) ?_
    exact law_c7 X hX hbl hbA hA hK hi hl hs hP hP2 hD hD2 hap hS kk
  · refine z_tabIn (z := 8) (tgt := 438) hx hb dL_law_32 ht (by decide) (by decide) (by decide) rfl (by decide) ?_
    exact law_c8 X hX hbl hbA hA hK hi hl hs hP hP2 hD hD2 hap hS kk
  · refine z_tabIn (z := 9) (tgt := 491) hx hb dL_law_32 ht (by decide) (by decide) (by decide) rfl (by decide) ?_
    exact law_c9 X hX hbl hbA hA hK hi hl hs hP hP2 hD hD2 hap hS kk
  · refine z_tabIn (z := 10) (tgt := 550) hx hb dL_law_32 ht (by decide) (by decide) (by decide) rfl (by decide) ?_
    exact law_c10 X hX hbl hbA hA hK hi hl hs hP hP2 hD hD2 hap hS kk
  · refine z_tabIn (z := 11) (tgt := 573) hx hb dL_law_32 ht (by decide) (by decide) (by decide) rfl (by decide) ?_
    exact law_c11 X hX hbl hbA hA hK hi hl hs hP hP2 hD hD2 hap hS kk
  · refine z_tabIn (z := 12) (tgt := 596) hx hb dL_law_32 ht (by decide) (by decide) (by decide) rfl (by decide) ?_
    exact law_c12 X hX hbl hbA hA hK hi hl hs hP hP2 hD hD2 hap hS kk
  · refine z_tabIn (z := 13) (tgt := 609) hx hb dL_law_32 ht (by decide) (by decide) (by decide) rfl (by decide) ?_
    exact law_c13 X hX hbl hbA hA hK hi hl hs hP hP2 hD hD2 hap hS kk
  · refine z_tabIn (z := 14) (tgt := 632) hx hb dL_law_32 ht (by decide) (by decide) (by decide) rfl (by decide) ?_
    exact law_c14 X hX hbl hbA hA hK hi hl hs hP hP2 hD hD2 hap hS kk
  · refine z_tabIn (z := 15) (tgt := 645) hx hb dL_law_32 ht (by decide) (by decide) (by decide) rfl (by decide) ?_
    exact law_c15 X hX hbl hbA hA hK hi hl hs hP hP2 hD hD2 hap hS kk
  · refine z_tabIn (z := 16) (tgt := 658) hx hb dL_law_32 ht (by decide) (by decide) (by decide) rfl (by decide) ?_
    exact law_c16 X hX hbl hbA hA hK hi hl hs hP hP2 hD hD2 hap hS kk
  · refine z_tabIn (z := 17) (tgt := 711) hx hb dL_law_32 ht (by decide) (by decide) (by decide) rfl (by decide) ?_
    exact law_c17 X hX hbl hbA hA hK hi hl hs hP hP2 hD hD2 hap hS kk
  · refine z_tabIn (z := 18) (tgt := 734) hx hb dL_law_32 ht (by decide) (by decide) (by decide) rfl (by decide) ?_
    exact law_c18 X hX hbl hbA hA hK hi hl hs hP hP2 hD hD2 hap hS kk
  · refine z_tabIn (z := 19) (tgt := 757) hx hb dL_law_32 ht (by decide) (by decide) (by decide) rfl (by decide) ?_
    exact law_c19 X hX hbl hbA hA hK hi hl hs hP hP2 hD hD2 hap hS kk
  · refine z_tabIn (z := 20) (tgt := 780) hx hb dL_law_32 ht (by decide) (by decide) (by decide) rfl (by decide) ?_
    exact law_c20 X hX hbl hbA hA hK hi hl hs hP hP2 hD hD2 hap hS kk
  · refine z_tabIn (z := 21) (tgt := 813) hx hb dL_law_32 ht (by decide) (by decide) (by decide) rfl (by decide) ?_
    exact law_c21 X hX hbl hbA hA hK hi hl hs hP hP2 hD hD2 hap hS kk
  · refine z_tabIn (z := 22) (tgt := 836) hx hb dL_law_32 ht (by decide) (by decide) (by decide) rfl (by decide) ?_
    exact law_c22 X hX hbl hbA hA hK hi hl hs hP hP2 hD hD2 hap hS kk
  · refine z_tabIn (z := 23) (tgt := 885) hx hb dL_law_32 ht (by decide) (by decide) (by decide) rfl (by decide) ?_
    exact law_c23 X hX hbl hbA hA hK hi hl hs hP hP2 hD hD2 hap hS kk
  · refine z_tabIn (z := 24) (tgt := 928) hx hb dL_law_32 ht (by decide) (by decide) (by decide) rfl (by decide) ?_
    exact law_c24 X hX hbl hbA hA hK hi hl hs hP hP2 hD hD2 hap hS kk
  · refine z_tabIn (z := 25) (tgt := 961) hx hb dL_law_32 ht (by decide) (by decide) (by decide) rfl (by decide) ?_
    exact law_c25 X hX hbl hbA hA hK hi hl hs hP hP2 hD hD2 hap hS kk
  · refine z_tabIn (z := 26) (tgt := 984) hx hb dL_law_32 ht (by decide) (by decide) (by decide) rfl (by decide) ?_
    exact law_c26 X hX hbl hbA hA hK hi hl hs hP hP2 hD hD2 hap hS kk
  · refine z_tabIn (z := 27) (tgt := 1007) hx hb dL_law_32 ht (by decide) (by decide) (by decide) rfl (by decide) ?_
    exact law_c27 X hX hbl hbA hA hK hi hl hs hP hP2 hD hD2 hap hS kk
  · refine z_tabIn (z := 28) (tgt := 1040) hx hb dL_law_32 ht (by decide) (by decide) (by decide) rfl (by decide) ?_
    exact law_c28 X hX hbl hbA hA hK hi hl hs hP hP2 hD hD2 hap hS kk
  · refine z_tabIn (z := 29) (tgt := 1063) hx hb dL_law_32 ht (by decide) (by decide) (by decide) rfl (by decide) ?_
    exact law_c29 X hX hbl hbA hA hK hi hl hs hP hP2 hD hD2 hap hS kk
  · refine z_tabIn (z := 30) (tgt := 1096) hx hb dL_law_32 ht (by decide) (by decide) (by decide) rfl (by decide) ?_
    exact law_c30 X hX hbl hbA hA hK hi hl hs hP hP2 hD hD2 hap hS kk
  · refine z_tabIn (z := 31) (tgt := 1139) hx hb dL_law_32 ht (by decide) (by decide) (by decide) rfl (by decide) ?_
    exact law_c31 X hX hbl hbA hA hK hi hl hs hP hP2 hD hD2 hap hS kk
  · refine z_tabIn (z := 32) (tgt := 1172) hx hb dL_law_32 ht (by decide) (by decide) (by decide) rfl (by decide) ?_
    exact law_c32 X hX hbl hbA hA hK hi hl hs hP hP2 hD hD2 hap hS kk
  · refine z_tabIn (z := 33) (tgt := 1205) hx hb dL_law_32 ht (by decide) (by decide) (by decide) rfl (by decide) ?_
    exact law_c33 X hX hbl hbA hA hK hi hl hs hP hP2 hD hD2 hap hS kk
  · refine z_tabIn (z := 34) (tgt := 1238) hx hb dL_law_32 ht (by decide) (by decide) (by decide) rfl (by decide) ?_
    exact law_c34 X hX hbl hbA hA hK hi hl hs hP hP2 hD hD2 hap hS kk
  · refine z_tabIn (z := 35) (tgt := 1271) hx hb dL_law_32 ht (by decide) (by decide) (by decide) rfl (by decide) ?_
    exact law_c35 X hX hbl hbA hA hK hi hl hs hP hP2 hD hD2 hap hS kk
  · refine z_tabIn (z := 36) (tgt := 1284) hx hb dL_law_32 ht (by decide) (by decide) (by decide) rfl (by decide) ?_
    exact law_c36 X hX hbl hbA hA hK hi hl hs hP hP2 hD hD2 hap hS kk
  · refine z_tabIn (z := 37) (tgt := 1307) hx hb dL_law_32 ht (by decide) (by decide) (by decide) rfl (by decide) ?_
    exact law_c37 X hX hbl hbA hA hK hi hl hs hP hP2 hD hD2 hap hS kk
  · refine z_tabIn (z := 38) (tgt := 1340) hx hb dL_law_32 ht (by decide) (by decide) (by decide) rfl (by decide) ?_
    exact law_c38 X hX hbl hbA hA hK hi hl hs hP hP2 hD hD2 hap hS kk
  · refine z_tabOut (tgt := 1363) hx hb dL_law_32 ⟨by omega, by omega⟩ (Or.inr ht) (by decide) ?_
    exact kk wt wm H locs hs hP hP2 hD hD2 hap hS
end LC
