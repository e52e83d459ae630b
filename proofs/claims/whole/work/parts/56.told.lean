-- needs: 55.step
/-! ===== a whole act; runs ===== -/
theorem deedk {T : HSt} {i : Nat} (hi : i < 20) : f_X12_deed T 64 (nI i) 0 = gI T 68 (72 + 5 * i) ∧ p_X12_deed T 64 (nI i) 0 := deed_at T (i := i) (k := 0) hi (by decide)
theorem deed1 {T : HSt} {i : Nat} (hi : i < 20) : f_X12_deed T 64 (nI i) 1 = gI T 68 (72 + 5 * i + 1) ∧ p_X12_deed T 64 (nI i) 1 := deed_at T (i := i) (k := 1) hi (by decide)
theorem act_6 {T : HSt} {a : Int32} (h : f_X12_deed T 64 a 0 = 6) : f_X12_doAct T 64 a = f_X12_doClose (mT3 T) 64 := by
  unfold f_X12_doAct mT3
  simp only [bd_def]
  rw [h, if_pos rfl]
theorem act_45 {T : HSt} {a : Int32} {kd : Nat} (hk : kd = 4 ∨ kd = 5) (h : f_X12_deed T 64 a 0 = nI kd) : f_X12_doAct T 64 a = f_X12_shut (sI (f_X12_missBy (mT3 T) 64 (if nI kd = 5 then 1 else 0) (f_X12_deed (mT3 T) 64 a 1) (gI (mT3 T) 64 21)).2 64 29 (if 0 ≤ (f_X12_missBy (mT3 T) 64 (if nI kd = 5 then 1 else 0) (f_X12_deed (mT3 T) 64 a 1) (gI (mT3 T) 64 21)).1 then (f_X12_missBy (mT3 T) 64 (if nI kd = 5 then 1 else 0) (f_X12_deed (mT3 T) 64 a 1) (gI (mT3 T) 64 21)).1 else 0)) 64 := by
  unfold f_X12_doAct mT3
  simp only [bd_def]
  rw [h]
  rcases hk with rfl | rfl
  · rw [if_neg (show ¬ nI 4 = 6 by decide), if_pos (show nI 4 = 4 by decide)]
  · rw [if_neg (show ¬ nI 5 = 6 by decide), if_neg (show ¬ nI 5 = 4 by decide)]
    simp only [show nI 5 = 5 from rfl, if_true]
theorem act_23 {T : HSt} {a : Int32} {kd : Nat} (hk : kd = 2 ∨ kd = 3) (h : f_X12_deed T 64 a 0 = nI kd) : f_X12_doAct T 64 a = (L_X12_doAct_89 1000 (mT3 T) a (nI kd) 0).2.2.2 := by
  unfold f_X12_doAct mT3
  simp only [bd_def]
  rw [h]
  rcases hk with rfl | rfl
  · rw [if_neg (show ¬ nI 2 = 6 by decide), if_neg (show ¬ nI 2 = 4 by decide), if_neg (show ¬ nI 2 = 5 by decide)]
  · rw [if_neg (show ¬ nI 3 = 6 by decide), if_neg (show ¬ nI 3 = 4 by decide), if_neg (show ¬ nI 3 = 5 by decide)]
/-- one act on both sides -/
def StepG (m i : Nat) (S T : HSt) : Prop := p_X6_perform S 35 18 (nI i) ∧ p_X12_doAct T 64 (nI i) ∧ RG 36 (m + 40) (f_X6_perform S 35 18 (nI i)) (f_X12_doAct T 64 (nI i)) ∧ FI (f_X6_perform S 35 18 (nI i)) ∧ gI (f_X6_perform S 35 18 (nI i)) 35 2 = gI (f_X12_doAct T 64 (nI i)) 64 29 ∧ gI (f_X6_perform S 35 18 (nI i)) 35 3 = gI (f_X12_doAct T 64 (nI i)) 64 30 ∧ ∃ kd, 2 ≤ kd ∧ kd ≤ 6 ∧ gI T 68 (72 + 5 * i) = nI kd ∧ (¬ (kd = 4 ∨ kd = 5) → gI (f_X6_perform S 35 18 (nI i)) 35 4 = gI S 35 4 ∧ gI (f_X6_perform S 35 18 (nI i)) 35 7 = gI S 35 7 ∧ gJ (f_X6_perform S 35 18 (nI i)) = gJ S) ∧ (kd = 4 ∨ kd = 5 → ∃ j : Nat, j < 4 ∧ (j : Int) < (gI T 68 2).toInt ∧ gI T 68 (72 + 5 * i + 1) = nI j ∧ OFr S (f_X6_perform S 35 18 (nI i)) T kd j)
theorem step_ticks {m i : Nat} {S T : HSt} (hR : RG 36 m S T) (hm : m + 40 ≤ 2000) (hF : FI S) (hi : i < 20) (hc : (i : Int) < (gI T 68 5).toInt) (hA : (gI T 68 (72 + 5 * i) = 2 ∨ gI T 68 (72 + 5 * i) = 3) ∧ bw (gI T 68 (72 + 5 * i + 1)) 1 40 ∧ bw (gI T 68 (72 + 5 * i + 2)) 0 4 ∧ bw (gI T 68 (72 + 5 * i + 3)) 0 9 ∧ bw (gI T 68 (72 + 5 * i + 4)) 0 15) : StepG m i S T := by
  unfold StepG
  have hR0 : RR m S T := hR
  obtain ⟨kd, k1, k2, k3, -, k4, kv⟩ := hR0.act hi hc
  have hP := hR.pre
  have c21 : gI (cS2 S) 21 = gI S 21 := by unfold cS2; rw [gs_ne (by decide), gs_ne (by decide)]
  have t68 : gI (mT3 T) 68 = gI T 68 := by unfold mT3; rw [gs_ne (by decide), gs_ne (by decide)]
  have ckd := k4 (cS2 S) c21
  have ia := fun k : Int32 => isA_isOf (cS2 S) (cS2 S) 19 (nI i) k ckd k1 k2
  have hd := (deedk (T := T) hi)
  have hdk : f_X12_deed T 64 (nI i) 0 = nI kd := by rw [hd.1, k3]
  have c352 : gI (cS2 S) 35 2 = -1000000 := by unfold cS2; rw [gs_o (by decide), gs_eq, if_pos rfl]
  have c353 : gI (cS2 S) 35 3 = -1000000 := by unfold cS2; rw [gs_eq, if_pos rfl]
  have c35 : ∀ k, k ≠ 2 → k ≠ 3 → gI (cS2 S) 35 k = gI S 35 k := fun k h2 h3 => by unfold cS2; rw [gs_o h3, gs_o h2]
  have cJ : gJ (cS2 S) = gJ S := rfl
  have t29 : gI (mT3 T) 64 29 = -1000000 := by unfold mT3; rw [gs_o (by decide), gs_eq, if_pos rfl]
  have t30 : gI (mT3 T) 64 30 = -1000000 := by unfold mT3; rw [gs_eq, if_pos rfl]
  have kdv : ∀ q : Nat, q < 100 → gI T 68 (72 + 5 * i) = nI q → kd = q := fun q hq e => by
    rw [k3] at e
    refine Classical.byContradiction fun z => ?_
    have := congrArg Int32.toInt e
    rw [nI_ti (by omega), nI_ti (by omega)] at this
    omega
  obtain ⟨hh, b1, b2, b3, b4⟩ := hA
  have hk : kd = 2 ∨ kd = 3 := by
    rcases hh with q | q
    · exact Or.inl (kdv 2 (by omega) q)
    · exact Or.inr (kdv 3 (by omega) q)
  have i1 : ¬ f_X10_isA (cS2 S) 19 (nI i) 1 = 0 := by
    rw [ia 1]
    rcases hk with rfl | rfl
    · rw [show f_X12_isOf (cS2 S) (nI 2) 1 = 1 from rfl]; decide
    · rw [show f_X12_isOf (cS2 S) (nI 3) 1 = 1 from rfl]; decide
  obtain ⟨t, ht, et⟩ := nI_of_bw (x := gI T 68 (72 + 5 * i + 1)) (n := 41) (by have := b1.1; omega) (by have := b1.2; omega) (by omega)
  have hv1 : f_X10_value (cS2 S) 19 5 (nI i) 1 = nI t := (kv (cS2 S) 1 (by decide) c21).trans (by rw [et, cl0_of (nI_none (by omega))])
  obtain ⟨l1, l2, l3, l4, l5, l6, l7⟩ := ticks_L (i := i) (t := t) (kd := kd) (up := gI T 68 (72 + 5 * i + 2)) (lt := gI T 68 (72 + 5 * i + 3)) (tn := gI T 68 (72 + 5 * i + 4)) hi (by omega) b3 b4 1000 m 0 (cS2 S) (mT3 T) hP (by omega) (by omega) (by omega) ckd (fun U f hf hU => by rw [t68]; exact kv U f hf (by rw [hU, c21])) (by rw [t68]; exact ⟨et, rfl, rfl, rfl⟩) ⟨cl0_bw b2 (by omega), cl0_bw b3 (by omega), cl0_bw b4 (by omega)⟩ (by rw [c353, t30])
  rw [show nI 0 = (0 : Int32) from rfl] at l1 l2 l3 l4 l5 l6 l7
  have ep : f_X6_perform S 35 18 (nI i) = (L_X6_perform_38 18 1000 (cS2 S) (nI i) (nI t) 0).2.2.2 := by
    unfold f_X6_perform
    simp only [bd_def]
    rw [show 18 + 1 = 19 from rfl, show sI (sI S 35 2 (-1000000)) 35 3 (-1000000) = cS2 S from rfl, if_neg i1, hv1]
  have eq := act_23 hk hdk
  rw [ep, eq]
  refine ⟨?_, ?_, RG.mono (by omega) l3, ?_, ?_, l4, kd, k1, k2, k3, fun _ => ⟨?_, ?_, ?_⟩, fun q => ?_⟩
  · refine ⟨fun _ _ _ _ => p_isA _ _ _ _, fun _ _ _ _ _ => p_isA _ _ _ _, fun _ _ _ _ _ _ => p_isA _ _ _ _, fun S1 e1 S2 e2 q => ?_, fun _ _ _ _ _ => p_val _ _ _ _ _, fun S1 e1 S2 e2 _ x ex => ?_⟩
    · rw [← e2, ← e1] at q
      exact absurd q i1
    · rw [← e2, ← e1] at ex ⊢
      rw [← ex]
      rw [show sI (sI S 35 2 (-1000000)) 35 3 (-1000000) = cS2 S from rfl, show 18 + 1 = 19 from rfl, hv1]
      exact l1
  · unfold p_X12_doAct
    rw [hdk]
    refine ⟨hd.2, fun x ex _ _ _ _ _ q => ?_, fun x ex _ _ _ _ _ q => ?_, fun x ex S2 e2 S3 e3 _ _ _ => ?_, fun x ex _ _ _ _ _ _ q => ?_, fun x ex _ _ _ _ _ _ q => ?_⟩
    · rw [← ex] at q; rcases hk with rfl | rfl <;> exact absurd q (by decide)
    · rw [← ex] at q; rcases hk with rfl | rfl <;> exact absurd q (by decide)
    · rw [← e3, ← e2, ← ex]; exact l2
    · rw [← ex] at q; rcases hk with rfl | rfl <;> exact absurd q (by decide)
    · rw [← ex] at q; rcases hk with rfl | rfl <;> exact absurd q (by decide)
  · exact hF.of (by rw [l6 7 (by decide), c35 7 (by decide) (by decide)]) l5
  · rw [l6 2 (by decide), l7, c352, t29]
  · rw [l6 4 (by decide), c35 4 (by decide) (by decide)]
  · rw [l6 7 (by decide), c35 7 (by decide) (by decide)]
  · exact l5
  · omega
theorem step_throw {m i : Nat} {S T : HSt} (hR : RG 36 m S T) (hm : m + 40 ≤ 2000) (hF : FI S) (hi : i < 20) (hc : (i : Int) < (gI T 68 5).toInt) (hA : (gI T 68 (72 + 5 * i) = 4 ∨ gI T 68 (72 + 5 * i) = 5) ∧ (0 ≤ (gI T 68 (72 + 5 * i + 1)).toInt ∧ (gI T 68 (72 + 5 * i + 1)).toInt < (gI T 68 2).toInt) ∧ gI T 68 (72 + 5 * i + 2) = -1000000 ∧ gI T 68 (72 + 5 * i + 3) = -1000000 ∧ gI T 68 (72 + 5 * i + 4) = -1000000) : StepG m i S T := by
  unfold StepG
  have hR0 : RR m S T := hR
  obtain ⟨kd, k1, k2, k3, -, k4, kv⟩ := hR0.act hi hc
  have hP := hR.pre
  have c21 : gI (cS2 S) 21 = gI S 21 := by unfold cS2; rw [gs_ne (by decide), gs_ne (by decide)]
  have t68 : gI (mT3 T) 68 = gI T 68 := by unfold mT3; rw [gs_ne (by decide), gs_ne (by decide)]
  have ckd := k4 (cS2 S) c21
  have ia := fun k : Int32 => isA_isOf (cS2 S) (cS2 S) 19 (nI i) k ckd k1 k2
  have hd := (deedk (T := T) hi)
  have hdk : f_X12_deed T 64 (nI i) 0 = nI kd := by rw [hd.1, k3]
  have c352 : gI (cS2 S) 35 2 = -1000000 := by unfold cS2; rw [gs_o (by decide), gs_eq, if_pos rfl]
  have c353 : gI (cS2 S) 35 3 = -1000000 := by unfold cS2; rw [gs_eq, if_pos rfl]
  have c35 : ∀ k, k ≠ 2 → k ≠ 3 → gI (cS2 S) 35 k = gI S 35 k := fun k h2 h3 => by unfold cS2; rw [gs_o h3, gs_o h2]
  have cJ : gJ (cS2 S) = gJ S := rfl
  have t29 : gI (mT3 T) 64 29 = -1000000 := by unfold mT3; rw [gs_o (by decide), gs_eq, if_pos rfl]
  have t30 : gI (mT3 T) 64 30 = -1000000 := by unfold mT3; rw [gs_eq, if_pos rfl]
  have kdv : ∀ q : Nat, q < 100 → gI T 68 (72 + 5 * i) = nI q → kd = q := fun q hq e => by
    rw [k3] at e
    refine Classical.byContradiction fun z => ?_
    have := congrArg Int32.toInt e
    rw [nI_ti (by omega), nI_ti (by omega)] at this
    omega
  obtain ⟨hh, b1, b2, b3, b4⟩ := hA
  have hk : kd = 4 ∨ kd = 5 := by
    rcases hh with q | q
    · exact Or.inl (kdv 4 (by omega) q)
    · exact Or.inr (kdv 5 (by omega) q)
  have i1 : f_X10_isA (cS2 S) 19 (nI i) 1 = 0 := by
    rw [ia 1]
    rcases hk with rfl | rfl <;> rfl
  have i4 : ¬ f_X10_isA (cS2 S) 19 (nI i) 4 = 0 := by
    rw [ia 4]
    rcases hk with rfl | rfl
    · rw [show f_X12_isOf (cS2 S) (nI 4) 4 = 1 from rfl]; decide
    · rw [show f_X12_isOf (cS2 S) (nI 5) 4 = 1 from rfl]; decide
  have i5 : (if f_X10_isA (cS2 S) 19 (nI i) 5 = 0 then (0 : Int32) else 1) = (if nI kd = 5 then 1 else 0) := by
    rw [ia 5]
    rcases hk with rfl | rfl
    · rw [show f_X12_isOf (cS2 S) (nI 4) 5 = 0 from rfl]; decide
    · rw [show f_X12_isOf (cS2 S) (nI 5) 5 = 1 from rfl]; decide
  obtain ⟨j, hj, ej⟩ := nI_of_bw (x := gI T 68 (72 + 5 * i + 1)) (n := 4) b1.1 (by have := b1.2; have := hR.2.1.1.2.2.1.2; omega) (by omega)
  have hjc : (j : Int) < (gI T 68 2).toInt := by have := b1.2; rw [ej, nI_ti (by omega)] at this; exact this
  have hv1 : f_X10_value (cS2 S) 19 5 (nI i) 1 = nI j := (kv (cS2 S) 1 (by decide) c21).trans (by rw [ej, cl0_of (nI_none (by omega))])
  have hd1 : f_X12_deed (mT3 T) 64 (nI i) 1 = nI j := by rw [(deed1 (T := mT3 T) hi).1, t68, ej]
  have hFc : FI (cS2 S) := hF.of (c35 7 (by decide) (by decide)) cJ
  obtain ⟨q1, q2, q3, q4, q5, q6, q7⟩ := throw_at (m := m) (j := j) (i := i) (kd := kd) hP (by omega) hFc hj (by rw [t68]; exact hjc) hk hv1
  -- at T itself
  obtain ⟨-, -, -, -, -, -, w7⟩ := throw_at (m := m) (j := j) (i := i) (kd := kd) (S := cS2 S) (T := T) (hP.of rfl rfl rfl rfl t68.symm (by unfold mT3; rw [gs_o (by decide), gs_o (by decide)]) (by unfold mT3; rw [gs_o (by decide), gs_o (by decide)]) (fun k hk => by show gI T 64 (20 + k) = gI (mT3 T) 64 (20 + k); unfold mT3; rw [gs_o (by omega), gs_o (by omega)])) (by omega) hFc hj hjc hk hv1
  have ep : f_X6_perform S 35 18 (nI i) = f_X6_throwAt (cS2 S) 35 18 (nI i) (if nI kd = 5 then 1 else 0) := by
    unfold f_X6_perform
    simp only [bd_def]
    rw [show 18 + 1 = 19 from rfl, show sI (sI S 35 2 (-1000000)) 35 3 (-1000000) = cS2 S from rfl, if_pos i1, if_neg i4, i5]
  have eq := act_45 hk hdk
  rw [hd1] at eq
  have fm := v_X12_missBy (mT3 T) 64 (if nI kd = 5 then 1 else 0) (nI j) (gI (mT3 T) 64 21)
  generalize hM : f_X12_missBy (mT3 T) 64 (if nI kd = 5 then 1 else 0) (nI j) (gI (mT3 T) 64 21) = M at q2 q5 eq fm
  have m30 : gI M.2 64 30 = -1000000 := by rw [fm 64 30 (by decide) (by decide), t30]
  generalize hy : (if 0 ≤ M.1 then M.1 else (0 : Int32)) = y at q5 eq
  have fs := v_X12_shut (sI M.2 64 29 y) 64
  rw [ep, eq]
  have hWL : ∀ k, k < 7 → WL (f_X12_shut (sI M.2 64 29 y) 64) k = WL (f_X12_shut (mT3 T) 64) k := fun k hk => by
    obtain ⟨d0, d1, d2, d3, d4, d5, d6⟩ := shut_at (sI M.2 64 29 y)
    obtain ⟨e0, e1, e2, e3, e4, e5, e6⟩ := shut_at (mT3 T)
    have hkc : k = 0 ∨ k = 1 ∨ k = 2 ∨ k = 3 ∨ k = 4 ∨ k = 5 ∨ k = 6 := by omega
    rcases hkc with rfl | rfl | rfl | rfl | rfl | rfl | rfl
    · rw [d0, e0]
    · rw [d1, e1]
    · rw [d2, e2]
    · rw [d3, e3, gs_o (by decide), fm 64 23 (by decide) (by decide)]
    · rw [d4, e4, gs_o (by decide), fm 64 24 (by decide) (by decide)]
    · rw [d5, e5]
    · rw [d6, e6]
  have fs3 := v_X12_shut (mT3 T) 64
  have hR2 : RG 36 (m + 1) (f_X6_throwAt (cS2 S) 35 18 (nI i) (if nI kd = 5 then 1 else 0)) (f_X12_shut (sI M.2 64 29 y) 64) := q3.of rfl rfl rfl rfl (by rw [fr_addr fs 68 (by decide), gs_ne (by decide), fr_addr fm 68 (by decide), fr_addr fs3 68 (by decide)]) (by rw [fs 64 18 (by decide) (by decide), gs_o (by decide), fm 64 18 (by decide) (by decide), fs3 64 18 (by decide) (by decide)]) (by rw [fs 64 19 (by decide) (by decide), gs_o (by decide), fm 64 19 (by decide) (by decide), fs3 64 19 (by decide) (by decide)]) hWL
  refine ⟨?_, ?_, hR2.mono (by omega), q4, ?_, ?_, kd, k1, k2, k3, fun q => absurd hk q, fun _ => ⟨j, hj, hjc, ej, ?_⟩⟩
  · refine ⟨fun _ _ _ _ => p_isA _ _ _ _, fun _ _ _ _ _ => p_isA _ _ _ _, fun _ _ _ _ _ _ => p_isA _ _ _ _, fun S1 e1 S2 e2 _ _ x ex => ?_, fun _ _ _ _ _ => p_val _ _ _ _ _, fun S1 e1 S2 e2 q => ?_⟩
    · rw [← e2, ← e1] at ex ⊢
      rw [show sI (sI S 35 2 (-1000000)) 35 3 (-1000000) = cS2 S from rfl] at ex ⊢
      rw [show 18 + 1 = 19 from rfl, i5] at ex
      rw [← ex]
      exact q1
    · rw [← e2, ← e1] at q
      exact absurd i1 q
  · unfold p_X12_doAct
    rw [hdk]
    have n6 : ¬ nI kd = 6 := by rcases hk with rfl | rfl <;> decide
    refine ⟨hd.2, fun x ex S2 e2 S3 e3 _ _ x7 ex7 => (deed1 hi).2, fun x ex S2 e2 S3 e3 _ _ x7 ex7 => ?_, fun x ex S2 e2 S3 e3 _ y1 y2 => ?_, fun x ex S2 e2 S3 e3 _ _ _ x7 ex7 => (deed1 hi).2, fun x ex S2 e2 S3 e3 _ _ _ x7 ex7 => ?_⟩
    · rw [← e3, ← e2, ← ex7, ← ex, show sI (sI T 64 29 (-1000000)) 64 30 (-1000000) = mT3 T from rfl, hd1]; exact q2
    · rw [← ex] at y1 y2
      rcases hk with rfl | rfl
      · exact absurd rfl y1
      · exact absurd rfl y2
    · rw [← e3, ← e2, ← ex7, ← ex, show sI (sI T 64 29 (-1000000)) 64 30 (-1000000) = mT3 T from rfl, hd1]; exact q2
  · rw [q5, fs 64 29 (by decide) (by decide), gs_eq, if_pos rfl]
  · rw [q6, c353, fs 64 30 (by decide) (by decide), gs_o (by decide), m30]
  · unfold OFr at w7 ⊢
    rw [c35 4 (by decide) (by decide), c35 7 (by decide) (by decide), cJ] at w7
    exact w7
theorem step_close {m i : Nat} {S T : HSt} (hR : RG 36 m S T) (hm : m + 40 ≤ 2000) (hF : FI S) (hi : i < 20) (hc : (i : Int) < (gI T 68 5).toInt) (hA : gI T 68 (72 + 5 * i) = 6 ∧ gI T 68 (72 + 5 * i + 1) = -1000000 ∧ gI T 68 (72 + 5 * i + 2) = -1000000 ∧ gI T 68 (72 + 5 * i + 3) = -1000000 ∧ gI T 68 (72 + 5 * i + 4) = -1000000) : StepG m i S T := by
  unfold StepG
  have hR0 : RR m S T := hR
  obtain ⟨kd, k1, k2, k3, -, k4, kv⟩ := hR0.act hi hc
  have hP := hR.pre
  have c21 : gI (cS2 S) 21 = gI S 21 := by unfold cS2; rw [gs_ne (by decide), gs_ne (by decide)]
  have t68 : gI (mT3 T) 68 = gI T 68 := by unfold mT3; rw [gs_ne (by decide), gs_ne (by decide)]
  have ckd := k4 (cS2 S) c21
  have ia := fun k : Int32 => isA_isOf (cS2 S) (cS2 S) 19 (nI i) k ckd k1 k2
  have hd := (deedk (T := T) hi)
  have hdk : f_X12_deed T 64 (nI i) 0 = nI kd := by rw [hd.1, k3]
  have c352 : gI (cS2 S) 35 2 = -1000000 := by unfold cS2; rw [gs_o (by decide), gs_eq, if_pos rfl]
  have c353 : gI (cS2 S) 35 3 = -1000000 := by unfold cS2; rw [gs_eq, if_pos rfl]
  have c35 : ∀ k, k ≠ 2 → k ≠ 3 → gI (cS2 S) 35 k = gI S 35 k := fun k h2 h3 => by unfold cS2; rw [gs_o h3, gs_o h2]
  have cJ : gJ (cS2 S) = gJ S := rfl
  have t29 : gI (mT3 T) 64 29 = -1000000 := by unfold mT3; rw [gs_o (by decide), gs_eq, if_pos rfl]
  have t30 : gI (mT3 T) 64 30 = -1000000 := by unfold mT3; rw [gs_eq, if_pos rfl]
  have kdv : ∀ q : Nat, q < 100 → gI T 68 (72 + 5 * i) = nI q → kd = q := fun q hq e => by
    rw [k3] at e
    refine Classical.byContradiction fun z => ?_
    have := congrArg Int32.toInt e
    rw [nI_ti (by omega), nI_ti (by omega)] at this
    omega
  obtain ⟨hh, b1, b2, b3, b4⟩ := hA
  have hk : kd = 6 := kdv 6 (by omega) hh
  subst hk
  have i1 : f_X10_isA (cS2 S) 19 (nI i) 1 = 0 := by rw [ia 1]; rfl
  have i4 : f_X10_isA (cS2 S) 19 (nI i) 4 = 0 := by rw [ia 4]; rfl
  have ep : f_X6_perform S 35 18 (nI i) = f_X1_gather (cS2 S) 36 := by
    unfold f_X6_perform
    simp only [bd_def]
    rw [show 18 + 1 = 19 from rfl, show sI (sI S 35 2 (-1000000)) 35 3 (-1000000) = cS2 S from rfl, if_pos i1, if_pos i4]
  have eq := act_6 (T := T) (a := nI i) (hdk.trans (show nI 6 = (6 : Int32) from rfl))
  have f1 := v_X1_gather (cS2 S) 36
  have f2 := v_X12_doClose (mT3 T) 64
  have g35 : gI (f_X1_gather (cS2 S) 36) 35 = gI (cS2 S) 35 := fr_addr f1 35 (by decide)
  rw [ep, eq]
  refine ⟨?_, ?_, (rg_close (by decide) (by decide) (by decide) (by omega) hP).mono (by omega), ?_, ?_, ?_, 6, by omega, by omega, hh, fun _ => ⟨?_, ?_, rfl⟩, fun q => by omega⟩
  · refine ⟨fun _ _ _ _ => p_isA _ _ _ _, fun _ _ _ _ _ => p_isA _ _ _ _, fun _ _ _ _ _ _ => p_isA _ _ _ _, fun S1 e1 S2 e2 _ q x ex => ?_, fun _ _ _ _ _ => p_val _ _ _ _ _, fun S1 e1 S2 e2 q => ?_⟩
    · rw [← e2, ← e1] at q
      exact absurd i4 q
    · rw [← e2, ← e1] at q
      exact absurd i1 q
  · unfold p_X12_doAct
    rw [hdk]
    refine ⟨hd.2, fun x ex _ _ _ _ q => ?_, fun x ex _ _ _ _ q => ?_, fun x ex _ _ _ _ q => ?_, fun x ex _ _ _ _ q => ?_, fun x ex _ _ _ _ q => ?_⟩
    · rw [← ex] at q; exact absurd (by decide) q
    · rw [← ex] at q; exact absurd (by decide) q
    · rw [← ex] at q; exact absurd (by decide) q
    · rw [← ex] at q; exact absurd (by decide) q
    · rw [← ex] at q; exact absurd (by decide) q
  · exact hF.of (by rw [g35, c35 7 (by decide) (by decide)]) rfl
  · rw [g35, c352, f2 64 29 (by decide) (by decide), t29]
  · rw [g35, c353, f2 64 30 (by decide) (by decide), t30]
  · rw [g35, c35 4 (by decide) (by decide)]
  · rw [g35, c35 7 (by decide) (by decide)]
theorem step {m i : Nat} {S T : HSt} (hR : RG 36 m S T) (hm : m + 40 ≤ 2000) (hF : FI S) (hi : i < 20) (hc : (i : Int) < (gI T 68 5).toInt) : StepG m i S T := by
  rcases hR.2.1.2.2.2.2.2.2 i hi hc with h | h | h
  · exact step_ticks hR hm hF hi hc h
  · exact step_throw hR hm hF hi hc h
  · exact step_close hR hm hF hi hc h
