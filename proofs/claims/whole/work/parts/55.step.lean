-- needs: 54.act
theorem RG.t28 {lp m : Nat} {S T T' : HSt} (f : Fr [(64, 28)] T T') (hR : RG lp m S T) : RG lp m S T' := by
  refine hR.of rfl rfl rfl rfl (fr_addr f 68 (by decide)) (f 64 18 (by decide) (by decide)) (f 64 19 (by decide) (by decide)) (fun j hj => ?_)
  refine f 64 (20 + j) (fun q => ?_) (fun q => ?_)
  · simp at q; omega
  · simp at q
theorem six_ne {lp x : Nat} (h : lp ≠ x) : ∀ q ∈ [(lp, 0), (lp, 1), (lp, 2), (lp, 4), (lp, 5), (lp, 6)], q.1 ≠ x := by
  intro q hq
  simp only [List.mem_cons, List.not_mem_nil, or_false] at hq
  rcases hq with rfl | rfl | rfl | rfl | rfl | rfl <;> exact h
theorem rg_shut {lp m : Nat} {S T : HSt} (n18 : lp ≠ 18) (n20 : lp ≠ 20) (n21 : lp ≠ 21) (hm : m ≤ 100000) (hR : RG lp m S T) : RG lp (m + 1) (f_X1_fallToHand S lp) (f_X12_shut T 64) := by
  have f1 := v_X1_fallToHand S lp
  have f2 := v_X12_shut T 64
  obtain ⟨a0, a1, a2, a3, a4, a5, a6⟩ := fall_at S lp
  obtain ⟨b0, b1, b2, b3, b4, b5, b6⟩ := shut_at T
  have hL := hR.2.2.2.2.1
  have hB := hR.2.2.2.2.2
  have z4 : bw (gI T 64 23) 0 (15 * m) := hB.2.2.2.1
  have z5 : bw (gI T 64 24) 0 m := hB.2.2.2.2.1
  obtain ⟨g1, g2⟩ := z4
  obtain ⟨g3, g4⟩ := z5
  refine hR.loop (fr_addr f1 18 (six_ne n18)) (fr_addr f1 20 (six_ne n20)) (fr_addr f1 21 (six_ne n21)) (fr_addr f2 68 (by decide)) (f2 64 18 (by decide) (by decide)) (f2 64 19 (by decide) (by decide)) ⟨?_, ?_, ?_, ?_, ?_, ?_, ?_⟩ (fresh_B hR.2.2.2.1.1 hR.2.2.2.1.2 b0 b1 b2 (by rw [b3]; exact ⟨g1, by omega⟩) (by rw [b4]; unfold bw; rw [ti_add (by rw [ti1]; omega) (by rw [ti1]; omega), ti1]; omega) b5)
  · rw [a0, b0]
  · rw [a1, b1]
  · rw [a2, b2]
  · rw [a3, b3]; exact hL.2.2.2.1
  · rw [a4, b4]; exact congrArg (· + 1) hL.2.2.2.2.1
  · rw [a5, b6]
  · rw [a6, b5]
theorem rg_close {lp m : Nat} {S T : HSt} (n18 : lp ≠ 18) (n20 : lp ≠ 20) (n21 : lp ≠ 21) (hm : m ≤ 100000) (hR : RG lp m S T) : RG lp (m + 1) (f_X1_gather S lp) (f_X12_doClose T 64) := by
  have f1 := v_X1_gather S lp
  have f2 := v_X12_doClose T 64
  obtain ⟨a0, a1, a2, a3, a4, a5, a6⟩ := gather_at S lp
  obtain ⟨b0, b1, b2, b3, b4, b5, b6⟩ := close_at T
  have hL := hR.2.2.2.2.1
  have hB := hR.2.2.2.2.2
  have z4 : bw (gI T 64 23) 0 (15 * m) := hB.2.2.2.1
  have z5 : bw (gI T 64 24) 0 m := hB.2.2.2.2.1
  obtain ⟨g1, g2⟩ := z4
  obtain ⟨g3, g4⟩ := z5
  refine hR.loop (fr_addr f1 18 (seven_ne n18)) (fr_addr f1 20 (seven_ne n20)) (fr_addr f1 21 (seven_ne n21)) (fr_addr f2 68 (by decide)) (f2 64 18 (by decide) (by decide)) (f2 64 19 (by decide) (by decide)) ⟨?_, ?_, ?_, ?_, ?_, ?_, ?_⟩ (fresh_B hR.2.2.2.1.1 hR.2.2.2.1.2 b0 b1 b2 (by rw [b3]; unfold bw; rw [half_ti g1]; omega) (by rw [b4]; unfold bw; rw [ti_add (by rw [ti1]; omega) (by rw [ti1]; omega), ti1]; omega) b5)
  · rw [a0, b0]
  · rw [a1, b1]
  · rw [a2, b2]
  · rw [a3, b3]; exact congrArg (· / 2) hL.2.2.2.1
  · rw [a4, b4]; exact congrArg (· + 1) hL.2.2.2.2.1
  · rw [a5, b6]
  · rw [a6, b5]
/-- the class's state before an act, and the model's -/
def cS2 (S : HSt) : HSt := sI (sI S 35 2 (-1000000)) 35 3 (-1000000)
def mT3 (T : HSt) : HSt := sI (sI T 64 29 (-1000000)) 64 30 (-1000000)
theorem RG.pre {m : Nat} {S T : HSt} (hR : RG 36 m S T) : RG 36 m (cS2 S) (mT3 T) := by
  unfold cS2 mT3
  refine hR.of ?_ ?_ ?_ ?_ ?_ ?_ ?_ (fun j hj => ?_)
  · rw [gs_ne (by decide), gs_ne (by decide)]
  · rw [gs_ne (by decide), gs_ne (by decide)]
  · rw [gs_ne (by decide), gs_ne (by decide)]
  · rw [gs_ne (by decide), gs_ne (by decide)]
  · rw [gs_ne (by decide), gs_ne (by decide)]
  · rw [gs_o (by decide), gs_o (by decide)]
  · rw [gs_o (by decide), gs_o (by decide)]
  · show gI _ 64 (20 + j) = gI T 64 (20 + j)
    rw [gs_o (by omega), gs_o (by omega)]
/-- what a throw leaves in the class -/
def OFr (S S' T : HSt) (kd j : Nat) : Prop :=
  gI S' 35 4 = gI S 35 4 + (f_X12_counts T 64 (if nI kd = 5 then 1 else 0) (nI j)).1 ∧ p_X12_counts T 64 (if nI kd = 5 then 1 else 0) (nI j) ∧ p_X12_oddsOf T 64 (if nI kd = 5 then 1 else 0) (nI j) ∧ p_X12_allOdds (f_X12_oddsOf T 64 (if nI kd = 5 then 1 else 0) (nI j)).2 64 ∧ (gI S 35 7 = 0 → ∀ X : HSt, gJ S' 35 5 = f_X12_partOf X (gJ S 35 5 * (f_X12_oddsOf T 64 (if nI kd = 5 then 1 else 0) (nI j)).1.toInt64) (gJ S 35 6 * (f_X12_allOdds (f_X12_oddsOf T 64 (if nI kd = 5 then 1 else 0) (nI j)).2 64).toInt64) 0 ∧ gJ S' 35 6 = f_X12_partOf X (gJ S 35 5 * (f_X12_oddsOf T 64 (if nI kd = 5 then 1 else 0) (nI j)).1.toInt64) (gJ S 35 6 * (f_X12_allOdds (f_X12_oddsOf T 64 (if nI kd = 5 then 1 else 0) (nI j)).2 64).toInt64) 1 ∧ gI S' 35 7 = (if lg_cmp (f_X12_partOf X (gJ S 35 5 * (f_X12_oddsOf T 64 (if nI kd = 5 then 1 else 0) (nI j)).1.toInt64) (gJ S 35 6 * (f_X12_allOdds (f_X12_oddsOf T 64 (if nI kd = 5 then 1 else 0) (nI j)).2 64).toInt64) 1) (1000000000000 : Int64) ≤ 0 then 0 else 1) ∧ p_X12_partOf X (gJ S 35 5 * (f_X12_oddsOf T 64 (if nI kd = 5 then 1 else 0) (nI j)).1.toInt64) (gJ S 35 6 * (f_X12_allOdds (f_X12_oddsOf T 64 (if nI kd = 5 then 1 else 0) (nI j)).2 64).toInt64) 0 ∧ p_X12_partOf X (gJ S 35 5 * (f_X12_oddsOf T 64 (if nI kd = 5 then 1 else 0) (nI j)).1.toInt64) (gJ S 35 6 * (f_X12_allOdds (f_X12_oddsOf T 64 (if nI kd = 5 then 1 else 0) (nI j)).2 64).toInt64) 1) ∧ (¬ gI S 35 7 = 0 → gI S' 35 7 = gI S 35 7)
/-- a throw: the class's side, beside a model T with the same loop -/
theorem throw_at {m j : Nat} {S T : HSt} (hR : RG 36 m S T) (hm : m ≤ 1999) (hF : FI S) (hj : j < 4) (hc : (j : Int) < (gI T 68 2).toInt) {i kd : Nat} (hk : kd = 4 ∨ kd = 5) (hv : f_X10_value S 19 5 (nI i) 1 = nI j) : p_X6_throwAt S 35 18 (nI i) (if nI kd = 5 then 1 else 0) ∧ p_X12_missBy T 64 (if nI kd = 5 then 1 else 0) (nI j) (gI T 64 21) ∧ RG 36 (m + 1) (f_X6_throwAt S 35 18 (nI i) (if nI kd = 5 then 1 else 0)) (f_X12_shut T 64) ∧ FI (f_X6_throwAt S 35 18 (nI i) (if nI kd = 5 then 1 else 0)) ∧ gI (f_X6_throwAt S 35 18 (nI i) (if nI kd = 5 then 1 else 0)) 35 2 = (if 0 ≤ (f_X12_missBy T 64 (if nI kd = 5 then 1 else 0) (nI j) (gI T 64 21)).1 then (f_X12_missBy T 64 (if nI kd = 5 then 1 else 0) (nI j) (gI T 64 21)).1 else 0) ∧ gI (f_X6_throwAt S 35 18 (nI i) (if nI kd = 5 then 1 else 0)) 35 3 = gI S 35 3 ∧ OFr S (f_X6_throwAt S 35 18 (nI i) (if nI kd = 5 then 1 else 0)) T kd j := by
  have hK := hR.lnk (by omega) hj hc
  obtain ⟨e, he, hee, hae⟩ : ∃ e : Int32, (if nI kd = 5 then (1 : Int32) else 0) = e ∧ (if e = 1 then (1 : Int32) else 0) = e ∧ ((e = 0 ∧ e = 0) ∨ (e = 1 ∧ e = 1)) := by
    rcases hk with rfl | rfl
    · exact ⟨0, by decide, by decide, Or.inl ⟨rfl, rfl⟩⟩
    · exact ⟨1, by decide, by decide, Or.inr ⟨rfl, rfl⟩⟩
  unfold OFr
  rw [he]
  obtain ⟨pa, ⟨po, a2, a3, hTo⟩, pm, hmiss⟩ := aim_at hK (o := 37) (by decide) (by decide) (by decide) e
  rw [hee] at po a2 hTo pm hmiss
  have hw1 : WL T 1 = gI T 64 21 := rfl
  rw [hw1] at pm hmiss
  have fa := v_X9_aim S 37 18 36 e (nI j)
  have ja : gJ (f_X9_aim S 37 18 36 e (nI j)) = gJ S := gJ_aim S 37 18 36 e (nI j)
  have hol := odds_le (e := e) hK.1
  have hwb := whole_bw hTo.2.2.2.2.2.2.1.2.2
  obtain ⟨pc, cv⟩ := counts_at hK.1 (by rcases hae with ⟨h, -⟩ | ⟨h, -⟩; exact Or.inl h; exact Or.inr h) po hTo
  have hao : f_X12_allOdds (f_X12_oddsOf T 64 e (nI j)).2 64 = 12 * (2 * gI S 18 9 + 1) := by rw [allOdds_v, hTo.2.2.1.2.2]
  have hpa : p_X12_allOdds (f_X12_oddsOf T 64 e (nI j)).2 64 := hTo.2.2.2.1.2.2
  rw [cv, hao]
  generalize hA : f_X9_aim S 37 18 36 e (nI j) = A at a2 a3 hmiss fa ja
  generalize hO : f_X12_oddsOf T 64 e (nI j) = O at a2 hol hpa
  obtain ⟨A3, hA3⟩ : ∃ A3, sI A 35 2 (gI A 37 0) = A3 := ⟨_, rfl⟩
  have r37 : gI A3 37 = gI A 37 := by rw [← hA3, gs_ne (by decide)]
  have r36 : gI A3 36 = gI S 36 := by rw [← hA3, gs_ne (by decide), fr_addr fa 36 (by decide)]
  have r35 : ∀ k, k ≠ 2 → gI A3 35 k = gI S 35 k := fun k hk => by rw [← hA3, gs_o hk, fr_addr fa 35 (by decide)]
  have rx : ∀ x, x = 18 ∨ x = 20 ∨ x = 21 → gI A3 x = gI S x := fun x hx => by
    rcases hx with rfl | rfl | rfl
    · rw [← hA3, gs_ne (by decide), fr_addr fa 18 (by decide)]
    · rw [← hA3, gs_ne (by decide), fr_addr fa 20 (by decide)]
    · rw [← hA3, gs_ne (by decide), fr_addr fa 21 (by decide)]
  have hpt := points_at (S := A3) (T := T) (by rw [rx 20 (by omega), rx 21 (by omega)]; exact hR.1) (WL T 4) hae (f_X9_isLikely A3 37)
  have h364 : gI A3 36 4 = WL T 4 := by rw [r36]; exact hR.2.2.2.2.1.2.2.2.2.1
  have hlk : f_X9_isLikely A3 37 = if (2 : Int32) * O.1 < 12 * (2 * gI S 18 9 + 1) then 0 else 1 := by rw [likely_v, r37, a2, a3]
  obtain ⟨A4, hA4⟩ : ∃ A4, sI A3 35 4 (gI A3 35 4 + f_X10_pointsFor A3 19 e (gI A3 36 4) (f_X9_isLikely A3 37)) = A4 := ⟨_, rfl⟩
  have j4 : gJ A4 = gJ S := by rw [← hA4, gJ_sI, ← hA3, gJ_sI, ja]
  have s37 : gI A4 37 = gI A 37 := by rw [← hA4, gs_ne (by decide), r37]
  have s7 : gI A4 35 7 = gI S 35 7 := by rw [← hA4, gs_o (by decide), r35 7 (by decide)]
  have hF4 : FI A4 := hF.of s7 j4
  have s2 : gI A4 37 2 = O.1 := by rw [s37, a2]
  have s3 : gI A4 37 3 = 12 * (2 * gI S 18 9 + 1) := by rw [s37, a3]
  obtain ⟨pm1, pm2, pm3, pm4⟩ := mult_at hF4 (s := O.1) (w := 12 * (2 * gI S 18 9 + 1)) hol.1 hol.2 hwb
  have fm := v_X6_multiply A4 35 O.1.toInt64 (12 * (2 * gI S 18 9 + 1) : Int32).toInt64
  have eT : f_X6_throwAt S 35 18 (nI i) e = f_X1_fallToHand (f_X6_multiply A4 35 O.1.toInt64 (12 * (2 * gI S 18 9 + 1) : Int32).toInt64) 36 := by
    unfold f_X6_throwAt
    simp only [bd_def]
    rw [show 18 + 1 = 19 from rfl, hv, hA, hA3, hA4, s2, s3]
  generalize hM : f_X6_multiply A4 35 O.1.toInt64 (12 * (2 * gI S 18 9 + 1) : Int32).toInt64 = M at pm2 pm3 pm4 fm eT
  have ff := v_X1_fallToHand M 36
  have g35 : gI (f_X1_fallToHand M 36) 35 = gI M 35 := fr_addr ff 35 (by decide)
  have gj : gJ (f_X1_fallToHand M 36) = gJ M := rfl
  have hRM : RG 36 m M T := hR.of (by rw [fr_addr fm 18 (by decide), ← hA4, gs_ne (by decide), rx 18 (by omega)]) (by rw [fr_addr fm 20 (by decide), ← hA4, gs_ne (by decide), rx 20 (by omega)]) (by rw [fr_addr fm 21 (by decide), ← hA4, gs_ne (by decide), rx 21 (by omega)]) (by rw [fr_addr fm 36 (by decide), ← hA4, gs_ne (by decide), r36]) rfl rfl rfl (fun _ _ => rfl)
  rw [eT]
  have m4 : gI M 35 4 = gI S 35 4 + (if WL T 4 ≤ gI T 68 68 then (if (2 : Int32) * O.1 < 12 * (2 * gI S 18 9 + 1) then -(gI T 68 71) else gI T 68 ((68 : Int32) + (if e = 0 then 1 else 2)).toNatClampNeg) else 0) := by
    rw [fm 35 4 (by decide) (by decide), ← hA4, gs_eq, if_pos rfl, r35 4 (by decide), h364, hpt.2, hlk]
    simp only [i01]
  refine ⟨⟨p_val _ _ _ _ _, fun x ex => ?_, fun x ex r er S3 e3 => ?_, fun x ex r er S3 e3 S4 e4 => ?_⟩, pm, rg_shut (by decide) (by decide) (by decide) (by omega) hRM, ?_, ?_, ?_, ?_, pc, po, hpa, fun q X => ?_, fun q => ?_⟩
  · rw [← ex, show 18 + 1 = 19 from rfl, hv]; exact pa
  · rw [← ex, show 18 + 1 = 19 from rfl, hv, hA] at er
    rw [← er, hA3] at e3
    rw [← e3, h364]
    exact hpt.1
  · rw [← ex, show 18 + 1 = 19 from rfl, hv, hA] at er
    rw [← er, hA3] at e3
    rw [← e3, show 18 + 1 = 19 from rfl, hA4] at e4
    rw [← e4, s2, s3]
    exact pm1
  · refine pm2.of ?_ gj
    rw [g35]
  · rw [g35, fm 35 2 (by decide) (by decide), ← hA4, gs_o (by decide), ← hA3, gs_eq, if_pos rfl]
    rcases hmiss with ⟨w1, w2, -⟩ | ⟨w1, w2, -⟩
    · rw [w2, if_pos (by rw [ti_le, ti0]; omega)]
    · rw [w2, if_neg (by rw [ti_le, ti0]; omega)]
  · rw [g35, fm 35 3 (by decide) (by decide), ← hA4, gs_o (by decide), r35 3 (by decide)]
  · rw [g35, m4]
  · rw [g35, gj, ← j4]
    exact pm3 (by rw [s7]; exact q) X
  · rw [g35, pm4 (by rw [s7]; exact q), s7]
