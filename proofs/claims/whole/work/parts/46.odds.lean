-- needs: 45.hurl
theorem whole_bw {sh : Int32} (h : bw sh 0 3) : bw (12 * (2 * sh + 1)) 12 84 := by
  obtain ⟨a, b⟩ := h
  have t2 : (2 * sh).toInt = 2 * sh.toInt := ti_mul (by rw [show (2 : Int32).toInt = 2 from rfl]; omega) (by rw [show (2 : Int32).toInt = 2 from rfl]; omega)
  have t3 : (2 * sh + 1).toInt = 2 * sh.toInt + 1 := by rw [ti_add (by rw [t2, ti1]; omega) (by rw [t2, ti1]; omega), t2, ti1]
  have t12 : (12 : Int32).toInt = 12 := rfl
  unfold bw
  rw [ti_mul (by rw [t3, t12]; omega) (by rw [t3, t12]; omega), t3, t12]
  omega
theorem allOdds_v (T : HSt) : f_X12_allOdds T 64 = 12 * (2 * f_X12_horseOf T 64 2 + 1) := rfl
/-- the odds' bounds -/
theorem o12_bw {e gt dk t : Int32} (h : bw dk 0 12) : bw (o12 e gt dk t) 0 12 := by
  unfold o12
  by_cases c : e = 0
  · rw [if_pos c]
    unfold bw
    rw [ti_sub (by rw [show (12 : Int32).toInt = 12 from rfl]; have := h.2; omega) (by rw [show (12 : Int32).toInt = 12 from rfl]; have := h.1; omega), show (12 : Int32).toInt = 12 from rfl]
    have := h.1; have := h.2; omega
  · rw [if_neg c]
    by_cases d : t - t / gt * gt = 0
    · rw [if_pos d]; exact ⟨by decide, by decide⟩
    · rw [if_neg d]; exact ⟨by decide, by decide⟩
theorem add_bw {e D pace wide gait duck size x : Int32} (h : bw duck 0 12) : bw (addF e D pace wide gait duck size x) 0 12 := by
  unfold addF
  by_cases c : mFl D (x - pace) ≤ 30
  · rw [if_pos c]
    by_cases d : 0 ≤ ovF e wide (mFl D (x - pace)) size
    · rw [if_pos d]; exact o12_bw h
    · rw [if_neg d]; exact ⟨by decide, by decide⟩
  · rw [if_neg c]; exact ⟨by decide, by decide⟩
theorem odds_L {i : Nat} {e far pace wide gait duck lag near sh size spin tick kk : Int32} : ∀ (n : Nat) (T : HSt) (w3 v5 : Int32) (z m : Int), TMod T i far pace wide gait duck lag near sh size spin tick kk → v5.toInt = spin.toInt + z → -sh.toInt ≤ z → z ≤ sh.toInt + 1 → sh.toInt + 1 - z < n → 0 ≤ w3.toInt → w3.toInt ≤ m → m + 12 * (sh.toInt + 1 - z) ≤ 1000 → 0 ≤ (L_X12_oddsOf_17 n T e (nI i) sh w3 v5).2.2.2.1.toInt ∧ (L_X12_oddsOf_17 n T e (nI i) sh w3 v5).2.2.2.1.toInt ≤ m + 12 * (sh.toInt + 1 - z) := by
  intro n
  induction n with
  | zero => intro T w3 v5 z m _ _ _ _ h; omega
  | succ n ih =>
    intro T w3 v5 z m hT h5 g1 g2 g3 w0 w1 hm
    have hT' := hT
    obtain ⟨-, -, -, -, ⟨-, c1, -, -⟩, ⟨-, -, -, -, b4⟩, ⟨l0, l1, l2⟩, z0, z1, z2, -⟩ := hT'
    have tsp : (spin + sh).toInt = spin.toInt + sh.toInt := ti_add (by have := z1.1; have := l2.1; omega) (by have := z1.2; have := l2.2; omega)
    have l2b := l2.2
    have z1a := z1.1
    have z1b := z1.2
    unfold L_X12_oddsOf_17
    rw [c1]
    by_cases c : spin + sh < v5
    · rw [if_pos c]
      show 0 ≤ w3.toInt ∧ w3.toInt ≤ _
      omega
    · rw [if_neg c]
      simp only [bd_def]
      rw [ti_lt] at c
      obtain ⟨-, o2, o3⟩ := odds_at hT e (if 0 ≤ v5 then v5 else 0)
      have hT2 : TMod (f_X12_oddsBy T 64 e (nI i) (if 0 ≤ v5 then v5 else 0)).2 i far pace wide gait duck lag near sh size spin tick kk := by
        rcases o3 with q | ⟨v, q⟩
        · rw [q]; exact hT
        · rw [q]; exact hT.s v
      have hb : bw (f_X12_oddsBy T 64 e (nI i) (if 0 ≤ v5 then v5 else 0)).1 0 12 := by
        rw [o2]
        by_cases q : f_X12_isStill T 64 = 0
        · rw [if_pos q]; exact add_bw b4
        · rw [if_neg q]; exact ⟨by decide, by decide⟩
      have tw : (w3 + (f_X12_oddsBy T 64 e (nI i) (if 0 ≤ v5 then v5 else 0)).1).toInt = w3.toInt + (f_X12_oddsBy T 64 e (nI i) (if 0 ≤ v5 then v5 else 0)).1.toInt := ti_add (by have := hb.1; omega) (by have := hb.2; omega)
      have t5 : (v5 + 1).toInt = v5.toInt + 1 := by rw [ti_add (by rw [ti1]; omega) (by rw [ti1]; omega), ti1]
      have hb1 := hb.1
      have hb2 := hb.2
      obtain ⟨i1, i2⟩ := ih (f_X12_oddsBy T 64 e (nI i) (if 0 ≤ v5 then v5 else 0)).2 (w3 + (f_X12_oddsBy T 64 e (nI i) (if 0 ≤ v5 then v5 else 0)).1) (v5 + 1) (z + 1) (m + 12) hT2 (by rw [t5]; omega) (by omega) (by omega) (by omega) (by rw [tw]; omega) (by rw [tw]; omega) (by omega)
      exact ⟨i1, by omega⟩
theorem odds_bw {T : HSt} {i : Nat} {e far pace wide gait duck lag near sh size spin tick kk : Int32} (h : TMod T i far pace wide gait duck lag near sh size spin tick kk) : bw (f_X12_oddsOf T 64 e (nI i)).1 0 84 := by
  have h' := h
  obtain ⟨-, -, ⟨-, -, b2⟩, -, ⟨-, c1, -, -⟩, -, ⟨-, -, l2⟩, -, z1, -, -⟩ := h'
  have l2a := l2.1
  have l2b := l2.2
  have z1a := z1.1
  have z1b := z1.2
  have tn : (spin - sh).toInt = spin.toInt + -sh.toInt := by rw [ti_sub (by omega) (by omega)]; omega
  obtain ⟨i1, i2⟩ := odds_L (e := e) 1000 T 0 (spin - sh) (-sh.toInt) 0 h tn (by omega) (by omega) (by omega) (by decide) (by decide) (by omega)
  have e1 : (f_X12_oddsOf T 64 e (nI i)).1 = (L_X12_oddsOf_17 1000 T e (nI i) sh 0 (spin - sh)).2.2.2.1 := by
    unfold f_X12_oddsOf
    simp only [bd_def]
    rw [pr_1, b2, c1]
  rw [e1]
  exact ⟨i1, by omega⟩
theorem k_odds : K_odds Inv0 := by
  intro n S a b w hn hI
  have f1 := v_X11_odds S 0 a b w
  have f2 := v_X12_odds (f_X11_odds S 0 a b w).2 64 a b w
  have g68 : gI (f_X11_odds S 0 a b w).2 68 = gI S 68 := fr_addr f1 68 (by decide)
  have g71 : gI (f_X11_odds S 0 a b w).2 71 = gI S 71 := fr_addr f1 71 (by decide)
  have g64 : gI (f_X11_odds S 0 a b w).2 64 = gI S 64 := fr_addr f1 64 (by decide)
  have hp : ∀ T : HSt, f_X12_in T w.toInt64 (0 : Int64) (1 : Int64) = f_X11_within S w 0 1 := fun T => by
    rw [show (0 : Int64) = (0 : Int32).toInt64 from rfl, show (1 : Int64) = (1 : Int32).toInt64 from rfl, in_within T S]
  have hinv : Inv0 (n + 1) (f_X12_odds (f_X11_odds S 0 a b w).2 64 a b w).2 := ((hI.same (same_of_fr (by decide) f1)).same (same_of_fr (by decide) f2)).mono (Nat.le_succ n)
  have key : p_X11_odds S 0 a b w ∧ p_X12_odds (f_X11_odds S 0 a b w).2 64 a b w ∧ (f_X11_odds S 0 a b w).1 = (f_X12_odds (f_X11_odds S 0 a b w).2 64 a b w).1 := by
    generalize hU : (f_X11_odds S 0 a b w).2 = U at g68 g71 g64
    have s68 : gI (sI U 64 0 0) 68 = gI S 68 := by rw [gs_ne (by decide), g68]
    have s71 : gI (sI U 64 0 0) 71 = gI S 71 := by rw [gs_ne (by decide), g71]
    have s18 : gI (sI U 64 0 0) 64 18 = gI S 64 18 := by rw [gs_o (by decide), g64]
    have s19 : gI (sI U 64 0 0) 64 19 = gI S 64 19 := by rw [gs_o (by decide), g64]
    rcases can_case hI a b with ⟨c, hc⟩ | ⟨i, hi, rfl, hic, h7, c, hc⟩
    · have hm := hc (sI U 64 0 0) s68
      have hno : ∀ S1 : HSt, sI U 64 0 0 = S1 → ¬ f_X12_in S1 a.toInt64 (0 : Int64) (1 : Int64) = 0 → ¬ f_X12_isBeast S1 64 b = 0 → False := by
        intro S1 e1 q1 q2
        rw [← e1] at q1 q2
        rcases hm with hm | hm
        · exact absurd hm q1
        · exact absurd hm q2
      refine ⟨⟨fun _ => p_has S 19 _ _, fun q => absurd c q, fun q => absurd c q⟩, ⟨fun S1 e1 q1 q2 => (hno S1 e1 q1 q2).elim, fun S1 e1 q1 q2 => (hno S1 e1 q1 q2).elim, fun S1 e1 q1 q2 => (hno S1 e1 q1 q2).elim⟩, ?_⟩
      have e1 : (f_X11_odds S 0 a b w).1 = -9000000000000000001 := by
        unfold f_X11_odds
        rw [if_pos c, pr_1]
      have e2 : (f_X12_odds U 64 a b w).1 = -9000000000000000001 := by
        unfold f_X12_odds
        rw [bd_def]
        rcases hm with hm | hm
        · rw [if_pos hm, pr_1]
        · by_cases q : f_X12_in (sI U 64 0 0) a.toInt64 (0 : Int64) (1 : Int64) = 0
          · rw [if_pos q, pr_1]
          · rw [if_neg q, if_pos hm, pr_1]
      rw [e1, e2]
    · obtain ⟨hm1, hm2⟩ := hc (sI U 64 0 0) s68
      have hK := lnk hn hI (U := sI U 64 0 0) s68 s71 s18 s19 hi hic
      obtain ⟨pa, ⟨po, a2, a3, hTo⟩, -, -⟩ := aim_at hK (o := 34) (by decide) (by decide) (by decide) a
      have hbo := odds_bw (e := if a = 1 then 1 else 0) hK.1
      generalize hT2 : f_X12_layLive (sI U 64 0 0) 64 = T2 at hK po a2 hTo hbo
      generalize hO : f_X12_oddsOf T2 64 (if a = 1 then 1 else 0) (nI i) = O at po a2 hTo hbo
      have hwb := whole_bw hTo.2.2.2.2.2.2.1.2.2
      have hao : f_X12_allOdds O.2 64 = 12 * (2 * gI S 18 9 + 1) := by rw [allOdds_v, hTo.2.2.1.2.2]
      have hlow := low_eq (f_X9_aim S 34 18 22 a (nI i)) O.2 (a := O.1.toInt64) (b := (12 * (2 * gI S 18 9 + 1) : Int32).toInt64) (by rw [tj_32]; exact hbo.1) (by rw [tj_32]; have := hwb.1; omega) (by rw [tj_32]; have := hwb.2; omega) w
      refine ⟨⟨fun _ => p_has S 19 _ _, fun _ _ => pa, fun _ _ r hr => ?_⟩, ⟨?_, ?_, ?_⟩, ?_⟩
      · rw [← hr, a2, a3]; exact hlow.1
      · intro S1 e1 _ _ _ r5 e5 x7 e7
        rw [← e1, hT2] at e5
        rw [← e5, ← e7]
        exact po
      · intro S1 e1 _ _ _ r5 e5 x7 e7 r8 e8
        rw [← e1, hT2] at e5
        rw [← e5, ← e7, hO] at e8
        rw [← e8]
        exact hTo.2.2.2.1.2.2
      · intro S1 e1 _ _ _ r5 e5 x7 e7 r8 e8
        rw [← e1, hT2] at e5
        rw [← e5, ← e7, hO] at e8
        rw [← e8, hao]
        exact hlow.2.1
      · unfold f_X11_odds f_X12_odds
        simp only [bd_def]
        rw [if_neg c, if_neg hm1, if_neg hm2, hp]
        by_cases c2 : f_X11_within S w 0 1 = 0
        · rw [if_pos c2, if_pos c2, pr_1, pr_1]
        · rw [if_neg c2, if_neg c2, hT2, hO, pr_1, pr_1, a2, a3, hao]
          exact hlow.2.2.1
  exact ⟨key.1, key.2.1, key.2.2, hinv⟩
