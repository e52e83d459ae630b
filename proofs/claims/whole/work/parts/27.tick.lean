-- needs: 26.live
theorem still_eq {S T : HSt} {o : Nat} (hL : LoopR (gI S o) (WL T)) (h0 : 0 ≤ (gI T 64 20).toInt) : f_X1_hasFallen S o = f_X12_isStill T 64 := by
  obtain ⟨l0, l1, l2, l3, l4, l5, l6⟩ := hL
  have l0 : gI S o 0 = gI T 64 20 := l0
  have l6 : gI S o 6 = gI T 64 25 := l6
  show (if gI S o 6 = 0 then (if 0 < gI S o 0 then (0 : Int32) else 1) else 1) = (if gI T 64 25 = 0 then (if gI T 64 20 = 0 then (1 : Int32) else 0) else 1)
  rw [l0, l6]
  by_cases c : gI T 64 25 = 0
  · rw [if_pos c, if_pos c]
    by_cases d : gI T 64 20 = 0
    · rw [if_pos d, if_neg (by rw [d]; decide)]
    · rw [if_neg d, if_pos]
      rw [ti_lt, ti0]
      have : (gI T 64 20).toInt ≠ 0 := fun q => d (ti_eq.mpr q)
      omega
  · rw [if_neg c, if_neg c]
theorem still_0 {T : HSt} (h : f_X12_isStill T 64 = 0) : gI T 64 25 = 0 ∧ ¬ gI T 64 20 = 0 := by
  have e : f_X12_isStill T 64 = (if gI T 64 25 = 0 then (if gI T 64 20 = 0 then (1 : Int32) else 0) else 1) := rfl
  rw [e] at h
  by_cases c : gI T 64 25 = 0
  · rw [if_pos c] at h
    by_cases d : gI T 64 20 = 0
    · rw [if_pos d] at h; exact absurd h (by decide)
    · exact ⟨c, d⟩
  · rw [if_neg c] at h; exact absurd h (by decide)
/-- the live loop laid out: what holds there -/
theorem laid {n : Nat} {S U : HSt} (hI : Inv0 n S) (h68 : gI U 68 = gI S 68) (h71 : gI U 71 = gI S 71) (h18 : gI U 64 18 = gI S 64 18) : PRm S 18 (f_X12_layLive U 64) ∧ LoopR (gI S 22) (WL (f_X12_layLive U 64)) ∧ LoopB n (gI S 18 4) (gI S 18 5) (WL (f_X12_layLive U 64)) ∧ gI (f_X12_layLive U 64) 68 = gI S 68 ∧ (∀ j, j < 7 → WL (f_X12_layLive U 64) j = gI S 71 j) := by
  obtain ⟨hR, -⟩ := hI.2.2.2.2.1
  have f := v_X12_layLive U 64
  have e68 : gI (f_X12_layLive U 64) 68 = gI S 68 := (fr_addr f 68 (by decide)).trans h68
  have e18 : gI (f_X12_layLive U 64) 64 18 = gI S 64 18 := (f 64 18 (by decide) (by decide)).trans h18
  have hl : ∀ j, j < 7 → WL (f_X12_layLive U 64) j = gI S 71 j := fun j hj => by
    rw [lay_at U (by rw [h71]; exact hR.2.2.2.2.2.2.2.2.2.1) j hj, h71]
  refine ⟨?_, hR.2.2.2.1.cg hl, ?_, e68, hl⟩
  · refine PRm.of (n := n) (Lv := gI S 71) (hh := gI S 64 19) ?_
    rw [e68, e18]
    exact hR
  · rw [hR.2.2.1.2.2.1, hR.2.2.1.2.2.2.1]
    exact hR.2.2.2.2.cg hl
theorem k_tick : K_tick Inv0 := by
  intro n S a1 a2 a3 a4 hn hI
  have hp1 : ∀ T : HSt, f_X12_in T a1.toInt64 (0 : Int64) (1 : Int64) = f_X11_within S a1 0 1 := fun T => by
    rw [show (0 : Int64) = (0 : Int32).toInt64 from rfl, show (1 : Int64) = (1 : Int32).toInt64 from rfl, in_within T S]
  have hp2 : ∀ T : HSt, f_X12_in T a2.toInt64 (0 : Int64) (4 : Int64) = f_X11_within S a2 0 4 := fun T => by
    rw [show (0 : Int64) = (0 : Int32).toInt64 from rfl, show (4 : Int64) = (4 : Int32).toInt64 from rfl, in_within T S]
  have hp3 : ∀ T : HSt, f_X12_in T a3.toInt64 (0 : Int64) (9 : Int64) = f_X11_within S a3 0 9 := fun T => by
    rw [show (0 : Int64) = (0 : Int32).toInt64 from rfl, show (9 : Int64) = (9 : Int32).toInt64 from rfl, in_within T S]
  have hp4 : ∀ T : HSt, f_X12_in T a4.toInt64 (0 : Int64) (15 : Int64) = f_X11_within S a4 0 15 := fun T => by
    rw [show (0 : Int64) = (0 : Int32).toInt64 from rfl, show (15 : Int64) = (15 : Int32).toInt64 from rfl, in_within T S]
  have f1 := v_X11_tick S 0 a1 a2 a3 a4
  have f2 := v_X12_tick (f_X11_tick S 0 a1 a2 a3 a4).2 64 a1 a2 a3 a4
  obtain ⟨hR, hth, hbz, -⟩ := hI.2.2.2.2.1
  have g68 : gI (f_X11_tick S 0 a1 a2 a3 a4).2 68 = gI S 68 := fr_addr f1 68 (by decide)
  have g71 : gI (f_X11_tick S 0 a1 a2 a3 a4).2 71 = gI S 71 := fr_addr f1 71 (by decide)
  have g64 : gI (f_X11_tick S 0 a1 a2 a3 a4).2 64 = gI S 64 := fr_addr f1 64 (by decide)
  have key : p_X12_tick (f_X11_tick S 0 a1 a2 a3 a4).2 64 a1 a2 a3 a4 ∧ (f_X11_tick S 0 a1 a2 a3 a4).1 = (f_X12_tick (f_X11_tick S 0 a1 a2 a3 a4).2 64 a1 a2 a3 a4).1 ∧ LoopR (gI (f_X12_tick (f_X11_tick S 0 a1 a2 a3 a4).2 64 a1 a2 a3 a4).2 22) (gI (f_X12_tick (f_X11_tick S 0 a1 a2 a3 a4).2 64 a1 a2 a3 a4).2 71) ∧ LoopB (n + 1) (gI S 18 4) (gI S 18 5) (gI (f_X12_tick (f_X11_tick S 0 a1 a2 a3 a4).2 64 a1 a2 a3 a4).2 71) := by
    have h22 : gI (f_X12_tick (f_X11_tick S 0 a1 a2 a3 a4).2 64 a1 a2 a3 a4).2 22 = gI (f_X11_tick S 0 a1 a2 a3 a4).2 22 := fr_addr f2 22 (by decide)
    rw [h22]
    generalize hU : (f_X11_tick S 0 a1 a2 a3 a4).2 = U at g68 g71 g64
    have hU22 : gI U 22 = gI (f_X11_tick S 0 a1 a2 a3 a4).2 22 := by rw [hU]
    obtain ⟨hP, hL, hB, -, hl⟩ := laid hI (U := sI U 64 0 0) g68 g71 (by rw [← g64]; rfl)
    have hB0 : LoopB (n + 1) (gI S 18 4) (gI S 18 5) (gI S 71) := (hB.cg (fun j hj => (hl j hj).symm)).mono (Nat.le_succ n)
    have hL0 : LoopR (gI S 22) (gI S 71) := hR.2.2.2.1
    generalize hT2 : f_X12_layLive (sI U 64 0 0) 64 = T2 at hP hL hB hl
    have fl := w_X12_layLive (sI U 64 0 0) 64 T2 hT2
    have t7 : gI T2 64 7 = gI S 64 7 := (fl 64 7 (by decide) (by decide)).trans (by rw [← g64]; rfl)
    have t71 : gI T2 71 = gI S 71 := (fr_addr fl 71 (by decide)).trans g71
    have h0 : 0 ≤ (gI T2 64 20).toInt := hB.1.1
    have hst := still_eq hL h0
    -- the step itself
    have step : ¬ f_X11_within S a1 0 1 = 0 → ¬ f_X11_within S a3 0 9 = 0 → ¬ f_X11_within S a4 0 15 = 0 → f_X12_isStill T2 64 = 0 → LoopR (gI (f_X1_advance S 22 18 (if a1 = 1 then 1 else 0) a2 a3 a4) 22) (WL (f_X12_doTick T2 64 (if a1 = 1 then 1 else 0) a2 a3 a4)) ∧ LoopB (n + 1) (gI S 18 4) (gI S 18 5) (WL (f_X12_doTick T2 64 (if a1 = 1 then 1 else 0) a2 a3 a4)) := fun _ q3 q4 qs => by
      have w3 := within_1 S q3
      have w4 := within_1 S q4
      exact adv_tick (by decide) hP (by omega) hL hB (still_0 qs).1 ⟨w3.1, w3.2⟩ (Or.inl ⟨rfl, ⟨w4.1, w4.2⟩⟩)
    refine ⟨⟨?_, ?_⟩, ?_⟩
    · intro S1 e1 _ _ _ _ r6 e6 _ _ x10 _
      rw [← e1, hT2] at e6
      rw [← e6]
      exact p_tick hP _ _ _ _
    · intro S1 e1 q1 q2 q3 q4 r6 e6 _ qs x10 e10 r11 e11
      rw [← e1, hT2] at e6
      subst e6
      rw [← e1, hp1] at q1
      rw [← e1, hp3] at q3
      rw [← e1, hp4] at q4
      rw [← e11, ← e10]
      exact (keep_at _ (step q1 q3 q4 qs).2.2.2.2.2.2.1).1
    · unfold f_X12_tick
      rw [bd_def, hp1, hp2, hp3, hp4]
      unfold f_X11_tick at hU22 ⊢
      by_cases c1 : f_X11_within S a1 0 1 = 0
      · rw [if_pos c1] at hU22 ⊢
        rw [if_pos c1, hU22]
        exact ⟨rfl, by show LoopR (gI S 22) (gI U 71); rw [g71]; exact hL0, by show LoopB _ _ _ (gI U 71); rw [g71]; exact hB0⟩
      · rw [if_neg c1] at hU22 ⊢
        rw [if_neg c1]
        by_cases c2 : f_X11_within S a2 0 4 = 0
        · rw [if_pos c2] at hU22 ⊢
          rw [if_pos c2, hU22]
          exact ⟨rfl, by show LoopR (gI S 22) (gI U 71); rw [g71]; exact hL0, by show LoopB _ _ _ (gI U 71); rw [g71]; exact hB0⟩
        · rw [if_neg c2] at hU22 ⊢
          rw [if_neg c2]
          by_cases c3 : f_X11_within S a3 0 9 = 0
          · rw [if_pos c3] at hU22 ⊢
            rw [if_pos c3, hU22]
            exact ⟨rfl, by show LoopR (gI S 22) (gI U 71); rw [g71]; exact hL0, by show LoopB _ _ _ (gI U 71); rw [g71]; exact hB0⟩
          · rw [if_neg c3] at hU22 ⊢
            rw [if_neg c3]
            by_cases c4 : f_X11_within S a4 0 15 = 0
            · rw [if_pos c4] at hU22 ⊢
              rw [if_pos c4, hU22]
              exact ⟨rfl, by show LoopR (gI S 22) (gI U 71); rw [g71]; exact hL0, by show LoopB _ _ _ (gI U 71); rw [g71]; exact hB0⟩
            · rw [if_neg c4] at hU22 ⊢
              rw [if_neg c4, hT2]
              simp only [bd_def, t7] at hU22 ⊢
              rw [hth] at hU22 ⊢
              by_cases c5 : gI S 64 7 = 0
              · rw [if_pos c5] at hU22 ⊢
                rw [if_pos c5, hU22]
                exact ⟨rfl, by show LoopR (gI S 22) (gI T2 71); rw [t71]; exact hL0, by show LoopB _ _ _ (gI T2 71); rw [t71]; exact hB0⟩
              · rw [if_neg c5] at hU22 ⊢
                rw [if_neg c5]
                rw [hst] at hU22 ⊢
                by_cases c6 : f_X12_isStill T2 64 = 0
                · rw [if_pos c6] at hU22 ⊢
                  rw [if_pos c6]
                  obtain ⟨s1, s2⟩ := step c1 c3 c4 c6
                  obtain ⟨-, kp⟩ := keep_at _ s2.2.2.2.2.2.1
                  have fk := v_X12_keepLive (f_X12_doTick T2 64 (if a1 = 1 then 1 else 0) a2 a3 a4) 64
                  rw [pr_1, pr_1, pr_2]
                  rw [pr_2] at hU22
                  refine ⟨?_, ?_, s2.cg kp⟩
                  · rw [fk 64 26 (by decide) (by decide)]
                    exact congrArg Int32.toInt64 s1.2.2.2.2.2.1
                  · rw [hU22]
                    exact s1.cg kp
                · rw [if_neg c6] at hU22 ⊢
                  rw [if_neg c6, hU22]
                  exact ⟨rfl, by show LoopR (gI S 22) (gI T2 71); rw [t71]; exact hL0, by show LoopB _ _ _ (gI T2 71); rw [t71]; exact hB0⟩
  exact ⟨key.1, key.2.1, inv_loop (Nat.le_succ n) f1 f2 (by decide) (by decide) key.2.2.1 key.2.2.2 hI⟩
