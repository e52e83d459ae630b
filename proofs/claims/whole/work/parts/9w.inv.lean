-- needs: 9v.fr 18.whole 22.a 22.b 22.c 27.tick 28.close 29.take 30.rows 31.drop 32.set 35.image 36.restore 37.out 38.feed 39.count 45.hurl 46.odds 50.ask 51.copy 52.film 53.learn 57.runs 58.all 59.best 63.dfs
/-! ===== ASSEMBLY: the invariant and all calls ===== -/
def SHP (S : HSt) : Prop := CS S ∧ MS S ∧ ((gn S = 88 ∧ gP S 0 9 = none) ∨ ∃ h nx, RS h nx S ∧ gP S 0 9 = some 88 ∧ h ≠ nx)
theorem SHP.of {S T : HSt} (h : shp T = shp S) (hs : SHP S) : SHP T := by
  have h1 : gn T = gn S := congrArg (fun q => q.1) h
  have h2 : gK T = gK S := congrArg (fun q => q.2.1) h
  have h3 : gL T = gL S := congrArg (fun q => q.2.2.1) h
  have h4 : gP T = gP S := congrArg (fun q => q.2.2.2) h
  unfold SHP CS MS RS CS at hs ⊢
  rw [h1, h2, h3, h4]
  exact hs
def INV (n : Nat) (S : HSt) : Prop := SHP S ∧ Inv0 n S ∧ IPlan n S
theorem INV.sh : ISh INV := fun n S h => ⟨h.1.1, h.1.2.1, by
  rcases h.1.2.2 with q | ⟨a, b, c, d, -⟩
  · exact Or.inl q
  · exact Or.inr ⟨a, b, c, d⟩⟩
theorem INV.mono (n : Nat) (S : HSt) (h : INV n S) : INV (n + 1) S := ⟨h.1, h.2.1.mono (Nat.le_succ n), h.2.2.mono (Nat.le_succ n)⟩
/-- takes grow: the planner's memory is out of date -/
theorem IPlan.bump {n : Nat} {S T : HSt} (hn : n < 512) (h18 : gI T 18 3 = gI S 18 3 + 1) (h6 : gI T 43 6 = gI S 43 6) (h7 : gI T 43 7 = gI S 43 7) (h : IPlan n S) : IPlan (n + 1) T := by
  have hb := h.1
  have e : (gI T 18 3).toInt = (gI S 18 3).toInt + 1 := by rw [h18, ti_add (by rw [ti1]; omega) (by rw [ti1]; omega), ti1]
  refine ⟨by rw [e]; omega, ?_⟩
  rcases h.2 with q | ⟨m, a1, a2, a3, a4, a5⟩
  · exact Or.inl (h6.trans q)
  · refine Or.inr ⟨m, a1, a2, h6.trans a3, by rw [h7, e]; omega, fun q => ?_⟩
    exfalso
    have := congrArg Int32.toInt q
    rw [h7, e] at this
    omega
theorem kI_set : K_set INV := by
  intro n S a1 a2 a3 hn hV
  obtain ⟨hs, hI, hP⟩ := hV
  obtain ⟨p0, p1, p2, hI2⟩ := k_set n S a1 a2 a3 hn hI
  exact ⟨p0, p1, p2, hs.of ((q_X12_set _ _ _ _ _).trans (q_X11_set _ _ _ _ _)), hI2, (fr_plan (by decide) (v_X12_set _ _ _ _ _) (fr_plan (by decide) (fr11_set n S a1 a2 a3 hn hI) hP)).mono (Nat.le_succ n)⟩
theorem kI_copy : K_copy INV := by
  intro n S a1 a2 a3 a4 a5 hn hV
  obtain ⟨hs, hI, hP⟩ := hV
  obtain ⟨p0, p1, p2, hI2⟩ := k_copy n S a1 a2 a3 a4 a5 hn hI
  exact ⟨p0, p1, p2, hs.of ((q_X12_copy _ _ _ _ _ _ _).trans (q_X11_copy _ _ _ _ _ _ _)), hI2, (fr_plan (by decide) (v_X12_copy _ _ _ _ _ _ _) (fr_plan (by decide) (fr11_copy n S a1 a2 a3 a4 a5 hn hI) hP)).mono (Nat.le_succ n)⟩
theorem kI_drop : K_drop INV := by
  intro n S a1 hn hV
  obtain ⟨hs, hI, hP⟩ := hV
  obtain ⟨p0, p1, p2, hI2⟩ := k_drop n S a1 hn hI
  exact ⟨p0, p1, p2, hs.of ((q_X12_drop _ _ _).trans (q_X11_drop _ _ _)), hI2, (fr_plan (by decide) (v_X12_drop _ _ _) (fr_plan (by decide) (v_X11_drop S 0 a1) hP)).mono (Nat.le_succ n)⟩
theorem kI_feed : K_feed INV := by
  intro n S a1 a2 hn hV
  obtain ⟨hs, hI, hP⟩ := hV
  obtain ⟨p0, p1, p2, hI2⟩ := k_feed n S a1 a2 hn hI
  exact ⟨p0, p1, p2, hs.of ((q_X12_feed _ _ _ _).trans (q_X11_feed _ _ _ _)), hI2, (fr_plan (by decide) (v_X12_feed _ _ _ _) (fr_plan (by decide) (v_X11_feed S 0 a1 a2) hP)).mono (Nat.le_succ n)⟩
theorem kI_fault : K_fault INV := by
  intro n S hn hV
  obtain ⟨hs, hI, hP⟩ := hV
  obtain ⟨p0, hI2⟩ := k_fault n S hn hI
  exact ⟨p0, hs.of (q_X12_fault _ _), hI2, (fr_plan (by decide) (v_X12_fault _ _) hP).mono (Nat.le_succ n)⟩
theorem kI_act : K_act INV := by
  intro n S a1 a2 hn hV
  obtain ⟨hs, hI, hP⟩ := hV
  obtain ⟨p0, p1, p2, hI2⟩ := k_act n S a1 a2 hn hI
  exact ⟨p0, p1, p2, hs.of (q_X12_act _ _ _ _), hI2, (fr_plan (by decide) (v_X12_act _ _ _ _) hP).mono (Nat.le_succ n)⟩
theorem kI_tick : K_tick INV := by
  intro n S a1 a2 a3 a4 hn hV
  obtain ⟨hs, hI, hP⟩ := hV
  obtain ⟨p0, p1, hI2⟩ := k_tick n S a1 a2 a3 a4 hn hI
  exact ⟨p0, p1, hs.of ((q_X12_tick _ _ _ _ _ _).trans (q_X11_tick _ _ _ _ _ _)), hI2, (fr_plan (by decide) (v_X12_tick _ _ _ _ _ _) (fr_plan (by decide) (v_X11_tick S 0 a1 a2 a3 a4) hP)).mono (Nat.le_succ n)⟩
theorem kI_hurl : K_hurl INV := by
  intro n S a1 a2 hn hV
  obtain ⟨hs, hI, hP⟩ := hV
  obtain ⟨p0, p1, p2, hI2⟩ := k_hurl n S a1 a2 hn hI
  exact ⟨p0, p1, p2, hs.of ((q_X12_hurl _ _ _ _).trans (q_X11_hurl _ _ _ _)), hI2, (fr_plan (by decide) (v_X12_hurl _ _ _ _) (fr_plan (by decide) (v_X11_hurl S 0 a1 a2) hP)).mono (Nat.le_succ n)⟩
theorem kI_close : K_close INV := by
  intro n S hn hV
  obtain ⟨hs, hI, hP⟩ := hV
  obtain ⟨p0, p1, hI2⟩ := k_close n S hn hI
  exact ⟨p0, p1, hs.of ((q_X12_close _ _).trans (q_X11_close _ _)), hI2, (fr_plan (by decide) (v_X12_close _ _) (fr_plan (by decide) (v_X11_close S 0) hP)).mono (Nat.le_succ n)⟩
theorem kI_now : K_now INV := by
  intro n S a1 hn hV
  obtain ⟨hs, hI, hP⟩ := hV
  obtain ⟨p0, p1, hI2⟩ := k_now n S a1 hn hI
  exact ⟨p0, p1, hs.of (q_X12_now _ _ _), hI2, (fr_plan (by decide) (v_X12_now _ _ _) hP).mono (Nat.le_succ n)⟩
theorem kI_piece : K_piece INV := by
  intro n S a1 hn hV
  obtain ⟨hs, hI, hP⟩ := hV
  obtain ⟨p0, p1, hI2⟩ := k_piece n S a1 hn hI
  exact ⟨p0, p1, hs.of (q_X12_piece _ _ _), hI2, (fr_plan (by decide) (v_X12_piece _ _ _) hP).mono (Nat.le_succ n)⟩
theorem kI_odds : K_odds INV := by
  intro n S a1 a2 a3 hn hV
  obtain ⟨hs, hI, hP⟩ := hV
  obtain ⟨p0, p1, p2, hI2⟩ := k_odds n S a1 a2 a3 hn hI
  exact ⟨p0, p1, p2, hs.of ((q_X12_odds _ _ _ _ _).trans (q_X11_odds _ _ _ _ _)), hI2, (fr_plan (by decide) (v_X12_odds _ _ _ _ _) (fr_plan (by decide) (v_X11_odds S 0 a1 a2 a3) hP)).mono (Nat.le_succ n)⟩
theorem kI_need : K_need INV := by
  intro n S a1 hn hV
  obtain ⟨hs, hI, hP⟩ := hV
  obtain ⟨p0, p1, hI2⟩ := k_need n S a1 hn hI
  exact ⟨p0, p1, hs.of (q_X12_need _ _ _), hI2, (fr_plan (by decide) (v_X12_need _ _ _) hP).mono (Nat.le_succ n)⟩
theorem kI_greatest : K_greatest INV := by
  intro n S a1 hn hV
  obtain ⟨hs, hI, hP⟩ := hV
  obtain ⟨p0, p1, p2, hI2⟩ := k_greatest n S a1 hn hI
  exact ⟨p0, p1, p2, hs.of (q_X12_greatest _ _ _), hI2, (fr_plan (by decide) (v_X12_greatest _ _ _) hP).mono (Nat.le_succ n)⟩
theorem kI_out : K_out INV := by
  intro n S a1 a2 hn hV
  obtain ⟨hs, hI, hP⟩ := hV
  obtain ⟨p0, p1, p2, hI2⟩ := k_out n S a1 a2 hn hI
  exact ⟨p0, p1, p2, hs.of (q_X12_out _ _ _ _), hI2, (fr_plan (by decide) (v_X12_out _ _ _ _) hP).mono (Nat.le_succ n)⟩
theorem kI_wraps : K_wraps INV := by
  intro n S a1 a2 hn hV
  obtain ⟨hs, hI, hP⟩ := hV
  obtain ⟨p0, p1, p2, hI2⟩ := k_wraps n S a1 a2 hn hI
  exact ⟨p0, p1, p2, hs.of (q_X12_wraps _ _ _ _), hI2, (fr_plan (by decide) (v_X12_wraps _ _ _ _) hP).mono (Nat.le_succ n)⟩
theorem kI_told : K_told INV := by
  intro n S a1 a2 hn hV
  obtain ⟨hs, hI, hP⟩ := hV
  obtain ⟨p0, p1, p2, hI2⟩ := k_told n S a1 a2 hn hI
  exact ⟨p0, p1, p2, hs.of ((q_X12_told _ _ _ _).trans (q_X11_told _ _ _ _)), hI2, (fr_plan (by decide) (v_X12_told _ _ _ _) (fr_plan (by decide) (v_X11_told S 0 a1 a2) hP)).mono (Nat.le_succ n)⟩
theorem kI_all : K_all INV := by
  intro n S a1 hn hV
  obtain ⟨hs, hI, hP⟩ := hV
  obtain ⟨p0, p1, p2, hI2⟩ := k_all n S a1 hn hI
  exact ⟨p0, p1, p2, hs.of ((q_X12_all _ _ _).trans (q_X11_all _ _ _)), hI2, (fr_plan (by decide) (v_X12_all _ _ _) (fr_plan (by decide) (v_X11_all S 0 a1) hP)).mono (Nat.le_succ n)⟩
theorem kI_score : K_score INV := by
  intro n S hn hV
  obtain ⟨hs, hI, hP⟩ := hV
  obtain ⟨p0, p1, p2, hI2⟩ := k_score n S hn hI
  exact ⟨p0, p1, p2, hs.of ((q_X12_score _ _).trans (q_X11_score _ _)), hI2, (fr_plan (by decide) (v_X12_score _ _) (fr_plan (by decide) (v_X11_score S 0) hP)).mono (Nat.le_succ n)⟩
theorem kI_best : K_best INV := by
  intro n S a1 a2 hn hV
  obtain ⟨hs, hI, hP⟩ := hV
  obtain ⟨p0, p1, p2, hI2⟩ := k_best n S a1 a2 hn hI
  exact ⟨p0, p1, p2, hs.of ((q_X12_best _ _ _ _).trans (q_X11_best _ _ _ _)), hI2, (fr_plan (by decide) (v_X12_best _ _ _ _) (fr_plan (by decide) (v_X11_best S 0 a1 a2) hP)).mono (Nat.le_succ n)⟩
theorem kI_show : K_show INV := by
  intro n S a1 hn hV
  obtain ⟨hs, hI, hP⟩ := hV
  obtain ⟨p0, p1, p2, hI2⟩ := k_show n S a1 hn hI
  exact ⟨p0, p1, p2, hs.of ((q_X12_show _ _ _).trans (q_X11_show _ _ _)), hI2, (fr_plan (by decide) (v_X12_show _ _ _) (fr_plan (by decide) (v_X11_show S 0 a1) hP)).mono (Nat.le_succ n)⟩
theorem kI_learn : K_learn INV := by
  intro n S a1 a2 a3 hn hV
  obtain ⟨hs, hI, hP⟩ := hV
  obtain ⟨p0, p1, p2, hI2⟩ := k_learn n S a1 a2 a3 hn hI
  exact ⟨p0, p1, p2, hs.of ((q_X12_learn _ _ _ _ _).trans (q_X11_learn _ _ _ _ _)), hI2, (fr_plan (by decide) (v_X12_learn _ _ _ _ _) (fr_plan (by decide) (v_X11_learn S 0 a1 a2 a3) hP)).mono (Nat.le_succ n)⟩
theorem kI_film : K_film INV := by
  intro n S a1 a2 a3 hn hV
  obtain ⟨hs, hI, hP⟩ := hV
  obtain ⟨p0, p1, p2, hI2⟩ := k_film n S a1 a2 a3 hn hI
  exact ⟨p0, p1, p2, hs.of ((q_X12_film _ _ _ _ _).trans (q_X11_film _ _ _ _ _)), hI2, (fr_plan (by decide) (v_X12_film _ _ _ _ _) (fr_plan (by decide) (v_X11_film S 0 a1 a2 a3) hP)).mono (Nat.le_succ n)⟩
theorem kI_image : K_image INV := by
  intro n S a1 hn hV
  obtain ⟨hs, hI, hP⟩ := hV
  obtain ⟨p0, p1, p2, hI2⟩ := k_image n S a1 hn hI
  exact ⟨p0, p1, p2, hs.of ((q_X12_image _ _ _).trans (q_X11_image _ _ _)), hI2, (fr_plan (by decide) (v_X12_image _ _ _) (fr_plan (by decide) (fr11_image n S a1 hn hI) hP)).mono (Nat.le_succ n)⟩
theorem kI_kind : K_kind INV := by
  intro n S a1 hn hV
  obtain ⟨hs, hI, hP⟩ := hV
  obtain ⟨p0, p1, p2, hI2⟩ := k_kind n S a1 hn hI
  exact ⟨p0, p1, p2, hs.of (q_X12_kind _ _ _), hI2, (fr_plan (by decide) (v_X12_kind _ _ _) hP).mono (Nat.le_succ n)⟩
theorem kI_as : K_as INV := by
  intro n S a1 a2 hn hV
  obtain ⟨hs, hI, hP⟩ := hV
  obtain ⟨p0, p1, p2, hI2⟩ := k_as n S a1 a2 hn hI
  exact ⟨p0, p1, p2, hs.of ((q_X12_as _ _ _ _).trans (q_X11_as _ _ _ _)), hI2, (fr_plan (by decide) (v_X12_as _ _ _ _) (fr_plan (by decide) (v_X11_as S 0 a1 a2) hP)).mono (Nat.le_succ n)⟩
theorem kI_ask : K_ask INV := by
  intro n S a1 a2 hn hV
  obtain ⟨hs, hI, hP⟩ := hV
  obtain ⟨p0, p1, p2, hI2⟩ := k_ask n S a1 a2 hn hI
  exact ⟨p0, p1, p2, hs.of ((q_X12_ask _ _ _ _).trans (q_X11_ask _ _ _ _)), hI2, (fr_plan (by decide) (v_X12_ask _ _ _ _) (fr_plan (by decide) (v_X11_ask S 0 a1 a2) hP)).mono (Nat.le_succ n)⟩
theorem kI_trace : K_trace INV := by
  intro n S a1 hn hV
  obtain ⟨hs, hI, hP⟩ := hV
  obtain ⟨p0, p1, p2, hI2⟩ := k_trace n S a1 hn hI
  exact ⟨p0, p1, p2, hs.of (q_X12_trace _ _ _), hI2, (fr_plan (by decide) (v_X12_trace _ _ _) hP).mono (Nat.le_succ n)⟩
theorem kI_count : K_count INV := by
  intro n S a1 hn hV
  obtain ⟨hs, hI, hP⟩ := hV
  obtain ⟨p0, p1, p2, hI2⟩ := k_count n S a1 hn hI
  exact ⟨p0, p1, p2, hs.of (q_X12_count _ _ _), hI2, (fr_plan (by decide) (v_X12_count _ _ _) hP).mono (Nat.le_succ n)⟩
theorem kI_status : K_status INV := by
  intro n S hn hV
  obtain ⟨hs, hI, hP⟩ := hV
  obtain ⟨p0, hI2⟩ := k_status n S hn hI
  exact ⟨p0, hs.of (q_X12_status _ _), hI2, (fr_plan (by decide) (v_X12_status _ _) hP).mono (Nat.le_succ n)⟩
