-- needs: 9w.inv
theorem kI_row : K_row INV := by
  intro n S a b c hn hV
  obtain ⟨hs, hI, hP⟩ := hV
  obtain ⟨p1, p2, p3, hI2⟩ := kk_row n S a b c hn hs.1 hI
  exact ⟨p1, p2, p3, hs.of ((q_X12_row _ _ _ _ _).trans (q_X11_row _ _ _ _ _)), hI2, (fr_plan (by decide) (v_X12_row _ _ _ _ _) (fr_plan (by decide) (fr11_row n S a b c hn hs.1 hI) hP)).mono (Nat.le_succ n)⟩
theorem kI_moves : K_moves INV := by
  intro n S a b hn hV
  obtain ⟨hs, hI, hP⟩ := hV
  obtain ⟨p1, p2, p3, hI2, hP2⟩ := k_mv (a1 := a) (a2 := b) hn hI hP hs.1
  exact ⟨p1, p2, p3, hs.of ((q_X12_moves _ _ _ _).trans (q_X11_moves _ _ _ _)), hI2, hP2⟩
theorem up3 (S : HSt) (a b : Int32) : gI (f_X7_takeUp S 18 a b) 18 3 = gI S 18 3 + 1 := by
  have fb : ∀ U : HSt, gI (f_X1_begin U 22) 18 = gI U 18 := fun U => fr_addr (v_X1_begin U 22) 18 (by decide)
  unfold f_X7_takeUp
  simp only [bd_def]
  rw [gs_eq, if_pos rfl, show 18 + 4 = 22 from rfl, fb, gs_o (by decide), gs_o (by decide), gs_o (by decide), gs_o (by decide), gs_o (by decide), gs_o (by decide)]
theorem take_c (S : HSt) (a b : Int32) : ((f_X11_take S 0 a b).1 = -9000000000000000001 ∧ (f_X11_take S 0 a b).2 = S) ∨ gI (f_X11_take S 0 a b).2 18 3 = gI S 18 3 + 1 := by
  unfold f_X11_take
  simp only [bd_def]
  by_cases c1 : f_X10_has S 19 0 a = 0
  · rw [if_pos c1, pr_1, pr_2]; exact Or.inl ⟨rfl, rfl⟩
  · rw [if_neg c1]
    by_cases c2 : b = -1000000
    · rw [if_pos c2, pr_2]; exact Or.inr (up3 S a b)
    · rw [if_neg c2]
      by_cases c3 : f_X10_has S 19 1 b = 0
      · rw [if_pos c3, pr_1, pr_2]; exact Or.inl ⟨rfl, rfl⟩
      · rw [if_neg c3, pr_2]; exact Or.inr (up3 S a b)
theorem one_bad : ¬ (-9000000000000000001 : Int64) = 1 := by decide
theorem one_st : ¬ (-9000000000000000002 : Int64) = 1 := by decide
theorem take_m (U : HSt) (a b : Int32) : (f_X12_take U 64 a b).1 = 1 ∨ (f_X12_take U 64 a b).2 = sI U 64 0 0 := by
  unfold f_X12_take
  simp only [bd_def]
  generalize f_X12_in (sI U 64 0 0) a.toInt64 0 ((gI (sI U 64 0 0) 68 (0 : Int32).toNatClampNeg) - (1 : Int32)).toInt64 = c1
  generalize f_X12_in (sI U 64 0 0) b.toInt64 0 ((gI (sI U 64 0 0) 68 (1 : Int32).toNatClampNeg) - (1 : Int32)).toInt64 = c3
  by_cases q1 : c1 = 0
  · rw [if_pos q1, pr_2]; exact Or.inr rfl
  · rw [if_neg q1]
    by_cases c2 : b = -1000000
    · rw [if_pos c2, pr_1]; exact Or.inl rfl
    · rw [if_neg c2]
      by_cases q3 : c3 = 0
      · rw [if_pos q3, pr_2]; exact Or.inr rfl
      · rw [if_neg q3, pr_1]; exact Or.inl rfl
theorem plan0 {n : Nat} {S : HSt} (hP : IPlan n S) : IPlan n (sI S 64 0 0) := hP.of (by rw [gs_ne (by decide)]) (by rw [gs_ne (by decide)]) (by rw [gs_ne (by decide)]) (gs_ne (by decide)) (gs_ne (by decide)) (gs_ne (by decide)) (gs_ne (by decide)) (gs_ne (by decide)) (gs_o (by decide)) (gs_o (by decide))
theorem kI_take : K_take INV := by
  intro n S a b hn hV
  obtain ⟨hs, hI, hP⟩ := hV
  obtain ⟨p1, p2, p3, hI2⟩ := k_take n S a b hn hI
  refine ⟨p1, p2, p3, hs.of ((q_X12_take _ _ _ _).trans (q_X11_take _ _ _ _)), hI2, ?_⟩
  have f1 := v_X11_take S 0 a b
  have f2 := v_X12_take (f_X11_take S 0 a b).2 64 a b
  rcases take_c S a b with ⟨e1, e2⟩ | e
  · rw [e1] at p3
    rw [e2] at p3 ⊢
    rcases take_m S a b with m | m
    · exact absurd (p3.trans m) one_bad
    · rw [m]; exact (plan0 hP).mono (Nat.le_succ n)
  · refine hP.bump hn ?_ ?_ ?_
    · rw [fr_addr f2 18 (by decide)]; exact e
    · rw [fr_addr f2 43 (by decide), fr_addr f1 43 (by decide)]
    · rw [fr_addr f2 43 (by decide), fr_addr f1 43 (by decide)]
theorem cp3 (S : HSt) (k : Nat) (h : k ≠ 18) (h1 : k ≠ 19) (h2 : k ≠ 20) (h3 : k ≠ 21) : gI (f_X7_copyFrom S 18 k) 18 3 = gI S 18 3 + 1 := by
  have fb : ∀ U : HSt, gI (f_X1_copyFrom U 22 (k + 4)) 18 = gI U 18 := fun U => fr_addr (v_X1_copyFrom U 22 (k + 4)) 18 (by decide)
  have fw : gI (f_X10_copyFrom S 19 (k + 1)) 18 = gI S 18 := fr_addr (v_X10_copyFrom S 19 (k + 1)) 18 (by decide)
  unfold f_X7_copyFrom
  simp only [bd_def]
  rw [gs_eq, if_pos rfl, gs_o (by decide), gs_o (by decide), gs_o (by decide), gs_o (by decide), gs_o (by decide), gs_o (by decide), gs_o (by decide), show 18 + 4 = 22 from rfl, fb, show 18 + 1 = 19 from rfl, fw]
theorem rest_c (S : HSt) (a : Int32) : (¬ (f_X11_restore S 0 a).1 = 1 ∧ (f_X11_restore S 0 a).2 = S) ∨ gI (f_X11_restore S 0 a).2 18 3 = gI S 18 3 + 1 := by
  unfold f_X11_restore
  simp only [bd_def]
  by_cases c1 : f_X11_within S a 0 1 = 0
  · rw [if_pos c1, pr_1, pr_2]; exact Or.inl ⟨one_bad, rfl⟩
  · rw [if_neg c1]
    by_cases c2 : gI S (24 + 5 * a.toNatClampNeg) 2 = 0
    · rw [if_pos c2, pr_1, pr_2]; exact Or.inl ⟨one_st, rfl⟩
    · rw [if_neg c2, pr_2]; exact Or.inr (cp3 S _ (by omega) (by omega) (by omega) (by omega))
theorem rest_m (U : HSt) (a : Int32) : (f_X12_restore U 64 a).1 = 1 ∨ (f_X12_restore U 64 a).2 = sI U 64 0 0 := by
  unfold f_X12_restore
  simp only [bd_def]
  generalize f_X12_in (sI U 64 0 0) a.toInt64 0 1 = c1
  by_cases q1 : c1 = 0
  · rw [if_pos q1, pr_2]; exact Or.inr rfl
  · rw [if_neg q1]
    by_cases q3 : gI (sI U 64 0 0) 82 a.toNatClampNeg = 0
    · rw [if_pos q3, pr_2]; exact Or.inr rfl
    · rw [if_neg q3, pr_1]; exact Or.inl rfl
theorem kI_restore : K_restore INV := by
  intro n S a hn hV
  obtain ⟨hs, hI, hP⟩ := hV
  obtain ⟨p1, p2, p3, hI2⟩ := k_restore n S a hn hI
  refine ⟨p1, p2, p3, hs.of ((q_X12_restore _ _ _).trans (q_X11_restore _ _ _)), hI2, ?_⟩
  have f1 := v_X11_restore S 0 a
  have f2 := v_X12_restore (f_X11_restore S 0 a).2 64 a
  rcases rest_c S a with ⟨e1, e2⟩ | e
  · rw [p3] at e1
    rw [e2] at e1 ⊢
    rcases rest_m S a with m | m
    · exact absurd m e1
    · rw [m]; exact (plan0 hP).mono (Nat.le_succ n)
  · refine hP.bump hn ?_ ?_ ?_
    · rw [fr_addr f2 18 (by decide)]; exact e
    · rw [fr_addr f2 43 (by decide), fr_addr f1 43 (by decide)]
    · rw [fr_addr f2 43 (by decide), fr_addr f1 43 (by decide)]
