-- needs: 30.rows
/-! ===== rows: drop, set ===== -/
theorem isRow_iff (S : HSt) (a : Int32) : f_X5_isRow S a = 0 ↔ ¬ (0 ≤ a.toInt ∧ a.toInt < 8) := by
  show (if a < 0 then (0 : Int32) else if (8 : Int32) ≤ a then 0 else 1) = 0 ↔ _
  have e8 : (8 : Int32).toInt = 8 := rfl
  by_cases h1 : a < 0
  · rw [if_pos h1]
    rw [ti_lt, ti0] at h1
    exact ⟨fun _ q => by omega, fun _ => rfl⟩
  · rw [if_neg h1]
    rw [ti_lt, ti0] at h1
    by_cases h2 : (8 : Int32) ≤ a
    · rw [if_pos h2]
      rw [ti_le, e8] at h2
      exact ⟨fun _ q => by omega, fun _ => rfl⟩
    · rw [if_neg h2]
      rw [ti_le, e8] at h2
      exact ⟨fun q => absurd q one_ne, fun q => absurd ⟨by omega, by omega⟩ q⟩
theorem isRowM_iff (T : HSt) (a : Int32) : f_X12_isRow T a = 0 ↔ ¬ (0 ≤ a.toInt ∧ a.toInt < 8) := by
  show f_X12_in T a.toInt64 (0 : Int64) (7 : Int64) = 0 ↔ _
  rw [show (0 : Int64) = (0 : Int32).toInt64 from rfl, show (7 : Int64) = (7 : Int32).toInt64 from rfl, in_within T T, within_iff, ti0, show (7 : Int32).toInt = 7 from rfl]
  omega
theorem miss_at (S : HSt) {r : Nat} (hr : r < 8) : f_X5_isMissing S 1 (nI r) = if gI S 12 r = -1 then 1 else 0 := by
  show (if f_X5_isRow S (nI r) = 0 then (1 : Int32) else if gI S 12 (nI r).toNatClampNeg = -1 then 1 else 0) = _
  rw [if_neg (fun q => (isRow_iff S _).mp q ⟨by rw [nI_ti (by omega)]; omega, by rw [nI_ti (by omega)]; omega⟩), nI_clamp' (by omega)]
theorem p_miss (S : HSt) (a : Int32) : p_X5_isMissing S 1 a := fun h => by
  have := Classical.not_not.mp (fun q => h ((isRow_iff S a).mpr q))
  exact vp_in_iff.mpr ⟨this.1, this.2⟩
theorem row_in {S : HSt} {a : Int32} (h : ¬ f_X5_isRow S a = 0) : ∃ r, r < 8 ∧ a = nI r := by
  have := Classical.not_not.mp (fun q => h ((isRow_iff S a).mpr q))
  exact nI_of_bw (n := 8) this.1 this.2 (by omega)
/-- a row that is there, in both; or missing, in both -/
theorem row_case {S : HSt} (hI : IRow S) {r : Nat} (hr : r < 8) : (gI S 12 r = -1 ∧ gI S 65 r = -1 ∧ ¬ (0 : Int32) ≤ gI S 65 r) ∨ (¬ gI S 12 r = -1 ∧ (0 : Int32) ≤ gI S 65 r ∧ gI S 11 r = gI S 65 r ∧ gI S 12 r = gI S 66 r ∧ bw (gI S 66 r) 0 40 ∧ bw (gI S 65 r) 0 2) := by
  rcases hI.1 r hr with ⟨h1, h2⟩ | ⟨h1, h2, h3, h4, h5, h6⟩
  · exact Or.inl ⟨h1, h2, by rw [h2]; decide⟩
  · refine Or.inr ⟨fun q => ?_, by rw [ti_le, ti0]; exact h1, h3, h4, ⟨h5, h6⟩, ⟨h1, h2⟩⟩
    rw [h4] at q
    rw [q] at h5
    exact absurd h5 (by decide)
theorem k_drop : K_drop Inv0 := by
  intro n S a hn hI
  have f1 := v_X11_drop S 0 a
  have f2 := v_X12_drop (f_X11_drop S 0 a).2 64 a
  have hst := hI.2.2.1.1
  have g64 : gI (f_X11_drop S 0 a).2 64 = gI S 64 := fr_addr f1 64 (by decide)
  have g65 : gI (f_X11_drop S 0 a).2 65 = gI S 65 := fr_addr f1 65 (by decide)
  have g66 : gI (f_X11_drop S 0 a).2 66 = gI S 66 := fr_addr f1 66 (by decide)
  have g67 : gI (f_X11_drop S 0 a).2 67 = gI S 67 := fr_addr f1 67 (by decide)
  have g11 : gI (f_X11_drop S 0 a).2 11 = gI S 11 := fr_addr f1 11 (by decide)
  have gi : ∀ r, r < 8 → gI (f_X11_drop S 0 a).2 (3 + r) = gI S (3 + r) := fun r hr => fr_addr f1 (3 + r) (fun q hq z => by
    have : q.1 = 0 ∨ q.1 = 12 := (show ∀ q ∈ ([(0, 10), (12, 1000)] : List (Nat × Nat)), q.1 = 0 ∨ q.1 = 12 by decide) q hq
    omega)
  have hpr : ∀ (x : Int32), ¬ f_X5_isRow S x = 0 → vp_in x 8 := fun x h => p_miss S x h
  refine ⟨⟨fun _ => p_miss S a, fun h _ => ⟨p_miss S a, fun _ => hpr a h, fun _ _ _ => hpr a h⟩⟩, ?_, ?_⟩
  · have hv : ∀ T : HSt, ¬ f_X12_isRow T a = 0 → vp_in a 8 := fun T h => by
      have := Classical.not_not.mp (fun q => h ((isRowM_iff T a).mpr q))
      exact vp_in_iff.mpr ⟨this.1, this.2⟩
    exact ⟨fun S1 _ h _ _ => hv S1 h, fun S1 _ h _ _ _ => hv S1 h, fun S1 _ h _ _ _ _ _ => hv S1 h⟩
  · have key : (f_X11_drop S 0 a).1 = (f_X12_drop (f_X11_drop S 0 a).2 64 a).1 ∧ gI (f_X12_drop (f_X11_drop S 0 a).2 64 a).2 0 10 = gI (f_X12_drop (f_X11_drop S 0 a).2 64 a).2 64 1 ∧ IRow (f_X12_drop (f_X11_drop S 0 a).2 64 a).2 := by
      have h12 : gI (f_X12_drop (f_X11_drop S 0 a).2 64 a).2 12 = gI (f_X11_drop S 0 a).2 12 := fr_addr f2 12 (by decide)
      generalize hU : (f_X11_drop S 0 a).2 = U at *
      have hU12 : gI U 12 = gI (f_X11_drop S 0 a).2 12 := by rw [hU]
      have hU0 : gI U 0 10 = gI (f_X11_drop S 0 a).2 0 10 := by rw [hU]
      have same : ∀ T : HSt, gI T 12 = gI S 12 → gI T 11 = gI U 11 → (∀ r, r < 8 → gI T (3 + r) = gI U (3 + r)) → gI T 65 = gI U 65 → gI T 66 = gI U 66 → gI T 67 = gI U 67 → IRow T := fun T t12 t11 ti t65 t66 t67 => by
        unfold IRow
        rw [t12, t11, t65, t66, t67, g11, g65, g66, g67]
        exact ⟨hI.1.1, fun r k hr hk => by rw [ti r hr, gi r hr]; exact hI.1.2 r k hr hk⟩
      unfold f_X12_drop
      unfold f_X11_drop at hU12 hU0 ⊢
      simp only [bd_def] at hU12 hU0 ⊢
      by_cases c : 0 ≤ a.toInt ∧ a.toInt < 8
      · have d1 : ¬ f_X5_isRow S a = 0 := fun q => (isRow_iff S a).mp q c
        have d2 : ¬ f_X12_isRow (sI U 64 0 0) a = 0 := fun q => (isRowM_iff _ a).mp q c
        rw [if_neg d1] at hU12 hU0 ⊢
        rw [if_neg d2]
        obtain ⟨r, hr, rfl⟩ := row_in d1
        rw [miss_at S hr] at hU12 hU0 ⊢
        rw [nI_clamp' (by omega), show gI (sI (sI U 64 0 0) 64 1 0) 65 r = gI S 65 r from congrFun g65 r]
        rcases row_case hI.1 hr with ⟨m1, m2, m3⟩ | ⟨m1, m2, m3, m4, m5, m6⟩
        · rw [if_pos m1, if_neg one_ne, pr_2, found_2] at hU12 hU0
          rw [if_pos m1, if_neg one_ne, if_neg m3, pr_1, pr_1, pr_2, finding_2]
          refine ⟨found_eq _ _ _, hU0, same _ hU12 rfl (fun r hr => ?_) rfl rfl rfl⟩
          funext j
          rw [gI_sI, if_neg (by omega), gI_sI, if_neg (by omega), gI_sI, if_neg (by omega)]
        · rw [if_neg m1, if_pos rfl, pr_2, fine_2] at hU12 hU0
          rw [if_neg m1, if_pos rfl, if_pos m2, pr_1, pr_1, pr_2, fine_1]
          have er : f_X5_remove S 1 (nI r) = (gI S 12 r, sI S 12 r (-1)) := by
            unfold f_X5_remove
            rw [miss_at S hr, if_neg m1, if_pos rfl, bd_def, bd_def, nI_clamp' (by omega)]
            rfl
          rw [er] at hU12 hU0 ⊢
          refine ⟨?_, hU0, ?_⟩
          · show (gI S 12 r).toInt64 = (gI U 66 r).toInt64
            rw [g66, m4]
          · refine ⟨fun r' hr' => ?_, fun r' k hr' hk => ?_⟩
            · by_cases e : r' = r
              · subst e
                left
                refine ⟨?_, ?_⟩
                · show gI U 12 r' = -1
                  rw [hU12]
                  simp only [gI_sI, if_true, if_false, reduceIte, Nat.reduceEqDiff]
                · simp only [gI_sI, if_true, if_false, reduceIte, Nat.reduceEqDiff]
              · have e12 : gI U 12 r' = gI S 12 r' := by
                  rw [hU12]
                  simp only [gI_sI, if_true, if_false, reduceIte, Nat.reduceEqDiff, if_neg e]
                show (gI U 12 r' = -1 ∧ gI (sI (sI (sI U 64 0 0) 64 1 0) 65 r (-1)) 65 r' = -1) ∨ (0 ≤ (gI (sI (sI (sI U 64 0 0) 64 1 0) 65 r (-1)) 65 r').toInt ∧ (gI (sI (sI (sI U 64 0 0) 64 1 0) 65 r (-1)) 65 r').toInt ≤ 2 ∧ gI U 11 r' = gI (sI (sI (sI U 64 0 0) 64 1 0) 65 r (-1)) 65 r' ∧ gI U 12 r' = gI U 66 r' ∧ 0 ≤ (gI U 66 r').toInt ∧ (gI U 66 r').toInt ≤ 40)
                have e65 : gI (sI (sI (sI U 64 0 0) 64 1 0) 65 r (-1)) 65 r' = gI S 65 r' := by
                  rw [gI_sI, if_pos rfl, if_neg e]
                  exact congrFun g65 r'
                rw [e12, e65, g11, g66]
                exact hI.1.1 r' hr'
            · have e1 : gI (sI (sI (sI U 64 0 0) 64 1 0) 65 r (-1)) (3 + r') k = gI U (3 + r') k := by
                rw [gI_sI, if_neg (by omega), gI_sI, if_neg (by omega), gI_sI, if_neg (by omega)]
              have e2 : gI (sI (sI (sI U 64 0 0) 64 1 0) 65 r (-1)) 67 (40 * r' + k) = gI U 67 (40 * r' + k) := by
                rw [gI_sI, if_neg (by omega), gI_sI, if_neg (by omega), gI_sI, if_neg (by omega)]
              show gI (sI (sI (sI U 64 0 0) 64 1 0) 65 r (-1)) (3 + r') k = gI (sI (sI (sI U 64 0 0) 64 1 0) 65 r (-1)) 67 (40 * r' + k)
              rw [e1, e2, gi r' hr', g67]
              exact hI.1.2 r' k hr' hk
      · rw [if_pos ((isRow_iff S a).mpr c)] at hU12 hU0 ⊢
        rw [if_pos ((isRowM_iff _ a).mpr c)]
        refine ⟨rfl, hU0.trans (hst.trans (by rw [← g64]; rfl)), same _ hU12 rfl (fun r hr => ?_) rfl rfl rfl⟩
        funext j
        rw [pr_2, gI_sI, if_neg (by omega)]
    exact ⟨key.1, (inv_rows f1 f2 (by decide) (by decide) key.2.1 key.2.2 hI).mono (Nat.le_succ n)⟩
