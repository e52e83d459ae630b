-- needs: 31.drop
def WR : List (Nat × Nat) := [(0, 10), (3, 1000), (4, 1000), (5, 1000), (6, 1000), (7, 1000), (8, 1000), (9, 1000), (10, 1000), (11, 1000), (12, 1000)]
theorem WR_in : ∀ r, r < 8 → (3 + r, 1000) ∈ WR := by decide
theorem places_iff (S : HSt) {r : Nat} (hr : r < 8) {i : Int32} (h1 : ¬ gI S 12 r = -1) (h2 : bw (gI S 12 r) 0 40) : f_X5_hasPlaces S 1 (nI r) i 1 = 0 ↔ ¬ (0 ≤ i.toInt ∧ i.toInt < (gI S 12 r).toInt) := by
  show (if f_X5_isMissing S 1 (nI r) = 0 then (if i < 0 then (0 : Int32) else if (1 : Int32) < 0 then 0 else if gI S 12 (nI r).toNatClampNeg < 1 then 0 else if gI S 12 (nI r).toNatClampNeg - 1 < i then 0 else 1) else 0) = 0 ↔ _
  rw [miss_at S hr, if_neg h1, if_pos rfl, nI_clamp' (by omega), if_neg (show ¬ (1 : Int32) < 0 by decide)]
  obtain ⟨g1, g2⟩ := h2
  have hs : (gI S 12 r - 1).toInt = (gI S 12 r).toInt - 1 := ti_sub (by rw [ti1]; omega) (by rw [ti1]; omega)
  by_cases c1 : i < 0
  · rw [if_pos c1]
    rw [ti_lt, ti0] at c1
    exact ⟨fun _ q => by omega, fun _ => rfl⟩
  · rw [if_neg c1]
    rw [ti_lt, ti0] at c1
    by_cases c2 : gI S 12 r < 1
    · rw [if_pos c2]
      rw [ti_lt, ti1] at c2
      exact ⟨fun _ q => by omega, fun _ => rfl⟩
    · rw [if_neg c2]
      rw [ti_lt, ti1] at c2
      by_cases c3 : gI S 12 r - 1 < i
      · rw [if_pos c3]
        rw [ti_lt, hs] at c3
        exact ⟨fun _ q => by omega, fun _ => rfl⟩
      · rw [if_neg c3]
        rw [ti_lt, hs] at c3
        exact ⟨fun q => absurd q one_ne, fun q => absurd ⟨by omega, by omega⟩ q⟩
theorem p_places (S : HSt) (a i k : Int32) : p_X5_hasPlaces S 1 a i k := by
  have h : f_X5_isMissing S 1 a = 0 → vp_in a 8 := fun q => by
    by_cases c : f_X5_isRow S a = 0
    · have e : f_X5_isMissing S 1 a = (if f_X5_isRow S a = 0 then (1 : Int32) else if gI S 12 a.toNatClampNeg = -1 then 1 else 0) := rfl
      rw [e, if_pos c] at q
      exact absurd q one_ne
    · exact p_miss S a c
  exact ⟨p_miss S a, fun q _ _ => h q, fun q _ _ _ => h q⟩
theorem places_row {S : HSt} {a i k : Int32} (h : ¬ f_X5_hasPlaces S 1 a i k = 0) : f_X5_isMissing S 1 a = 0 := by
  refine Classical.byContradiction fun q => h ?_
  show (if f_X5_isMissing S 1 a = 0 then _ else (0 : Int32)) = 0
  rw [if_neg q]
theorem k_set : K_set Inv0 := by
  intro n S a i v hn hI
  have hst := hI.2.2.1.1
  have hpr : ∀ (x : Int32), ¬ f_X5_isRow S x = 0 → vp_in x 8 := fun x h => p_miss S x h
  have hv : ∀ T : HSt, ¬ f_X12_isRow T a = 0 → vp_in a 8 := fun T h => by
    have := Classical.not_not.mp (fun q => h ((isRowM_iff T a).mpr q))
    exact vp_in_iff.mpr ⟨this.1, this.2⟩
  -- what the class's heap is
  have hcls : (¬ (0 ≤ a.toInt ∧ a.toInt < 8) ∧ f_X11_set S 0 a i v = (-9000000000000000001, S)) ∨ (∃ r, r < 8 ∧ a = nI r ∧ ((gI S 12 r = -1 ∧ (f_X11_set S 0 a i v) = ((f_X11_found S 0 1).1, sI S 0 10 1)) ∨ (¬ gI S 12 r = -1 ∧ ¬ (0 ≤ i.toInt ∧ i.toInt < (gI S 12 r).toInt) ∧ (f_X11_set S 0 a i v) = ((f_X11_found S 0 2).1, sI S 0 10 2)) ∨ (¬ gI S 12 r = -1 ∧ (0 ≤ i.toInt ∧ i.toInt < (gI S 12 r).toInt) ∧ f_X11_set S 0 a i v = ((if gI S 11 r = 0 then v.toInt8.toInt32 else if gI S 11 r = 1 then v.toInt16.toInt32 else v).toInt64, sI (sI S (3 + r) i.toNatClampNeg (if gI S 11 r = 0 then v.toInt8.toInt32 else if gI S 11 r = 1 then v.toInt16.toInt32 else v)) 0 10 0)))) := by
    unfold f_X11_set
    simp only [bd_def]
    by_cases c : 0 ≤ a.toInt ∧ a.toInt < 8
    · right
      have d1 : ¬ f_X5_isRow S a = 0 := fun q => (isRow_iff S a).mp q c
      rw [if_neg d1]
      obtain ⟨r, hr, rfl⟩ := row_in d1
      refine ⟨r, hr, rfl, ?_⟩
      rw [miss_at S hr]
      rcases row_case hI.1 hr with ⟨m1, m2, m3⟩ | ⟨m1, m2, m3, m4, m5, m6⟩
      · left
        rw [if_pos m1, if_neg one_ne, found_2]
        exact ⟨m1, rfl⟩
      · right
        rw [if_neg m1, if_pos rfl]
        have hpl := places_iff S hr (i := i) m1 (by rw [m4]; exact m5)
        by_cases c2 : 0 ≤ i.toInt ∧ i.toInt < (gI S 12 r).toInt
        · right
          refine ⟨m1, c2, ?_⟩
          have hnp : ¬ f_X5_hasPlaces S 1 (nI r) i 1 = 0 := fun q => hpl.mp q c2
          rw [if_neg hnp, fine_1, fine_2]
          unfold f_X5_put
          rw [if_neg hnp, bd_def, bd_def, nI_clamp' (by omega)]
          rfl
        · left
          rw [if_pos (hpl.mpr c2), found_2]
          exact ⟨m1, c2, rfl⟩
    · left
      rw [if_pos ((isRow_iff S a).mpr c)]
      exact ⟨c, rfl⟩
  have f1 : Fr WR S (f_X11_set S 0 a i v).2 := by
    rcases hcls with ⟨-, e⟩ | ⟨r, hr, -, ⟨-, e⟩ | ⟨-, -, e⟩ | ⟨-, -, e⟩⟩
    · rw [e]; exact Fr.refl _ _
    · rw [e]; exact Fr.s1 (by decide) (Fr.refl _ _)
    · rw [e]; exact Fr.s1 (by decide) (Fr.refl _ _)
    · rw [e]; exact Fr.s1 (by decide) (Fr.s1 (Or.inr (WR_in r hr)) (Fr.refl _ _))
  have f2 := v_X12_set (f_X11_set S 0 a i v).2 64 a i v
  have g64 : gI (f_X11_set S 0 a i v).2 64 = gI S 64 := fr_addr f1 64 (by decide)
  have g65 : gI (f_X11_set S 0 a i v).2 65 = gI S 65 := fr_addr f1 65 (by decide)
  have g66 : gI (f_X11_set S 0 a i v).2 66 = gI S 66 := fr_addr f1 66 (by decide)
  have g67 : gI (f_X11_set S 0 a i v).2 67 = gI S 67 := fr_addr f1 67 (by decide)
  refine ⟨⟨fun _ => p_miss S a, fun _ _ => p_places S a i 1, fun h _ _ => ⟨p_places S a i 1, fun _ => hpr a h, fun _ _ => hpr a h, fun _ _ _ => hpr a h, fun q x _ => ?_⟩⟩, ?_, ?_⟩
  · -- the place
    obtain ⟨r, hr, rfl⟩ := row_in h
    have hm := places_row q
    rw [miss_at S hr] at hm
    rcases row_case hI.1 hr with ⟨m1, m2, m3⟩ | ⟨m1, m2, m3, m4, m5, m6⟩
    · rw [if_pos m1] at hm; exact absurd hm one_ne
    · have hpl := places_iff S hr (i := i) m1 (by rw [m4]; exact m5)
      have c2 := Classical.not_not.mp (fun z => q (hpl.mpr z))
      exact vp_in_iff.mpr ⟨c2.1, by have := m5.2; rw [m4] at c2; have := c2.2; omega⟩
  · -- the model's places
    have hix : ∀ T : HSt, gI T 65 = gI S 65 → gI T 66 = gI S 66 → ¬ f_X12_isRow T a = 0 → (0 : Int32) ≤ gI T 65 a.toNatClampNeg → ¬ f_X12_in T i.toInt64 (0 : Int64) (gI T 66 a.toNatClampNeg - (1 : Int32)).toInt64 = 0 → vp_in ((40 : Int32) * a + i) 320 := fun T t65 t66 h h65 hin => by
      have c := Classical.not_not.mp (fun q => h ((isRowM_iff T a).mpr q))
      obtain ⟨r, hr, rfl⟩ := nI_of_bw (n := 8) c.1 c.2 (by omega)
      rw [nI_clamp' (by omega), t65] at h65
      rw [nI_clamp' (by omega), t66] at hin
      rcases row_case hI.1 hr with ⟨m1, m2, m3⟩ | ⟨m1, m2, m3, m4, m5, m6⟩
      · exact absurd h65 m3
      · obtain ⟨g1, g2⟩ := m5
        have hs : (gI S 66 r - (1 : Int32)).toInt = (gI S 66 r).toInt - 1 := ti_sub (by rw [ti1]; omega) (by rw [ti1]; omega)
        rw [show (0 : Int64) = (0 : Int32).toInt64 from rfl, in_within T T] at hin
        have w := within_1 T hin
        rw [hs, ti0] at w
        obtain ⟨k, hk, rfl⟩ := nI_of_bw (n := 40) w.1 (by omega) (by omega)
        rw [show (40 : Int32) = nI 40 from rfl, pk_mul, nI_add]
        exact vp_in_nI (by omega) (by omega)
    have u65 : ∀ S1 : HSt, sI (f_X11_set S 0 a i v).2 64 0 0 = S1 → ∀ S3 : HSt, sI S1 64 1 0 = S3 → gI S3 65 = gI S 65 ∧ gI S3 66 = gI S 66 := fun S1 e1 S3 e3 => by
      rw [← e3, ← e1]
      exact ⟨g65, g66⟩
    refine ⟨fun S1 _ h _ _ => hv S1 h, fun S1 _ h _ _ _ => hv S1 h, fun S1 _ h _ _ _ _ => hv S1 h, fun S1 _ h _ _ _ _ _ => hv S1 h, fun S1 e1 h S3 e3 q1 q2 x _ => hix S3 (u65 S1 e1 S3 e3).1 (u65 S1 e1 S3 e3).2 (fun z => h ((isRowM_iff S1 a).mpr ((isRowM_iff S3 a).mp z))) q1 q2, fun S1 e1 h S3 e3 q1 q2 x _ S9 _ => hix S3 (u65 S1 e1 S3 e3).1 (u65 S1 e1 S3 e3).2 (fun z => h ((isRowM_iff S1 a).mpr ((isRowM_iff S3 a).mp z))) q1 q2⟩
  · have key : (f_X11_set S 0 a i v).1 = (f_X12_set (f_X11_set S 0 a i v).2 64 a i v).1 ∧ gI (f_X12_set (f_X11_set S 0 a i v).2 64 a i v).2 0 10 = gI (f_X12_set (f_X11_set S 0 a i v).2 64 a i v).2 64 1 ∧ IRow (f_X12_set (f_X11_set S 0 a i v).2 64 a i v).2 := by
      -- where nothing of the rows changes
      have same : ∀ T : HSt, (∀ x, (3 ≤ x ∧ x ≤ 12) ∨ (65 ≤ x ∧ x ≤ 67) → gI T x = gI S x) → IRow T := fun T h => hI.1.of h
      rcases hcls with ⟨c, e⟩ | ⟨r, hr, rfl, hc⟩
      · rw [e]
        unfold f_X12_set
        rw [bd_def, if_pos ((isRowM_iff _ a).mpr c)]
        refine ⟨rfl, hst, same _ (fun x hx => ?_)⟩
        funext j
        rw [pr_2, gI_sI, if_neg (by omega)]
      · have c : 0 ≤ (nI r).toInt ∧ (nI r).toInt < 8 := by rw [nI_ti (by omega)]; omega
        have d2 : ∀ T, ¬ f_X12_isRow T (nI r) = 0 := fun T q => (isRowM_iff T _).mp q c
        generalize hU : (f_X11_set S 0 (nI r) i v).2 = U at *
        have hU1 : (f_X11_set S 0 (nI r) i v).1 = (f_X11_set S 0 (nI r) i v).1 := rfl
        unfold f_X12_set
        simp only [bd_def]
        rw [if_neg (d2 _), nI_clamp' (by omega), show gI (sI (sI U 64 0 0) 64 1 0) 65 r = gI S 65 r from congrFun g65 r, show gI (sI (sI U 64 0 0) 64 1 0) 66 r = gI S 66 r from congrFun g66 r]
        rcases row_case hI.1 hr with ⟨m1, m2, m3⟩ | ⟨m1, m2, m3, m4, m5, m6⟩
        · rcases hc with ⟨-, e⟩ | ⟨h, -⟩ | ⟨h, -⟩
          · rw [e] at hU ⊢
            rw [if_neg m3, pr_1, pr_2, finding_2, ← hU]
            refine ⟨found_eq _ _ _, rfl, same _ (fun x hx => ?_)⟩
            funext j
            simp only [gI_sI, if_neg (show ¬ x = 64 by omega), if_neg (show ¬ x = 0 by omega)]
          · exact absurd m1 h
          · exact absurd m1 h
        · rw [if_pos m2]
          have hin : f_X12_in (sI (sI U 64 0 0) 64 1 0) i.toInt64 (0 : Int64) (gI S 66 r - (1 : Int32)).toInt64 = 0 ↔ ¬ (0 ≤ i.toInt ∧ i.toInt < (gI S 12 r).toInt) := by
            obtain ⟨g1, g2⟩ := m5
            have hs : (gI S 66 r - (1 : Int32)).toInt = (gI S 66 r).toInt - 1 := ti_sub (by rw [ti1]; omega) (by rw [ti1]; omega)
            rw [show (0 : Int64) = (0 : Int32).toInt64 from rfl, in_within _ S, within_iff, hs, ti0, m4]
            omega
          rcases hc with ⟨h, -⟩ | ⟨-, c2, e⟩ | ⟨-, c2, e⟩
          · exact absurd h m1
          · rw [if_pos (hin.mpr c2)]
            rw [e] at hU ⊢
            rw [pr_1, pr_2, finding_2, ← hU]
            refine ⟨found_eq _ _ _, rfl, same _ (fun x hx => ?_)⟩
            funext j
            simp only [gI_sI, if_neg (show ¬ x = 64 by omega), if_neg (show ¬ x = 0 by omega)]
          · rw [if_neg (fun q => hin.mp q c2)]
            rw [e] at hU ⊢
            rw [pr_1, pr_2]
            obtain ⟨k, hk, rfl⟩ := nI_of_bw (n := 40) c2.1 (by have := c2.2; have := m5.2; rw [m4] at c2; have := c2.2; omega) (by omega)
            rw [show (40 : Int32) = nI 40 from rfl, pk_mul, nI_add, nI_clamp' (i := 40 * r + k) (by omega)]
            rw [nI_clamp' (i := k) (by omega)] at hU
            rw [← m3]
            generalize (if gI S 11 r = 0 then v.toInt8.toInt32 else if gI S 11 r = 1 then v.toInt16.toInt32 else v) = x at hU ⊢
            have hU2 : sI (sI S (3 + r) k x) 0 10 0 = U := hU
            rw [← hU2]
            refine ⟨?_, rfl, ?_⟩
            · show x.toInt64 = _
              rw [gI_sI, if_pos rfl, if_pos rfl]
            · refine ⟨fun r' hr' => ?_, fun r' k' hr' hk' => ?_⟩
              · have g : ∀ y, y = 11 ∨ y = 12 ∨ y = 65 ∨ y = 66 → gI (sI (sI (sI (sI (sI S (3 + r) k x) 0 10 0) 64 0 0) 64 1 0) 67 (40 * r + k) x) y r' = gI S y r' := fun y hy => by
                  simp only [gI_sI, if_neg (show ¬ y = 64 by omega), if_neg (show ¬ y = 0 by omega), if_neg (show ¬ y = 67 by omega), if_neg (show ¬ y = 3 + r by omega)]
                rw [g 11 (by omega), g 12 (by omega), g 65 (by omega), g 66 (by omega)]
                exact hI.1.1 r' hr'
              · have h0 := hI.1.2 r' k' hr' hk'
                simp only [gI_sI, if_neg (show ¬ 3 + r' = 64 by omega), if_neg (show ¬ 3 + r' = 0 by omega), if_neg (show ¬ 3 + r' = 67 by omega), if_true, reduceIte, Nat.reduceEqDiff]
                by_cases e1 : r' = r ∧ k' = k
                · rw [if_pos (by omega), if_pos e1.2, if_pos (by rw [e1.1, e1.2])]
                · have e2 : ¬ 40 * r' + k' = 40 * r + k := by omega
                  rw [if_neg e2, if_neg (show ¬ 67 = 3 + r by omega)]
                  by_cases e3 : 3 + r' = 3 + r
                  · rw [if_pos e3, if_neg (by omega)]
                    rw [← e3]
                    exact h0
                  · rw [if_neg e3]
                    exact h0
    exact ⟨key.1, (inv_rows f1 f2 (by decide) (by decide) key.2.1 key.2.2 hI).mono (Nat.le_succ n)⟩
