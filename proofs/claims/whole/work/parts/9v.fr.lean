-- needs: 9u.kmoves 93.fewR 32.set 33.row 51.copy 35.image 36.restore 29.take 77.kway
/-! ===== frames of the class that have none of their own ===== -/
theorem fr11_row : ∀ (n : Nat) (S : HSt) (a b c : Int32), n < 512 → CS S → Inv0 n S → Fr WR S (f_X11_row S 0 a b c).2 := by
  intro n S a b c hn hS hI
  have hst := hI.2.2.1.1
  have e40 : (40 : Int32).toInt = 40 := rfl
  have hp : ∀ T : HSt, f_X12_in T b.toInt64 (0 : Int64) (2 : Int64) = f_X11_within S b 0 2 := fun T => by
    rw [show (0 : Int64) = (0 : Int32).toInt64 from rfl, show (2 : Int64) = (2 : Int32).toInt64 from rfl, in_within T S]
  have hgl : ∀ (T : HSt) r, r < 8 → gL T = gL S → gL T (3 + r) = 40 := fun T r hr h => by
    rw [h]
    exact cs_l (3 + r) 14 40 ((show ∀ r, r < 8 → (3 + r, 14, 40) ∈ cKT by decide) r hr) hS
  have hv : ∀ T : HSt, ¬ f_X12_isRow T a = 0 → ∃ r, r < 8 ∧ a = nI r := fun T h => by
    have := Classical.not_not.mp (fun q => h ((isRowM_iff T a).mpr q))
    exact nI_of_bw (n := 8) this.1 this.2 (by omega)
  -- what the class does
  have hcls : (f_X11_row S 0 a b c = (-9000000000000000001, S) ∧ (f_X5_isRow S a = 0 ∨ f_X11_within S b 0 2 = 0 ∨ ¬ c ≤ 40)) ∨ (∃ r, r < 8 ∧ a = nI r ∧ ¬ f_X11_within S b 0 2 = 0 ∧ c ≤ 40 ∧ ((¬ 0 ≤ c ∧ f_X11_row S 0 a b c = ((f_X11_found S 0 4).1, sI S 0 10 4)) ∨ (0 ≤ c ∧ f_X11_row S 0 a b c = (c.toInt64, sI (f_J7_fill_53178 (sI (sI S 11 r b) 12 r c) (3 + r) 0) 0 10 0)))) := by
    unfold f_X11_row
    simp only [bd_def]
    by_cases c1 : f_X5_isRow S a = 0
    · left
      rw [if_pos c1]
      exact ⟨rfl, Or.inl c1⟩
    · rw [if_neg c1]
      by_cases c2 : f_X11_within S b 0 2 = 0
      · left
        rw [if_pos c2]
        exact ⟨rfl, Or.inr (Or.inl c2)⟩
      · rw [if_neg c2]
        by_cases c3 : c ≤ 40
        · right
          rw [if_pos c3]
          obtain ⟨r, hr, rfl⟩ := row_in c1
          refine ⟨r, hr, rfl, c2, c3, ?_⟩
          by_cases c4 : 0 ≤ c
          · right
            rw [if_pos c4, fine_1, fine_2]
            refine ⟨c4, ?_⟩
            unfold f_X5_make
            rw [bd_def, if_neg c1, if_neg (by rw [ti_lt]; rw [ti_le] at c4; omega), if_neg (by rw [ti_lt]; rw [ti_le] at c3; omega)]
            simp only [bd_def]
            rw [nI_clamp' (by omega)]
            rfl
          · left
            rw [if_neg c4, found_2]
            exact ⟨c4, rfl⟩
        · left
          rw [if_neg c3]
          exact ⟨rfl, Or.inr (Or.inr c3)⟩
  have hfa : ∀ r, r < 8 → (∀ j, j < 40 → gI (f_J7_fill_53178 (sI (sI S 11 r b) 12 r c) (3 + r) 0) (3 + r) j = 0) ∧ (∀ x, x ≠ 3 + r → gI (f_J7_fill_53178 (sI (sI S 11 r b) 12 r c) (3 + r) 0) x = gI (sI (sI S 11 r b) 12 r c) x) := fun r hr => fill_at 0 (hgl (sI (sI S 11 r b) 12 r c) r hr rfl) (by omega)
  have f1 : Fr WR S (f_X11_row S 0 a b c).2 := by
    rcases hcls with ⟨e, -⟩ | ⟨r, hr, -, -, -, ⟨-, e⟩ | ⟨-, e⟩⟩
    · rw [e]; exact Fr.refl _ _
    · rw [e]; exact Fr.s1 (by decide) (Fr.refl _ _)
    · rw [e]
      refine Fr.s1 (by decide) (fun x j h1 h2 => ?_)
      by_cases q : x = 3 + r
      · exact absurd (q ▸ WR_in r hr) h2
      · rw [(hfa r hr).2 x q]
        exact (Fr.s1 (W := WR) (Or.inr (by decide)) (Fr.s1 (Or.inr (by decide)) (Fr.refl _ _))) x j h1 h2
  exact f1
theorem fr11_set : ∀ (n : Nat) (S : HSt) (a i v : Int32), n < 512 → Inv0 n S → Fr WR S (f_X11_set S 0 a i v).2 := by
  intro n S a i v hn hI
  have hst := hI.2.2.1.1
  have hpr : ∀ (x : Int32), ¬ f_X5_isRow S x = 0 → vp_in x 8 := fun x h => p_miss S x h
  have hv : ∀ T : HSt, ¬ f_X12_isRow T a = 0 → vp_in a 8 := fun T h => by
    have := Classical.not_not.mp (fun q => h ((isRowM_iff T a).mpr q))
    exact vp_in_iff.mpr ⟨this.1, this.2⟩
  -- what the class's heap is
  have hcls : (¬ (0 ≤ a.toInt ∧ a.toInt < 8) ∧ f_X11_set S 0 a i v = (-9000000000000000001, S)) ∨ (∃ r, r < 8 ∧ a = nI r ∧ ((gI S 12 r = -1 ∧ (f_X11_set S 0 a i v) = ((f_X11_found S 0 1).1, sI S 0 10 1)) ∨ (¬ gI S 12 r = -1 ∧ ¬ (0 ≤ i.toInt ∧ i.toInt < (gI S 12 r).toInt) ∧ (f_X11_set S 0 a i v) = ((f_X11_found S 0 2).1, sI S 0 10 2)) ∨ (¬ gI S 12 r = -1 ∧ (0 ≤ i.toInt ∧ i.toInt < (gI S 12 r).toInt) ∧ f_X11_set S 0 a i v = ((if gI S 11 r = 0 then v.toInt8.toInt32 else if gI S 11 r = 1 then v.toInt16.toInt32 else v).toInt64, sI (sI S (3 + r) i.toNatClampNeg (if gI S 11 r = 0 then v.toInt8.toInt32 else if gI S 11 r = 1 then v.toInt16.toInt32 else v)) 0 10 0)))) := by
    unfold f_X11_set
    simp only [bd_def]
    by_cases c : 0 ≤ a.toInt ∧ a.toInt < 8
    · right
      have d1 : ¬ f_X5_isRow S a = 0 := fun q => (isRow_iff S a).mp q c
      rw [if_neg d1]
      obtain ⟨r, hr, rfl⟩ := row_in d1
      refine ⟨r, hr, rfl, ?_⟩
      rw [miss_at S hr]
      rcases row_case hI.1 hr with ⟨m1, m2, m3⟩ | ⟨m1, m2, m3, m4, m5, m6⟩
      · left
        rw [if_pos m1, if_neg one_ne, found_2]
        exact ⟨m1, rfl⟩
      · right
        rw [if_neg m1, if_pos rfl]
        have hpl := places_iff S hr (i := i) m1 (by rw [m4]; exact m5)
        by_cases c2 : 0 ≤ i.toInt ∧ i.toInt < (gI S 12 r).toInt
        · right
          refine ⟨m1, c2, ?_⟩
          have hnp : ¬ f_X5_hasPlaces S 1 (nI r) i 1 = 0 := fun q => hpl.mp q c2
          rw [if_neg hnp, fine_1, fine_2]
          unfold f_X5_put
          rw [if_neg hnp, bd_def, bd_def, nI_clamp' (by omega)]
          rfl
        · left
          rw [if_pos (hpl.mpr c2), found_2]
          exact ⟨m1, c2, rfl⟩
    · left
      rw [if_pos ((isRow_iff S a).mpr c)]
      exact ⟨c, rfl⟩
  have f1 : Fr WR S (f_X11_set S 0 a i v).2 := by
    rcases hcls with ⟨-, e⟩ | ⟨r, hr, -, ⟨-, e⟩ | ⟨-, -, e⟩ | ⟨-, -, e⟩⟩
    · rw [e]; exact Fr.refl _ _
    · rw [e]; exact Fr.s1 (by decide) (Fr.refl _ _)
    · rw [e]; exact Fr.s1 (by decide) (Fr.refl _ _)
    · rw [e]; exact Fr.s1 (by decide) (Fr.s1 (Or.inr (WR_in r hr)) (Fr.refl _ _))
  exact f1
theorem fr11_copy : ∀ (n : Nat) (S : HSt) (a i b j k : Int32), n < 512 → Inv0 n S → Fr WR S (f_X11_copy S 0 a i b j k).2 := by
  intro n S a i b j k hn hI
  have hst := hI.2.2.1.1
  have hv : ∀ (T : HSt) (x : Int32), ¬ f_X12_isRow T x = 0 → vp_in x 8 := fun T x h => by
    have := Classical.not_not.mp (fun q => h ((isRowM_iff T x).mpr q))
    exact vp_in_iff.mpr ⟨this.1, this.2⟩
  have hcls : (¬ ((0 ≤ a.toInt ∧ a.toInt < 8) ∧ (0 ≤ b.toInt ∧ b.toInt < 8)) ∧ f_X11_copy S 0 a i b j k = (-9000000000000000001, S)) ∨ (∃ r s, r < 8 ∧ s < 8 ∧ a = nI r ∧ b = nI s ∧ (((gI S 12 r = -1 ∨ gI S 12 s = -1) ∧ f_X11_copy S 0 a i b j k = ((f_X11_found S 0 1).1, sI S 0 10 1)) ∨ (¬ gI S 12 r = -1 ∧ ¬ gI S 12 s = -1 ∧ ¬ gI S 11 r = gI S 11 s ∧ f_X11_copy S 0 a i b j k = ((f_X11_found S 0 5).1, sI S 0 10 5)) ∨ (¬ gI S 12 r = -1 ∧ ¬ gI S 12 s = -1 ∧ gI S 11 r = gI S 11 s ∧ ¬ ((0 ≤ i.toInt ∧ 0 ≤ k.toInt ∧ i.toInt + k.toInt ≤ (gI S 12 r).toInt) ∧ (0 ≤ j.toInt ∧ 0 ≤ k.toInt ∧ j.toInt + k.toInt ≤ (gI S 12 s).toInt)) ∧ f_X11_copy S 0 a i b j k = ((f_X11_found S 0 2).1, sI S 0 10 2)) ∨ (¬ gI S 12 r = -1 ∧ ¬ gI S 12 s = -1 ∧ gI S 11 r = gI S 11 s ∧ (0 ≤ i.toInt ∧ 0 ≤ k.toInt ∧ i.toInt + k.toInt ≤ (gI S 12 r).toInt) ∧ (0 ≤ j.toInt ∧ 0 ≤ k.toInt ∧ j.toInt + k.toInt ≤ (gI S 12 s).toInt) ∧ f_X11_copy S 0 a i b j k = (k.toInt64, sI (rI S (3 + s) (va_cpy (gI S (3 + r)) (gI S (3 + s)) i.toNatClampNeg j.toNatClampNeg k.toNatClampNeg)) 0 10 0)))) := by
    unfold f_X11_copy
    simp only [bd_def]
    by_cases c : (0 ≤ a.toInt ∧ a.toInt < 8) ∧ (0 ≤ b.toInt ∧ b.toInt < 8)
    · right
      have d1 : ¬ f_X5_isRow S a = 0 := fun q => (isRow_iff S a).mp q c.1
      have d2 : ¬ f_X5_isRow S b = 0 := fun q => (isRow_iff S b).mp q c.2
      rw [if_neg d1, if_neg d2]
      obtain ⟨r, hr, rfl⟩ := row_in d1
      obtain ⟨s, hs, rfl⟩ := row_in d2
      refine ⟨r, s, hr, hs, rfl, rfl, ?_⟩
      rw [miss_at S hr, miss_at S hs, lane_at S hr, lane_at S hs]
      rcases row_case hI.1 hr with ⟨m1, m2, m3⟩ | ⟨m1, m2, m3, m4, m5, m6⟩
      · left
        rw [if_pos m1, if_neg one_ne, found_2]
        exact ⟨Or.inl m1, rfl⟩
      · rw [if_neg m1, if_pos rfl]
        rcases row_case hI.1 hs with ⟨w1, w2, w3⟩ | ⟨w1, w2, w3, w4, w5, w6⟩
        · left
          rw [if_pos w1, if_neg one_ne, found_2]
          exact ⟨Or.inr w1, rfl⟩
        · right
          rw [if_neg w1, if_pos rfl]
          by_cases cl : gI S 11 r = gI S 11 s
          · right
            rw [if_pos cl]
            have hp1 := placesN_iff S hr (i := i) (k := k) m1 (by rw [m4]; exact m5)
            have hp2 := placesN_iff S hs (i := j) (k := k) w1 (by rw [w4]; exact w5)
            by_cases c1 : 0 ≤ i.toInt ∧ 0 ≤ k.toInt ∧ i.toInt + k.toInt ≤ (gI S 12 r).toInt
            · have n1 : ¬ f_X5_hasPlaces S 1 (nI r) i k = 0 := fun q => hp1.mp q c1
              rw [if_neg n1]
              by_cases c2 : 0 ≤ j.toInt ∧ 0 ≤ k.toInt ∧ j.toInt + k.toInt ≤ (gI S 12 s).toInt
              · have n2 : ¬ f_X5_hasPlaces S 1 (nI s) j k = 0 := fun q => hp2.mp q c2
                right
                rw [if_neg n2, fine_1, fine_2]
                unfold f_X5_carry
                simp only [bd_def]
                rw [if_neg n1, if_neg n2, nI_clamp' (by omega), nI_clamp' (by omega)]
                exact ⟨m1, w1, cl, c1, c2, rfl⟩
              · left
                rw [if_pos (hp2.mpr c2), found_2]
                exact ⟨m1, w1, cl, fun q => c2 q.2, rfl⟩
            · left
              rw [if_pos (hp1.mpr c1), found_2]
              exact ⟨m1, w1, cl, fun q => c1 q.1, rfl⟩
          · left
            rw [if_neg cl, found_2]
            exact ⟨m1, w1, cl, rfl⟩
    · left
      refine ⟨c, ?_⟩
      by_cases c1 : 0 ≤ a.toInt ∧ a.toInt < 8
      · have c2 : ¬ (0 ≤ b.toInt ∧ b.toInt < 8) := fun q => c ⟨c1, q⟩
        rw [if_neg (fun q => (isRow_iff S a).mp q c1), if_pos ((isRow_iff S b).mpr c2)]
        rfl
      · rw [if_pos ((isRow_iff S a).mpr c1)]
        rfl
  have f1 : Fr WR S (f_X11_copy S 0 a i b j k).2 := by
    rcases hcls with ⟨-, e⟩ | ⟨r, s, hr, hs, -, -, ⟨-, e⟩ | ⟨-, -, -, e⟩ | ⟨-, -, -, -, e⟩ | ⟨-, -, -, -, -, e⟩⟩
    · rw [e]; exact Fr.refl _ _
    · rw [e]; exact Fr.s1 (by decide) (Fr.refl _ _)
    · rw [e]; exact Fr.s1 (by decide) (Fr.refl _ _)
    · rw [e]; exact Fr.s1 (by decide) (Fr.refl _ _)
    · rw [e]; exact Fr.s1 (by decide) (Fr.r1 (WR_in s hs) (Fr.refl _ _))
  exact f1
theorem fr11_image : ∀ (n : Nat) (S : HSt) (a : Int32), n < 512 → Inv0 n S → Fr WI S (f_X11_image S 0 a).2 := by
  intro n S a hn hI
  have hp : ∀ T : HSt, f_X12_in T a.toInt64 (0 : Int64) (1 : Int64) = f_X11_within S a 0 1 := fun T => by
    rw [show (0 : Int64) = (0 : Int32).toInt64 from rfl, show (1 : Int64) = (1 : Int32).toInt64 from rfl, in_within T S]
  obtain ⟨hR, hth, hbz, hH1, -⟩ := hI.2.2.2.2.1
  have hrx : ¬ f_X11_within S a 0 1 = 0 → ∃ r, r < 2 ∧ a = nI r := fun h => by
    have w := within_1 S h
    exact nI_of_bw (n := 2) w.1 (by have := w.2; rw [ti1] at this; omega) (by omega)
  have hk6 : Bz (gI S (18 + 4) 6) := by
    have : gI S 22 6 = gI S 71 5 := hR.2.2.2.1.2.2.2.2.2.2
    show Bz (gI S 22 6)
    rw [this]
    exact hR.2.2.2.2.2.2.2.2.2.1
  have hk2 : Bz (gI S 18 2) := by rw [hth]; exact hbz
  have hcls : (f_X11_within S a 0 1 = 0 ∧ (f_X11_image S 0 a).1 = -9000000000000000001 ∧ (f_X11_image S 0 a).2 = S) ∨ (¬ f_X11_within S a 0 1 = 0 ∧ gI S 64 7 = 0 ∧ (f_X11_image S 0 a).1 = -9000000000000000002 ∧ (f_X11_image S 0 a).2 = S) ∨ (∃ r, r < 2 ∧ a = nI r ∧ ¬ f_X11_within S a 0 1 = 0 ∧ ¬ gI S 64 7 = 0 ∧ (f_X11_image S 0 a).1 = 1 ∧ (f_X11_image S 0 a).2 = f_X7_copyFrom S (24 + 5 * r) 18) := by
    unfold f_X11_image
    rw [hth]
    by_cases c1 : f_X11_within S a 0 1 = 0
    · left
      rw [if_pos c1]
      exact ⟨c1, pr_1 _ _, pr_2 _ _⟩
    · right
      rw [if_neg c1]
      by_cases c2 : gI S 64 7 = 0
      · left
        rw [if_pos c2]
        exact ⟨c1, c2, pr_1 _ _, pr_2 _ _⟩
      · right
        rw [if_neg c2, bd_def]
        obtain ⟨r, hr, rfl⟩ := hrx c1
        rw [nI_clamp' (by omega)]
        exact ⟨r, hr, rfl, c1, c2, pr_1 _ _, pr_2 _ _⟩
  have f1 : Fr WI S (f_X11_image S 0 a).2 := by
    rcases hcls with ⟨-, -, e⟩ | ⟨-, -, -, e⟩ | ⟨r, hr, -, -, -, -, e⟩
    · rw [e]; exact Fr.refl _ _
    · rw [e]; exact Fr.refl _ _
    · rw [e]; exact img_fr S hr
  exact f1
