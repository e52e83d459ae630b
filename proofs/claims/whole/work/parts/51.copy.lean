-- needs: 35.image
/-! ===== copy ===== -/
theorem placesN_iff (S : HSt) {r : Nat} (hr : r < 8) {i k : Int32} (h1 : ¬ gI S 12 r = -1) (h2 : bw (gI S 12 r) 0 40) : f_X5_hasPlaces S 1 (nI r) i k = 0 ↔ ¬ (0 ≤ i.toInt ∧ 0 ≤ k.toInt ∧ i.toInt + k.toInt ≤ (gI S 12 r).toInt) := by
  show (if f_X5_isMissing S 1 (nI r) = 0 then (if i < 0 then (0 : Int32) else if k < 0 then 0 else if gI S 12 (nI r).toNatClampNeg < k then 0 else if gI S 12 (nI r).toNatClampNeg - k < i then 0 else 1) else 0) = 0 ↔ _
  rw [miss_at S hr, if_neg h1, if_pos rfl, nI_clamp' (by omega)]
  obtain ⟨g1, g2⟩ := h2
  by_cases c1 : i < 0
  · rw [if_pos c1]
    rw [ti_lt, ti0] at c1
    exact ⟨fun _ q => by omega, fun _ => rfl⟩
  · rw [if_neg c1]
    rw [ti_lt, ti0] at c1
    by_cases c0 : k < 0
    · rw [if_pos c0]
      rw [ti_lt, ti0] at c0
      exact ⟨fun _ q => by omega, fun _ => rfl⟩
    · rw [if_neg c0]
      rw [ti_lt, ti0] at c0
      by_cases c2 : gI S 12 r < k
      · rw [if_pos c2]
        rw [ti_lt] at c2
        exact ⟨fun _ q => by omega, fun _ => rfl⟩
      · rw [if_neg c2]
        rw [ti_lt] at c2
        have hs : (gI S 12 r - k).toInt = (gI S 12 r).toInt - k.toInt := ti_sub (by omega) (by omega)
        by_cases c3 : gI S 12 r - k < i
        · rw [if_pos c3]
          rw [ti_lt, hs] at c3
          exact ⟨fun _ q => by omega, fun _ => rfl⟩
        · rw [if_neg c3]
          rw [ti_lt, hs] at c3
          exact ⟨fun q => absurd q one_ne, fun q => absurd ⟨by omega, by omega, by omega⟩ q⟩
/-- the model's loop -/
theorem cp_L {a b i j N : Nat} (hi : i + N ≤ 40) (hj : j + N ≤ 40) (ha : a < 8) (hb : b < 8) (up : Int32) (hup : (up = 1 ∧ j ≤ i) ∨ (up = 0 ∧ i < j)) (F : Nat → Int32) : ∀ (n k lo hi' : Nat) (S : HSt), k ≤ N → N - k < n → (up = 1 ∧ lo = 40 * b + j ∧ hi' = 40 * b + j + k) ∨ (up = 0 ∧ lo = 40 * b + j + N - k ∧ hi' = 40 * b + j + N) → (∀ x, gI S 67 x = if lo ≤ x ∧ x < hi' then F (x - (40 * b + j) + (40 * a + i)) else F x) → T_X12_copy_144 n S (nI a) (nI i) (nI b) (nI j) (nI N) up (nI k) ∧ (L_X12_copy_144 n S (nI a) (nI i) (nI b) (nI j) (nI N) up (nI k)).2.2.2.2.1 = nI N ∧ (∀ x, gI (L_X12_copy_144 n S (nI a) (nI i) (nI b) (nI j) (nI N) up (nI k)).2.2.2.2.2.2.2 67 x = if 40 * b + j ≤ x ∧ x < 40 * b + j + N then F (x - (40 * b + j) + (40 * a + i)) else F x) ∧ (∀ x, x ≠ 67 → gI (L_X12_copy_144 n S (nI a) (nI i) (nI b) (nI j) (nI N) up (nI k)).2.2.2.2.2.2.2 x = gI S x) := by
  intro n
  induction n with
  | zero => intro k lo hi' S _ h; omega
  | succ n ih =>
    intro k lo hi' S hk hn hlo hF
    unfold T_X12_copy_144 L_X12_copy_144
    by_cases c : nI N ≤ nI k
    · have hkN : k = N := by
        rw [ti_le, nI_ti (by omega), nI_ti (by omega)] at c
        omega
      rw [if_pos c]
      refine ⟨⟨fun q => absurd c q, fun q => absurd c q, fun q => absurd c q⟩, rfl, fun x => ?_, fun x _ => rfl⟩
      show gI S 67 x = _
      rw [hF x]
      have e : (lo ≤ x ∧ x < hi') = (40 * b + j ≤ x ∧ x < 40 * b + j + N) := by
        apply propext
        rcases hlo with ⟨-, h1, h2⟩ | ⟨-, h1, h2⟩ <;> omega
      simp only [e]
    · rw [if_neg c]
      have hkN : k < N := by
        rw [ti_le, nI_ti (by omega), nI_ti (by omega)] at c
        omega
      obtain ⟨at', hat, eat⟩ : ∃ at' : Nat, ((up = 1 ∧ at' = k) ∨ (up = 0 ∧ at' = N - 1 - k)) ∧ (if up = 0 then ((nI N - (1 : Int32)) - nI k) else nI k) = nI at' := by
        rcases hup with ⟨u, -⟩ | ⟨u, -⟩
        · exact ⟨k, Or.inl ⟨u, rfl⟩, by rw [if_neg (by rw [u]; decide)]⟩
        · refine ⟨N - 1 - k, Or.inr ⟨u, rfl⟩, ?_⟩
          rw [if_pos u]
          have t1 : (nI N - (1 : Int32)).toInt = N - 1 := by rw [ti_sub (by rw [nI_ti (by omega), ti1]; omega) (by rw [nI_ti (by omega), ti1]; omega), nI_ti (by omega), ti1]
          rw [ti_eq, ti_sub (by rw [t1, nI_ti (by omega)]; omega) (by rw [t1, nI_ti (by omega)]; omega), t1, nI_ti (by omega), nI_ti (by omega)]
          omega
      have hatN : at' < N := by rcases hat with ⟨-, q⟩ | ⟨-, q⟩ <;> omega
      simp only [bd_def]
      rw [eat]
      have e1 : ((40 : Int32) * nI a + nI i) + nI at' = nI (40 * a + i + at') := by rw [show (40 : Int32) = nI 40 from rfl, pk_mul, nI_add, nI_add]
      have e2 : ((40 : Int32) * nI b + nI j) + nI at' = nI (40 * b + j + at') := by rw [show (40 : Int32) = nI 40 from rfl, pk_mul, nI_add, nI_add]
      rw [e1, e2, nI_clamp' (by omega), nI_clamp' (by omega)]
      have hrd : gI S 67 (40 * a + i + at') = F (40 * a + i + at') := by
        rw [hF, if_neg]
        intro q
        by_cases hab : a = b
        · rcases hlo with ⟨u, h1, h2⟩ | ⟨u, h1, h2⟩
          · rcases hat with ⟨-, q1⟩ | ⟨u2, -⟩
            · rcases hup with ⟨-, v⟩ | ⟨u3, -⟩
              · omega
              · rw [u] at u3; exact absurd u3 (by decide)
            · rw [u] at u2; exact absurd u2 (by decide)
          · rcases hat with ⟨u2, -⟩ | ⟨-, q1⟩
            · rw [u] at u2; exact absurd u2 (by decide)
            · rcases hup with ⟨u3, -⟩ | ⟨-, v⟩
              · rw [u] at u3; exact absurd u3 (by decide)
              · omega
        · rcases hlo with ⟨u, h1, h2⟩ | ⟨u, h1, h2⟩ <;> omega
      rw [hrd]
      have hlo2 : ∃ lo2 hi2, ((up = 1 ∧ lo2 = 40 * b + j ∧ hi2 = 40 * b + j + (k + 1)) ∨ (up = 0 ∧ lo2 = 40 * b + j + N - (k + 1) ∧ hi2 = 40 * b + j + N)) ∧ (∀ x, (lo2 ≤ x ∧ x < hi2) ↔ (lo ≤ x ∧ x < hi') ∨ x = 40 * b + j + at') := by
        rcases hlo with ⟨u, h1, h2⟩ | ⟨u, h1, h2⟩
        · refine ⟨_, _, Or.inl ⟨u, rfl, rfl⟩, fun x => ?_⟩
          rcases hat with ⟨-, q1⟩ | ⟨u2, -⟩
          · omega
          · rw [u] at u2; exact absurd u2 (by decide)
        · refine ⟨_, _, Or.inr ⟨u, rfl, rfl⟩, fun x => ?_⟩
          rcases hat with ⟨u2, -⟩ | ⟨-, q1⟩
          · rw [u] at u2; exact absurd u2 (by decide)
          · omega
      obtain ⟨lo2, hi2, hl2, hl3⟩ := hlo2
      obtain ⟨i1, i2, i3, i4⟩ := ih (k + 1) lo2 hi2 (sI S 67 (40 * b + j + at') (F (40 * a + i + at'))) (by omega) (by omega) hl2 (fun x => by
        rw [gs_eq]
        by_cases d : x = 40 * b + j + at'
        · rw [if_pos d, if_pos ((hl3 x).mpr (Or.inr d))]
          exact congrArg F (by omega)
        · rw [if_neg d, hF x]
          have e : (lo ≤ x ∧ x < hi') = (lo2 ≤ x ∧ x < hi2) := propext ⟨fun q => (hl3 x).mpr (Or.inl q), fun q => ((hl3 x).mp q).resolve_right d⟩
          simp only [e])
      rw [nI_succ] at i1 i2 i3 i4
      refine ⟨⟨fun _ x hx => ?_, fun _ x hx => ?_, fun _ x hx S1 e => ?_⟩, i2, i3, fun x hx => (i4 x hx).trans (gs_ne hx)⟩
      · rw [← hx, e1]; exact vp_in_nI (by omega) (by omega)
      · rw [← hx, e2]; exact vp_in_nI (by omega) (by omega)
      · rw [← hx, e1, e2, nI_clamp' (by omega), nI_clamp' (by omega), hrd] at e
        rw [← e]
        exact i1
theorem lane_at (S : HSt) {r : Nat} (hr : r < 8) : f_X5_laneOf S 1 (nI r) = gI S 11 r := by
  have h : ¬ f_X5_isRow S (nI r) = 0 := fun q => (isRow_iff S _).mp q (by rw [nI_ti (by omega)]; omega)
  show (if f_X5_isRow S (nI r) = 0 then (-1000000 : Int32) else gI S 11 (nI r).toNatClampNeg) = _
  rw [if_neg h, nI_clamp' (by omega)]
theorem p_lane (S : HSt) (a : Int32) : p_X5_laneOf S 1 a := fun h => p_miss S a h
/-- i + n, in long -/
theorem lsum {i n : Int32} (h : bw i 0 2147483647) (hn : bw n 0 2147483647) (m : Int32) : (0 < lg_cmp (i.toInt64 + n.toInt64) m.toInt64) ↔ m.toInt < i.toInt + n.toInt := by
  rw [lgc_gt, Int64.lt_iff_toInt_lt]
  have e : (i.toInt64 + n.toInt64).toInt = i.toInt + n.toInt := by
    rw [Int64.toInt_add, Int32.toInt_toInt64, Int32.toInt_toInt64]
    have := h.1; have := h.2; have := hn.1; have := hn.2
    exact Int.bmod_eq_of_le (by simp; omega) (by simp; omega)
  rw [e, Int32.toInt_toInt64]
theorem lsum_le {i n : Int32} (h : bw i 0 2147483647) (hn : bw n 0 2147483647) (m : Int32) : (lg_cmp (i.toInt64 + n.toInt64) m.toInt64 ≤ 0) ↔ i.toInt + n.toInt ≤ m.toInt := by
  have := lsum h hn m
  rw [ti_lt] at this
  rw [ti_le]
  omega
theorem k_copy : K_copy Inv0 := by
  intro n S a i b j k hn hI
  have hst := hI.2.2.1.1
  have hv : ∀ (T : HSt) (x : Int32), ¬ f_X12_isRow T x = 0 → vp_in x 8 := fun T x h => by
    have := Classical.not_not.mp (fun q => h ((isRowM_iff T x).mpr q))
    exact vp_in_iff.mpr ⟨this.1, this.2⟩
  have hcls : (¬ ((0 ≤ a.toInt ∧ a.toInt < 8) ∧ (0 ≤ b.toInt ∧ b.toInt < 8)) ∧ f_X11_copy S 0 a i b j k = (-9000000000000000001, S)) ∨ (∃ r s, r < 8 ∧ s < 8 ∧ a = nI r ∧ b = nI s ∧ (((gI S 12 r = -1 ∨ gI S 12 s = -1) ∧ f_X11_copy S 0 a i b j k = ((f_X11_found S 0 1).1, sI S 0 10 1)) ∨ (¬ gI S 12 r = -1 ∧ ¬ gI S 12 s = -1 ∧ ¬ gI S 11 r = gI S 11 s ∧ f_X11_copy S 0 a i b j k = ((f_X11_found S 0 5).1, sI S 0 10 5)) ∨ (¬ gI S 12 r = -1 ∧ ¬ gI S 12 s = -1 ∧ gI S 11 r = gI S 11 s ∧ ¬ ((0 ≤ i.toInt ∧ 0 ≤ k.toInt ∧ i.toInt + k.toInt ≤ (gI S 12 r).toInt) ∧ (0 ≤ j.toInt ∧ 0 ≤ k.toInt ∧ j.toInt + k.toInt ≤ (gI S 12 s).toInt)) ∧ f_X11_copy S 0 a i b j k = ((f_X11_found S 0 2).1, sI S 0 10 2)) ∨ (¬ gI S 12 r = -1 ∧ ¬ gI S 12 s = -1 ∧ gI S 11 r = gI S 11 s ∧ (0 ≤ i.toInt ∧ 0 ≤ k.toInt ∧ i.toInt + k.toInt ≤ (gI S 12 r).toInt) ∧ (0 ≤ j.toInt ∧ 0 ≤ k.toInt ∧ j.toInt + k.toInt ≤ (gI S 12 s).toInt) ∧ f_X11_copy S 0 a i b j k = (k.toInt64, sI (rI S (3 + s) (va_cpy (gI S (3 + r)) (gI S (3 + s)) i.toNatClampNeg j.toNatClampNeg k.toNatClampNeg)) 0 10 0)))) := by
    unfold f_X11_copy
    simp only [bd_def]
    by_cases c : (0 ≤ a.toInt ∧ a.toInt < 8) ∧ (0 ≤ b.toInt ∧ b.toInt < 8)
    · right
      have d1 : ¬ f_X5_isRow S a = 0 := fun q => (isRow_iff S a).mp q c.1
      have d2 : ¬ f_X5_isRow S b = 0 := fun q => (isRow_iff S b).mp q c.2
      rw [if_neg d1, if_neg d2]
      obtain ⟨r, hr, rfl⟩ := row_in d1
      obtain ⟨s, hs, rfl⟩ := row_in d2
      refine ⟨r, s, hr, hs, rfl, rfl, ?_⟩
      rw [miss_at S hr, miss_at S hs, lane_at S hr, lane_at S hs]
      rcases row_case hI.1 hr with ⟨m1, m2, m3⟩ | ⟨m1, m2, m3, m4, m5, m6⟩
      · left
        rw [if_pos m1, if_neg one_ne, found_2]
        exact ⟨Or.inl m1, rfl⟩
      · rw [if_neg m1, if_pos rfl]
        rcases row_case hI.1 hs with ⟨w1, w2, w3⟩ | ⟨w1, w2, w3, w4, w5, w6⟩
        · left
          rw [if_pos w1, if_neg one_ne, found_2]
          exact ⟨Or.inr w1, rfl⟩
        · right
          rw [if_neg w1, if_pos rfl]
          by_cases cl : gI S 11 r = gI S 11 s
          · right
            rw [if_pos cl]
            have hp1 := placesN_iff S hr (i := i) (k := k) m1 (by rw [m4]; exact m5)
            have hp2 := placesN_iff S hs (i := j) (k := k) w1 (by rw [w4]; exact w5)
            by_cases c1 : 0 ≤ i.toInt ∧ 0 ≤ k.toInt ∧ i.toInt + k.toInt ≤ (gI S 12 r).toInt
            · have n1 : ¬ f_X5_hasPlaces S 1 (nI r) i k = 0 := fun q => hp1.mp q c1
              rw [if_neg n1]
              by_cases c2 : 0 ≤ j.toInt ∧ 0 ≤ k.toInt ∧ j.toInt + k.toInt ≤ (gI S 12 s).toInt
              · have n2 : ¬ f_X5_hasPlaces S 1 (nI s) j k = 0 := fun q => hp2.mp q c2
                right
                rw [if_neg n2, fine_1, fine_2]
                unfold f_X5_carry
                simp only [bd_def]
                rw [if_neg n1, if_neg n2, nI_clamp' (by omega), nI_clamp' (by omega)]
                exact ⟨m1, w1, cl, c1, c2, rfl⟩
              · left
                rw [if_pos (hp2.mpr c2), found_2]
                exact ⟨m1, w1, cl, fun q => c2 q.2, rfl⟩
            · left
              rw [if_pos (hp1.mpr c1), found_2]
              exact ⟨m1, w1, cl, fun q => c1 q.1, rfl⟩
          · left
            rw [if_neg cl, found_2]
            exact ⟨m1, w1, cl, rfl⟩
    · left
      refine ⟨c, ?_⟩
      by_cases c1 : 0 ≤ a.toInt ∧ a.toInt < 8
      · have c2 : ¬ (0 ≤ b.toInt ∧ b.toInt < 8) := fun q => c ⟨c1, q⟩
        rw [if_neg (fun q => (isRow_iff S a).mp q c1), if_pos ((isRow_iff S b).mpr c2)]
        rfl
      · rw [if_pos ((isRow_iff S a).mpr c1)]
        rfl
  have f1 : Fr WR S (f_X11_copy S 0 a i b j k).2 := by
    rcases hcls with ⟨-, e⟩ | ⟨r, s, hr, hs, -, -, ⟨-, e⟩ | ⟨-, -, -, e⟩ | ⟨-, -, -, -, e⟩ | ⟨-, -, -, -, -, e⟩⟩
    · rw [e]; exact Fr.refl _ _
    · rw [e]; exact Fr.s1 (by decide) (Fr.refl _ _)
    · rw [e]; exact Fr.s1 (by decide) (Fr.refl _ _)
    · rw [e]; exact Fr.s1 (by decide) (Fr.refl _ _)
    · rw [e]; exact Fr.s1 (by decide) (Fr.r1 (WR_in s hs) (Fr.refl _ _))
  have f2 := v_X12_copy (f_X11_copy S 0 a i b j k).2 64 a i b j k
  have g64 : gI (f_X11_copy S 0 a i b j k).2 64 = gI S 64 := fr_addr f1 64 (by decide)
  have g65 : gI (f_X11_copy S 0 a i b j k).2 65 = gI S 65 := fr_addr f1 65 (by decide)
  have g66 : gI (f_X11_copy S 0 a i b j k).2 66 = gI S 66 := fr_addr f1 66 (by decide)
  have g67 : gI (f_X11_copy S 0 a i b j k).2 67 = gI S 67 := fr_addr f1 67 (by decide)
  -- the places of the class
  have hcp : p_X11_copy S 0 a i b j k := by
    refine ⟨fun _ _ => p_miss S a, fun _ _ _ => p_miss S b, fun _ _ _ _ => p_lane S a, fun _ _ _ _ => p_lane S b, fun _ _ _ _ _ => p_places S a i k, fun _ _ _ _ _ _ => p_places S b j k, fun d1 d2 e1 e2 _ q1 q2 => ?_⟩
    obtain ⟨r, hr, rfl⟩ := row_in d1
    obtain ⟨s, hs, rfl⟩ := row_in d2
    rcases row_case hI.1 hr with ⟨m1, m2, m3⟩ | ⟨m1, m2, m3, m4, m5, m6⟩
    · rw [miss_at S hr, if_pos m1] at e1; exact absurd e1 one_ne
    rcases row_case hI.1 hs with ⟨w1, w2, w3⟩ | ⟨w1, w2, w3, w4, w5, w6⟩
    · rw [miss_at S hs, if_pos w1] at e2; exact absurd e2 one_ne
    have c1 := Classical.not_not.mp (fun z => q1 ((placesN_iff S hr (i := i) (k := k) m1 (by rw [m4]; exact m5)).mpr z))
    have c2 := Classical.not_not.mp (fun z => q2 ((placesN_iff S hs (i := j) (k := k) w1 (by rw [w4]; exact w5)).mpr z))
    rw [m4] at c1
    rw [w4] at c2
    have m52 := m5.2
    have w52 := w5.2
    refine ⟨p_places _ _ _ _, fun _ => p_places _ _ _ _, fun _ _ => p_miss S _ d1, fun _ _ => p_miss S _ d2, fun _ _ z => ?_, fun _ _ z => ?_, fun _ _ z => ?_, fun _ _ => ?_, fun _ _ => ?_⟩
    · rw [ti_lt, ti0] at z; omega
    · rw [ti_lt, ti0] at z; omega
    · rw [ti_lt, ti0] at z; omega
    · rw [ti_cl, ti_cl]; omega
    · rw [ti_cl, ti_cl]; omega
  have key : p_X12_copy (f_X11_copy S 0 a i b j k).2 64 a i b j k ∧ (f_X11_copy S 0 a i b j k).1 = (f_X12_copy (f_X11_copy S 0 a i b j k).2 64 a i b j k).1 ∧ gI (f_X12_copy (f_X11_copy S 0 a i b j k).2 64 a i b j k).2 0 10 = gI (f_X12_copy (f_X11_copy S 0 a i b j k).2 64 a i b j k).2 64 1 ∧ IRow (f_X12_copy (f_X11_copy S 0 a i b j k).2 64 a i b j k).2 := by
    have same : ∀ T : HSt, (∀ x, (3 ≤ x ∧ x ≤ 12) ∨ (65 ≤ x ∧ x ≤ 67) → gI T x = gI S x) → IRow T := fun T h => hI.1.of h
    -- the model, but for the copying itself
    have mp : ∀ U : HSt, gI U 65 = gI S 65 → gI U 66 = gI S 66 → (∀ r s, r < 8 → s < 8 → a = nI r → b = nI s → ¬ gI S 12 r = -1 → ¬ gI S 12 s = -1 → (0 ≤ i.toInt ∧ 0 ≤ k.toInt ∧ i.toInt + k.toInt ≤ (gI S 12 r).toInt) → (0 ≤ j.toInt ∧ 0 ≤ k.toInt ∧ j.toInt + k.toInt ≤ (gI S 12 s).toInt) → T_X12_copy_144 1000 (sI (sI U 64 0 0) 64 1 0) a i b j k (if i < j then 0 else 1) 0) → p_X12_copy U 64 a i b j k := by
      intro U u65 u66 hT
      refine ⟨fun S1 _ h1 h2 _ _ => hv S1 a h1, fun S1 _ h1 h2 _ _ _ => hv S1 b h2, fun S1 _ h1 h2 _ _ _ _ => hv S1 a h1, fun S1 _ h1 h2 _ _ _ _ => hv S1 b h2, fun S1 _ h1 h2 _ _ _ _ _ _ _ _ => hv S1 a h1, fun S1 _ h1 h2 _ _ _ _ _ _ _ _ _ => hv S1 b h2, ?_⟩
      intro S1 e1 h1 h2 S4 e4 q1 q2 q3 q4 q5 q6 q7 q8 x19 e19
      obtain ⟨r, hr, er⟩ := vp_in_of (hv S1 a h1) (by decide)
      obtain ⟨s, hs, es⟩ := vp_in_of (hv S1 b h2) (by decide)
      have u5 : gI S4 65 = gI S 65 := by rw [← e4, ← e1, gs_ne (by decide), gs_ne (by decide), u65]
      have u6 : gI S4 66 = gI S 66 := by rw [← e4, ← e1, gs_ne (by decide), gs_ne (by decide), u66]
      rw [u5, er, nI_clamp' (by omega)] at q1
      rw [u5, es, nI_clamp' (by omega)] at q2
      rw [ti_lt, ti0] at q4 q5 q6
      have bi : bw i 0 2147483647 := ⟨by omega, by have := i_hi i; omega⟩
      have bj : bw j 0 2147483647 := ⟨by omega, by have := i_hi j; omega⟩
      have bk : bw k 0 2147483647 := ⟨by omega, by have := i_hi k; omega⟩
      rw [lsum bi bk, u6, er, nI_clamp' (by omega)] at q7
      rw [lsum_le bj bk, u6, es, nI_clamp' (by omega)] at q8
      rcases row_case hI.1 hr with ⟨m1, m2, m3⟩ | ⟨m1, m2, m3, m4, m5, m6⟩
      · exact absurd (by rw [m2]; decide) q1
      rcases row_case hI.1 hs with ⟨w1, w2, w3⟩ | ⟨w1, w2, w3, w4, w5, w6⟩
      · exact absurd q2 w3
      rw [← e19, ← e4, ← e1]
      exact hT r s hr hs er es m1 w1 ⟨by omega, by omega, by rw [m4]; omega⟩ ⟨by omega, by omega, by rw [w4]; omega⟩
    rcases hcls with ⟨c, e⟩ | ⟨r, s, hr, hs, rfl, rfl, hc⟩
    · rw [e]
      refine ⟨mp S rfl rfl (fun r s hr hs er es _ _ _ _ => ?_), ?_⟩
      · refine absurd ⟨?_, ?_⟩ c
        · rw [er, nI_ti (by omega)]; omega
        · rw [es, nI_ti (by omega)]; omega
      unfold f_X12_copy
      simp only [bd_def]
      by_cases c1 : 0 ≤ a.toInt ∧ a.toInt < 8
      · have c2 : ¬ (0 ≤ b.toInt ∧ b.toInt < 8) := fun q => c ⟨c1, q⟩
        rw [if_neg (fun q => (isRowM_iff _ a).mp q c1), if_pos ((isRowM_iff _ b).mpr c2)]
        refine ⟨rfl, hst, same _ (fun x hx => ?_)⟩
        rw [pr_2, gs_ne (by omega)]
      · rw [if_pos ((isRowM_iff _ a).mpr c1)]
        refine ⟨rfl, hst, same _ (fun x hx => ?_)⟩
        rw [pr_2, gs_ne (by omega)]
    · have d1 : ∀ T, ¬ f_X12_isRow T (nI r) = 0 := fun T q => (isRowM_iff T _).mp q (by rw [nI_ti (by omega)]; omega)
      have d2 : ∀ T, ¬ f_X12_isRow T (nI s) = 0 := fun T q => (isRowM_iff T _).mp q (by rw [nI_ti (by omega)]; omega)
      generalize hU : (f_X11_copy S 0 (nI r) i (nI s) j k).2 = U at g64 g65 g66 g67 ⊢
      have v5 : ∀ x, gI (sI (sI U 64 0 0) 64 1 0) 65 x = gI S 65 x := fun x => by rw [gs_ne (by decide), gs_ne (by decide), g65]
      have v6 : ∀ x, gI (sI (sI U 64 0 0) 64 1 0) 66 x = gI S 66 x := fun x => by rw [gs_ne (by decide), gs_ne (by decide), g66]
      have v7 : ∀ x, gI (sI (sI U 64 0 0) 64 1 0) 67 x = gI S 67 x := fun x => by rw [gs_ne (by decide), gs_ne (by decide), g67]
      -- a finding
      have fnd : ∀ z : Int32, U = sI S 0 10 z → ∀ M : Int64 × HSt, M = pr (f_X12_finding (sI (sI U 64 0 0) 64 1 0) 64 z).1 (f_X12_finding (sI (sI U 64 0 0) 64 1 0) 64 z).2 → (f_X11_found S 0 z).1 = M.1 ∧ gI M.2 0 10 = gI M.2 64 1 ∧ IRow M.2 := fun z hz M hM => by
        rw [hM, pr_1, pr_2, finding_2, hz]
        refine ⟨found_eq _ _ _, rfl, same _ (fun x hx => ?_)⟩
        funext y
        simp only [gI_sI, if_neg (show ¬ x = 64 by omega), if_neg (show ¬ x = 0 by omega)]
      have hU1 : ∀ P, f_X11_copy S 0 (nI r) i (nI s) j k = P → (f_X11_copy S 0 (nI r) i (nI s) j k).1 = P.1 ∧ U = P.2 := fun P hP => by rw [← hU, hP]; exact ⟨rfl, rfl⟩
      rcases hc with ⟨h, e⟩ | ⟨h1, h2, h3, e⟩ | ⟨h1, h2, h3, h4, e⟩ | ⟨h1, h2, h3, h4, h5, e⟩
      · obtain ⟨e1, e2⟩ := hU1 _ e
        rw [e1]
        refine ⟨mp U g65 g66 (fun r' s' hr' hs' er es m1 w1 _ _ => ?_), fnd 1 e2 _ ?_⟩
        · have q1 : r' = r := Classical.byContradiction fun z => by
            have := congrArg Int32.toInt er
            rw [nI_ti (by omega), nI_ti (by omega)] at this; omega
          have q2 : s' = s := Classical.byContradiction fun z => by
            have := congrArg Int32.toInt es
            rw [nI_ti (by omega), nI_ti (by omega)] at this; omega
          subst q1 q2
          rcases h with h | h
          · exact absurd h m1
          · exact absurd h w1
        · unfold f_X12_copy
          simp only [bd_def]
          rw [if_neg (d1 _), if_neg (d2 _), nI_clamp' (by omega), nI_clamp' (by omega), v5, v5]
          rcases row_case hI.1 hr with ⟨m1, m2, m3⟩ | ⟨m1, m2, m3, m4, m5, m6⟩
          · rw [if_pos (by rw [m2]; decide)]
          · rw [if_neg (by rw [ti_lt, ti0]; have := m6.1; omega)]
            rcases row_case hI.1 hs with ⟨w1, w2, w3⟩ | ⟨w1, w2, w3, w4, w5, w6⟩
            · rw [if_neg w3]
            · rcases h with h | h
              · exact absurd h m1
              · exact absurd h w1
      · obtain ⟨e1, e2⟩ := hU1 _ e
        rcases row_case hI.1 hr with ⟨m1, m2, m3⟩ | ⟨m1, m2, m3, m4, m5, m6⟩
        · exact absurd m1 h1
        rcases row_case hI.1 hs with ⟨w1, w2, w3⟩ | ⟨w1, w2, w3, w4, w5, w6⟩
        · exact absurd w1 h2
        rw [e1]
        refine ⟨?_, fnd 5 e2 _ ?_⟩
        · refine ⟨fun S1 _ h1 h2 _ _ => hv S1 _ h1, fun S1 _ h1 h2 _ _ _ => hv S1 _ h2, fun S1 _ h1 h2 _ _ _ _ => hv S1 _ h1, fun S1 _ h1 h2 _ _ _ _ => hv S1 _ h2, fun S1 _ h1 h2 _ _ _ _ _ _ _ _ => hv S1 _ h1, fun S1 _ h1 h2 _ _ _ _ _ _ _ _ _ => hv S1 _ h2, ?_⟩
          intro S1 e1 _ _ S4 e4 q1 q2 q3
          rw [← e4, ← e1, nI_clamp' (by omega), nI_clamp' (by omega), v5, v5, ← m3, ← w3] at q3
          exact absurd q3 h3
        · unfold f_X12_copy
          simp only [bd_def]
          rw [if_neg (d1 _), if_neg (d2 _), nI_clamp' (by omega), nI_clamp' (by omega), v5, v5, if_neg (by rw [ti_lt, ti0]; have := m6.1; omega), if_pos w2, if_neg (by rw [← m3, ← w3]; exact h3)]
      · obtain ⟨e1, e2⟩ := hU1 _ e
        rcases row_case hI.1 hr with ⟨m1, m2, m3⟩ | ⟨m1, m2, m3, m4, m5, m6⟩
        · exact absurd m1 h1
        rcases row_case hI.1 hs with ⟨w1, w2, w3⟩ | ⟨w1, w2, w3, w4, w5, w6⟩
        · exact absurd w1 h2
        rw [e1]
        refine ⟨mp U g65 g66 (fun r' s' hr' hs' er es m1 w1 c1 c2 => ?_), fnd 2 e2 _ ?_⟩
        · have q1 : r' = r := Classical.byContradiction fun z => by
            have := congrArg Int32.toInt er
            rw [nI_ti (by omega), nI_ti (by omega)] at this; omega
          have q2 : s' = s := Classical.byContradiction fun z => by
            have := congrArg Int32.toInt es
            rw [nI_ti (by omega), nI_ti (by omega)] at this; omega
          subst q1 q2
          exact absurd ⟨c1, c2⟩ h4
        · unfold f_X12_copy
          simp only [bd_def]
          rw [if_neg (d1 _), if_neg (d2 _), nI_clamp' (by omega), nI_clamp' (by omega), v5, v5, if_neg (by rw [ti_lt, ti0]; have := m6.1; omega), if_pos w2, if_pos (by rw [← m3, ← w3]; exact h3), v6, v6]
          by_cases z1 : i < 0
          · rw [if_pos z1]
          rw [if_neg z1]
          by_cases z2 : j < 0
          · rw [if_pos z2]
          rw [if_neg z2]
          by_cases z3 : k < 0
          · rw [if_pos z3]
          rw [if_neg z3]
          rw [ti_lt, ti0] at z1 z2 z3
          have bi : bw i 0 2147483647 := ⟨by omega, by have := i_hi i; omega⟩
          have bj : bw j 0 2147483647 := ⟨by omega, by have := i_hi j; omega⟩
          have bk : bw k 0 2147483647 := ⟨by omega, by have := i_hi k; omega⟩
          by_cases z4 : 0 < lg_cmp (i.toInt64 + k.toInt64) (gI S 66 r).toInt64
          · rw [if_pos z4]
          rw [if_neg z4]
          rw [lsum bi bk] at z4
          rw [if_neg]
          rw [lsum_le bj bk]
          intro z5
          exact h4 ⟨⟨by omega, by omega, by rw [m4]; omega⟩, ⟨by omega, by omega, by rw [w4]; omega⟩⟩
      · obtain ⟨e1, e2⟩ := hU1 _ e
        rcases row_case hI.1 hr with ⟨m1, m2, m3⟩ | ⟨m1, m2, m3, m4, m5, m6⟩
        · exact absurd m1 h1
        rcases row_case hI.1 hs with ⟨w1, w2, w3⟩ | ⟨w1, w2, w3, w4, w5, w6⟩
        · exact absurd w1 h2
        rw [m4] at h4
        rw [w4] at h5
        have m52 := m5.2
        have w52 := w5.2
        obtain ⟨i', hi', rfl⟩ := nI_of_bw (x := i) (n := 41) h4.1 (by omega) (by omega)
        obtain ⟨j', hj', rfl⟩ := nI_of_bw (x := j) (n := 41) h5.1 (by omega) (by omega)
        obtain ⟨k', hk', rfl⟩ := nI_of_bw (x := k) (n := 41) h4.2.1 (by omega) (by omega)
        rw [nI_ti (by omega), nI_ti (by omega)] at h4 h5
        have hup : ((if nI i' < nI j' then (0 : Int32) else 1) = 1 ∧ j' ≤ i') ∨ ((if nI i' < nI j' then (0 : Int32) else 1) = 0 ∧ i' < j') := by
          by_cases c : nI i' < nI j'
          · rw [if_pos c]; right
            rw [ti_lt, nI_ti (by omega), nI_ti (by omega)] at c
            exact ⟨rfl, by omega⟩
          · rw [if_neg c]; left
            rw [ti_lt, nI_ti (by omega), nI_ti (by omega)] at c
            exact ⟨rfl, by omega⟩
        have hlo : ∃ lo hi, (((if nI i' < nI j' then (0 : Int32) else 1) = 1 ∧ lo = 40 * s + j' ∧ hi = 40 * s + j' + 0) ∨ ((if nI i' < nI j' then (0 : Int32) else 1) = 0 ∧ lo = 40 * s + j' + k' - 0 ∧ hi = 40 * s + j' + k')) ∧ ∀ x, ¬ (lo ≤ x ∧ x < hi) := by
          rcases hup with ⟨u, -⟩ | ⟨u, -⟩
          · exact ⟨_, _, Or.inl ⟨u, rfl, rfl⟩, fun x => by omega⟩
          · exact ⟨_, _, Or.inr ⟨u, rfl, rfl⟩, fun x => by omega⟩
        obtain ⟨lo, hi2, hlo, hno⟩ := hlo
        obtain ⟨t1, t2, t3, t4⟩ := cp_L (a := r) (b := s) (i := i') (j := j') (N := k') (by omega) (by omega) hr hs _ hup (gI S 67) 1000 0 lo hi2 (sI (sI U 64 0 0) 64 1 0) (by omega) (by omega) hlo (fun x => by rw [if_neg (hno x), v7])
        rw [e1]
        refine ⟨mp U g65 g66 (fun r' s' hr' hs' er es _ _ _ _ => t1), ?_⟩
        unfold f_X12_copy
        simp only [bd_def]
        have z1 : ¬ nI i' < 0 := nI_pos (by omega)
        have z2 : ¬ nI j' < 0 := nI_pos (by omega)
        have z3 : ¬ nI k' < 0 := nI_pos (by omega)
        have bi : bw (nI i') 0 2147483647 := ⟨by rw [nI_ti (by omega)]; omega, by rw [nI_ti (by omega)]; omega⟩
        have bj : bw (nI j') 0 2147483647 := ⟨by rw [nI_ti (by omega)]; omega, by rw [nI_ti (by omega)]; omega⟩
        have bk : bw (nI k') 0 2147483647 := ⟨by rw [nI_ti (by omega)]; omega, by rw [nI_ti (by omega)]; omega⟩
        rw [if_neg (d1 _), if_neg (d2 _), nI_clamp' (i := r) (by omega), nI_clamp' (i := s) (by omega), v5, v5, if_neg (by rw [ti_lt, ti0]; have := m6.1; omega), if_pos w2, if_pos (by rw [← m3, ← w3]; exact h3), v6, v6, if_neg z1, if_neg z2, if_neg z3, if_neg (by rw [lsum bi bk, nI_ti (by omega), nI_ti (by omega)]; omega), if_pos (by rw [lsum_le bj bk, nI_ti (by omega), nI_ti (by omega)]; omega), pr_1, pr_2]
        rw [nI_clamp' (i := i') (by omega), nI_clamp' (i := j') (by omega), nI_clamp' (i := k') (by omega)] at e2
        generalize hL : L_X12_copy_144 1000 (sI (sI U 64 0 0) 64 1 0) (nI r) (nI i') (nI s) (nI j') (nI k') (if nI i' < nI j' then 0 else 1) 0 = L at t2 t3 t4 ⊢
        have hLL : L_X12_copy_144 1000 (sI (sI U 64 0 0) 64 1 0) (nI r) (nI i') (nI s) (nI j') (nI k') (if nI i' < nI j' then 0 else 1) (nI 0) = L := hL
        rw [hLL] at t2 t3 t4
        refine ⟨?_, ?_, ?_⟩
        · show (nI k').toInt64 = _
          rw [t2]
        · rw [t4 0 (by decide), t4 64 (by decide), gs_ne (show (0 : Nat) ≠ 64 by decide), gs_ne (show (0 : Nat) ≠ 64 by decide), gs_eq, if_pos rfl]
          have e2' : U = sI (rI S (3 + s) (va_cpy (gI S (3 + r)) (gI S (3 + s)) i' j' k')) 0 10 0 := e2
          rw [e2', gs_eq, if_pos rfl]
        · have e2' : U = sI (rI S (3 + s) (va_cpy (gI S (3 + r)) (gI S (3 + s)) i' j' k')) 0 10 0 := e2
          have gU : ∀ x, x ≠ 67 → x ≠ 64 → x ≠ 0 → gI L.2.2.2.2.2.2.2 x = if x = 3 + s then va_cpy (gI S (3 + r)) (gI S (3 + s)) i' j' k' else gI S x := fun x h1 h2 h3 => by
            rw [t4 x h1, gs_ne h2, gs_ne h2, e2', gs_ne h3, gI_rI]
          refine ⟨fun r' hr' => ?_, fun r' x hr' hx => ?_⟩
          · rw [gU 11 (by decide) (by decide) (by decide), gU 12 (by decide) (by decide) (by decide), gU 65 (by decide) (by decide) (by decide), gU 66 (by decide) (by decide) (by decide), if_neg (by omega), if_neg (by omega), if_neg (by omega), if_neg (by omega)]
            exact hI.1.1 r' hr'
          · rw [gU (3 + r') (by omega) (by omega) (by omega), t3]
            by_cases d : r' = s
            · rw [if_pos (by omega), d]
              show (if j' ≤ x ∧ x < j' + k' then gI S (3 + r) (i' + (x - j')) else gI S (3 + s) x) = _
              by_cases d2 : j' ≤ x ∧ x < j' + k'
              · rw [if_pos d2, if_pos (by omega), hI.1.2 r _ hr (by omega)]
                exact congrArg (gI S 67) (by omega)
              · rw [if_neg d2, if_neg (by omega)]
                exact hI.1.2 s x hs hx
            · rw [if_neg (by omega), if_neg (by omega)]
              exact hI.1.2 r' x hr' hx
  exact ⟨hcp, key.1, key.2.1, (inv_rows f1 f2 (by decide) (by decide) key.2.2.1 key.2.2.2 hI).mono (Nat.le_succ n)⟩
