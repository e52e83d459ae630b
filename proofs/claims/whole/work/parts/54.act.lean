-- needs: 48.rg
/-! ===== an act of a run, on both sides ===== -/
theorem odds_le {T : HSt} {i : Nat} {e far pace wide gait duck lag near sh size spin tick kk : Int32} (h : TMod T i far pace wide gait duck lag near sh size spin tick kk) : 0 ≤ (f_X12_oddsOf T 64 e (nI i)).1.toInt ∧ (f_X12_oddsOf T 64 e (nI i)).1.toInt ≤ (12 * (2 * sh + 1) : Int32).toInt := by
  have h' := h
  obtain ⟨-, -, ⟨-, -, b2⟩, -, ⟨-, c1, -, -⟩, -, ⟨-, -, l2⟩, -, z1, -, -⟩ := h'
  have l2a := l2.1
  have l2b := l2.2
  have z1a := z1.1
  have z1b := z1.2
  have tn : (spin - sh).toInt = spin.toInt + -sh.toInt := by rw [ti_sub (by omega) (by omega)]; omega
  obtain ⟨i1, i2⟩ := odds_L (e := e) 1000 T 0 (spin - sh) (-sh.toInt) 0 h tn (by omega) (by omega) (by omega) (by decide) (by decide) (by omega)
  have e1 : (f_X12_oddsOf T 64 e (nI i)).1 = (L_X12_oddsOf_17 1000 T e (nI i) sh 0 (spin - sh)).2.2.2.1 := by
    unfold f_X12_oddsOf
    simp only [bd_def]
    rw [pr_1, b2, c1]
  have t2 : (2 * sh).toInt = 2 * sh.toInt := ti_mul (by rw [show (2 : Int32).toInt = 2 from rfl]; omega) (by rw [show (2 : Int32).toInt = 2 from rfl]; omega)
  have t3 : (2 * sh + 1).toInt = 2 * sh.toInt + 1 := by rw [ti_add (by rw [t2, ti1]; omega) (by rw [t2, ti1]; omega), t2, ti1]
  have t12 : (12 : Int32).toInt = 12 := rfl
  rw [e1, ti_mul (by rw [t3, t12]; omega) (by rw [t3, t12]; omega), t3, t12]
  exact ⟨i1, by omega⟩
/-- both parts of a fraction, by the same divisor -/
theorem low_two (T : HSt) {a b : Int64} (ha : 0 ≤ a.toInt) (hab : a.toInt ≤ b.toInt) (hb : 0 < b.toInt) (hk : b.toInt < 2 ^ 48) : 0 ≤ (f_X12_partOf T a b 0).toInt ∧ (f_X12_partOf T a b 0).toInt ≤ (f_X12_partOf T a b 1).toInt ∧ 0 < (f_X12_partOf T a b 1).toInt := by
  obtain ⟨i1, i2, i3, i4, -⟩ := cd_L T T a b 48 1000 0 a b ha (Int.le_of_lt hb) hk (by omega) (by omega)
  obtain ⟨i5, i6⟩ := i4 hb
  have e2 : f_X12_common T a b = (L_X12_common_6 1000 T a b a b).2.2.1 := rfl
  generalize (L_X12_common_6 1000 T a b a b).2.2.1 = g at e2 i5 i6
  have e0 : f_X12_partOf T a b 0 = a / g := by
    show (F_X12_partOf T a b 0).1 = _
    unfold F_X12_partOf
    rw [bd_def, pr_1, e2, if_pos rfl]
  have e1 : f_X12_partOf T a b 1 = b / g := by
    show (F_X12_partOf T a b 1).1 = _
    unfold F_X12_partOf
    rw [bd_def, pr_1, e2, if_neg one_ne]
  have hg : g ≠ -1 := fun q => by rw [q] at i5; exact absurd i5 (by decide)
  rw [e0, e1, tj_div hg, tj_div hg, Int.tdiv_eq_ediv_of_nonneg ha, Int.tdiv_eq_ediv_of_nonneg (Int.le_of_lt hb)]
  refine ⟨Int.ediv_nonneg ha (Int.le_of_lt i5), Int.ediv_le_ediv i5 hab, ?_⟩
  exact Int.lt_of_lt_of_le (by omega) (Int.le_ediv_of_mul_le (c := g.toInt) (a := 1) i5 (by omega))
/-- the fraction that is kept -/
def FI (S : HSt) : Prop := Bz (gI S 35 7) ∧ (gI S 35 7 = 0 → 0 ≤ (gJ S 35 5).toInt ∧ (gJ S 35 5).toInt ≤ (gJ S 35 6).toInt ∧ 0 < (gJ S 35 6).toInt ∧ (gJ S 35 6).toInt ≤ 1000000000000)
theorem mul84 {a b : Int} (h1 : 0 ≤ a) (h2 : a ≤ 1000000000000) (h3 : 0 ≤ b) (h4 : b ≤ 84) : 0 ≤ a * b ∧ a * b ≤ 84000000000000 := by
  refine ⟨Int.mul_nonneg h1 h3, ?_⟩
  have := Int.mul_le_mul h2 h4 h3 (by omega)
  omega
theorem t1e12 : (1000000000000 : Int64).toInt = 1000000000000 := rfl
theorem mult_at {S : HSt} (hF : FI S) {s w : Int32} (h0 : 0 ≤ s.toInt) (h1 : s.toInt ≤ w.toInt) (hw : bw w 12 84) : p_X6_multiply S 35 s.toInt64 w.toInt64 ∧ FI (f_X6_multiply S 35 s.toInt64 w.toInt64) ∧ (gI S 35 7 = 0 → ∀ T : HSt, gJ (f_X6_multiply S 35 s.toInt64 w.toInt64) 35 5 = f_X12_partOf T (gJ S 35 5 * s.toInt64) (gJ S 35 6 * w.toInt64) 0 ∧ gJ (f_X6_multiply S 35 s.toInt64 w.toInt64) 35 6 = f_X12_partOf T (gJ S 35 5 * s.toInt64) (gJ S 35 6 * w.toInt64) 1 ∧ gI (f_X6_multiply S 35 s.toInt64 w.toInt64) 35 7 = (if lg_cmp (f_X12_partOf T (gJ S 35 5 * s.toInt64) (gJ S 35 6 * w.toInt64) 1) (1000000000000 : Int64) ≤ 0 then 0 else 1) ∧ p_X12_partOf T (gJ S 35 5 * s.toInt64) (gJ S 35 6 * w.toInt64) 0 ∧ p_X12_partOf T (gJ S 35 5 * s.toInt64) (gJ S 35 6 * w.toInt64) 1) ∧ (¬ gI S 35 7 = 0 → f_X6_multiply S 35 s.toInt64 w.toInt64 = S) := by
  obtain ⟨hz, hf⟩ := hF
  have w1 := hw.1
  have w2 := hw.2
  by_cases c : gI S 35 7 = 0
  · obtain ⟨f1, f2, f3, f4⟩ := hf c
    obtain ⟨m1, m2⟩ := mul84 f1 (by omega) h0 (by omega)
    obtain ⟨m3, m4⟩ := mul84 (Int.le_of_lt f3) f4 (show 0 ≤ w.toInt by omega) (by omega)
    have ta : (gJ S 35 5 * s.toInt64).toInt = (gJ S 35 5).toInt * s.toInt := by rw [tj_mul (by rw [tj_32]; omega) (by rw [tj_32]; omega), tj_32]
    have tb : (gJ S 35 6 * w.toInt64).toInt = (gJ S 35 6).toInt * w.toInt := by rw [tj_mul (by rw [tj_32]; omega) (by rw [tj_32]; omega), tj_32]
    have hle : (gJ S 35 5).toInt * s.toInt ≤ (gJ S 35 6).toInt * w.toInt := Int.mul_le_mul f2 h1 h0 (by omega)
    have hpos : 0 < (gJ S 35 6).toInt * w.toInt := Int.mul_pos f3 (by omega)
    have L0 := fun (U T : HSt) => low_eq U T (a := gJ S 35 5 * s.toInt64) (b := gJ S 35 6 * w.toInt64) (by rw [ta]; omega) (by rw [tb]; omega) (by rw [tb]; omega) 0
    have L1 := fun (U T : HSt) => low_eq U T (a := gJ S 35 5 * s.toInt64) (b := gJ S 35 6 * w.toInt64) (by rw [ta]; omega) (by rw [tb]; omega) (by rw [tb]; omega) 1
    have two := fun T : HSt => low_two T (a := gJ S 35 5 * s.toInt64) (b := gJ S 35 6 * w.toInt64) (by rw [ta]; omega) (by rw [ta, tb]; omega) (by rw [tb]; omega) (by rw [tb]; omega)
    have e : f_X6_multiply S 35 s.toInt64 w.toInt64 = sI (sJ (sJ S 35 5 (f_X12_partOf S (gJ S 35 5 * s.toInt64) (gJ S 35 6 * w.toInt64) 0)) 35 6 (f_X12_partOf S (gJ S 35 5 * s.toInt64) (gJ S 35 6 * w.toInt64) 1)) 35 7 (if lg_cmp (f_X12_partOf S (gJ S 35 5 * s.toInt64) (gJ S 35 6 * w.toInt64) 1) (1000000000000 : Int64) ≤ 0 then 0 else 1) := by
      unfold f_X6_multiply
      simp only [bd_def]
      rw [if_pos c, (L0 S S).2.2.1, (L1 _ S).2.2.1, gJ_sJ, if_pos rfl, if_pos rfl]
    have hi : ∀ T : HSt, f_X12_partOf S (gJ S 35 5 * s.toInt64) (gJ S 35 6 * w.toInt64) 0 = f_X12_partOf T (gJ S 35 5 * s.toInt64) (gJ S 35 6 * w.toInt64) 0 ∧ f_X12_partOf S (gJ S 35 5 * s.toInt64) (gJ S 35 6 * w.toInt64) 1 = f_X12_partOf T (gJ S 35 5 * s.toInt64) (gJ S 35 6 * w.toInt64) 1 := fun T => ⟨(L0 S S).2.2.1.symm.trans (L0 S T).2.2.1, (L1 S S).2.2.1.symm.trans (L1 S T).2.2.1⟩
    have two' := two S
    refine ⟨⟨fun _ x2 e2 x3 e3 => ?_, fun _ x2 e2 x3 e3 S4 _ => ?_⟩, ?_, fun _ T => ⟨?_, ?_, ?_, (L0 S T).2.1, (L1 S T).2.1⟩, fun q => absurd c q⟩
    · rw [← e2, ← e3]; exact (L0 S S).1
    · rw [← e2, ← e3]; exact (L1 S4 S).1
    · rw [e]
      refine ⟨?_, fun q => ?_⟩
      · rw [gs_eq, if_pos rfl]
        by_cases d : lg_cmp (f_X12_partOf S (gJ S 35 5 * s.toInt64) (gJ S 35 6 * w.toInt64) 1) (1000000000000 : Int64) ≤ 0
        · rw [if_pos d]; exact Or.inl rfl
        · rw [if_neg d]; exact Or.inr rfl
      · rw [gs_eq, if_pos rfl] at q
        have d : lg_cmp (f_X12_partOf S (gJ S 35 5 * s.toInt64) (gJ S 35 6 * w.toInt64) 1) (1000000000000 : Int64) ≤ 0 := by
          refine Classical.byContradiction fun d => ?_
          rw [if_neg d] at q
          exact absurd q one_ne
        have d2 : ¬ (1000000000000 : Int64) < f_X12_partOf S (gJ S 35 5 * s.toInt64) (gJ S 35 6 * w.toInt64) 1 := fun z => by
          have := (lgc_gt _ _).mpr z
          rw [ti_lt] at this
          rw [ti_le] at d
          omega
        rw [tj_lt, t1e12] at d2
        rw [gJ_sI, gJ_sJ, gJ_sJ, gJ_sJ, if_pos rfl, if_neg (by decide), if_pos rfl, if_pos rfl, if_pos rfl, if_pos rfl]
        exact ⟨two'.1, two'.2.1, two'.2.2, by omega⟩
    · rw [e, gJ_sI, gJ_sJ, if_pos rfl, if_neg (by decide), gJ_sJ, if_pos rfl, if_pos rfl]; exact (hi T).1
    · rw [e, gJ_sI, gJ_sJ, if_pos rfl, if_pos rfl]; exact (hi T).2
    · rw [e, gs_eq, if_pos rfl, (hi T).2]
  · have e : f_X6_multiply S 35 s.toInt64 w.toInt64 = S := by
      unfold f_X6_multiply
      rw [if_neg c]
    rw [e]
    exact ⟨⟨fun q => absurd q c, fun q => absurd q c⟩, ⟨hz, hf⟩, fun q => absurd q c, fun _ => rfl⟩
/-- what is counted for a throw, on both sides -/
theorem FI.of {S S' : HSt} (h1 : gI S' 35 7 = gI S 35 7) (h2 : gJ S' = gJ S) (hF : FI S) : FI S' := by
  unfold FI
  rw [h1, h2]
  exact hF
theorem likely_v (S : HSt) (o : Nat) : f_X9_isLikely S o = if (2 : Int32) * gI S o 2 < gI S o 3 then 0 else 1 := rfl
theorem points_at {S T : HSt} (hW : WayR (gI S 20) (gI S 21) (gI T 68)) {a e : Int32} (tick : Int32) (hae : (a = 0 ∧ e = 0) ∨ (a = 1 ∧ e = 1)) (lk : Int32) : p_X10_pointsFor S 19 a tick lk ∧ f_X10_pointsFor S 19 a tick lk = (if tick ≤ gI T 68 68 then (if lk = 0 then -(gI T 68 71) else gI T 68 ((68 : Int32) + (if e = 0 then 1 else 2)).toNatClampNeg) else 0) := by
  have V : ∀ f, f < 4 → f_X10_value S 19 4 0 (nI f) = gI T 68 (68 + f) := fun f hf => (val_at S 19 (s := 4) (i := 0) (f := f) (by decide) (by decide) (by omega)).trans (hW.2.2.2.2.2.1 f hf)
  have V0 : f_X10_value S 19 4 0 0 = gI T 68 68 := V 0 (by decide)
  have V1 : f_X10_value S 19 4 0 1 = gI T 68 69 := V 1 (by decide)
  have V2 : f_X10_value S 19 4 0 2 = gI T 68 70 := V 2 (by decide)
  have V3 : f_X10_value S 19 4 0 3 = gI T 68 71 := V 3 (by decide)
  refine ⟨⟨p_val _ _ _ _ _, fun _ _ _ _ => p_val _ _ _ _ _, fun _ _ => p_val _ _ _ _ _⟩, ?_⟩
  show (F_X10_pointsFor S 19 a tick lk).1 = _
  unfold F_X10_pointsFor
  rw [V0, V3]
  by_cases c : tick ≤ gI T 68 68
  · rw [if_pos c, if_pos c]
    by_cases d : lk = 0
    · rw [if_pos d, if_pos d, pr_1]
    · rw [if_neg d, if_neg d, bd_def, pr_1]
      rcases hae with ⟨rfl, rfl⟩ | ⟨rfl, rfl⟩
      · rw [if_pos rfl, V1]; rfl
      · rw [if_neg one_ne, V2]; rfl
  · rw [if_neg c, if_neg c, pr_1]
/-- the model's count -/
theorem counts_at {T : HSt} {i : Nat} {far pace wide gait duck lag near sh size spin tick kk : Int32} (h : TMod T i far pace wide gait duck lag near sh size spin tick kk) {e : Int32} (he : e = 0 ∨ e = 1) (hp : p_X12_oddsOf T 64 e (nI i)) (hm : TMod (f_X12_oddsOf T 64 e (nI i)).2 i far pace wide gait duck lag near sh size spin tick kk) : p_X12_counts T 64 e (nI i) ∧ (f_X12_counts T 64 e (nI i)).1 = (if tick ≤ gI T 68 68 then (if (2 : Int32) * (f_X12_oddsOf T 64 e (nI i)).1 < 12 * (2 * sh + 1) then -(gI T 68 71) else gI T 68 ((68 : Int32) + (if e = 0 then 1 else 2)).toNatClampNeg) else 0) := by
  have f := v_X12_oddsOf T 64 e (nI i)
  have f68 : gI (f_X12_oddsOf T 64 e (nI i)).2 68 = gI T 68 := fr_addr f 68 (by decide)
  have ha : f_X12_allOdds (f_X12_oddsOf T 64 e (nI i)).2 64 = 12 * (2 * sh + 1) := by rw [allOdds_v, hm.2.2.1.2.2]
  refine ⟨⟨fun _ => hp, fun _ r er => ?_, fun _ r er _ x ex => ?_⟩, ?_⟩
  · rw [← er]; exact hm.2.2.2.1.2.2
  · rw [← ex]
    rcases he with rfl | rfl
    · rw [if_pos rfl]; exact vp_in_iff.mpr ⟨by decide, by decide⟩
    · rw [if_neg one_ne]; exact vp_in_iff.mpr ⟨by decide, by decide⟩
  · have c4 : gI T 64 24 = tick := h.2.2.2.2.1.2.2.1
    unfold f_X12_counts
    simp only [bd_def]
    rw [c4, show (68 : Int32).toNatClampNeg = 68 from rfl, show (71 : Int32).toNatClampNeg = 71 from rfl, ha, f68]
    by_cases c : tick ≤ gI T 68 68
    · rw [if_pos c, if_pos c, pr_1]
    · rw [if_neg c, if_neg c, pr_1]
