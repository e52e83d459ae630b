-- needs: 40.toss
/-- what the model's heap says of a throw at beast i -/
def TMod (T : HSt) (i : Nat) (far pace wide gait duck lag near sh size spin tick kk : Int32) : Prop := i < 4 ∧ (gI T 68 (24 + 5 * i) = far ∧ gI T 68 (24 + 5 * i + 1) = pace ∧ gI T 68 (24 + 5 * i + 2) = wide ∧ gI T 68 (24 + 5 * i + 3) = gait ∧ gI T 68 (24 + 5 * i + 4) = duck) ∧ (f_X12_horseOf T 64 0 = lag ∧ f_X12_horseOf T 64 1 = near ∧ f_X12_horseOf T 64 2 = sh) ∧ (p_X12_horseOf T 64 0 ∧ p_X12_horseOf T 64 1 ∧ p_X12_horseOf T 64 2) ∧ (gI T 64 20 = size ∧ gI T 64 21 = spin ∧ gI T 64 24 = tick ∧ gI T 64 25 = kk) ∧ (bw far 0 200 ∧ bw pace 0 15 ∧ bw wide 0 100 ∧ bw gait 1 9 ∧ bw duck 0 12) ∧ (bw lag 0 20 ∧ bw near 0 99 ∧ bw sh 0 3) ∧ (bw size 0 200 ∧ bw spin 0 15 ∧ bw tick 0 2000 ∧ Bz kk)
theorem horse_s (T : HSt) (v k : Int32) : f_X12_horseOf (sI T 64 28 v) 64 k = f_X12_horseOf T 64 k := by
  show (F_X12_horseOf (sI T 64 28 v) 64 k).1 = (F_X12_horseOf T 64 k).1
  unfold F_X12_horseOf
  rw [gs_o (by decide), gs_ne (by decide)]
  rfl
theorem TMod.s {T : HSt} {i : Nat} {far pace wide gait duck lag near sh size spin tick kk : Int32} (v : Int32) (h : TMod T i far pace wide gait duck lag near sh size spin tick kk) : TMod (sI T 64 28 v) i far pace wide gait duck lag near sh size spin tick kk := by
  obtain ⟨h1, h2, h3, ⟨q1, q2, q3⟩, h5, h6⟩ := h
  refine ⟨h1, ?_, ?_, ⟨?_, ?_, ?_⟩, ?_, h6⟩
  · rw [gs_ne (by decide)]; exact h2
  · rw [horse_s, horse_s, horse_s]; exact h3
  · intro z; rw [gs_o (by decide)] at z ⊢; exact q1 z
  · intro z; rw [gs_o (by decide)] at z ⊢; exact q2 z
  · intro z; rw [gs_o (by decide)] at z ⊢; exact q3 z
  · rw [gs_o (by decide), gs_o (by decide), gs_o (by decide), gs_o (by decide)]; exact h5
theorem beast_at (T : HSt) {i k : Nat} (hi : i < 4) (hk : k < 5) : f_X12_beast T 64 (nI i) (nI k) = gI T 68 (24 + 5 * i + k) ∧ p_X12_beast T 64 (nI i) (nI k) := by
  have hx : ((24 : Int32) + (5 : Int32) * nI i) + nI k = nI (24 + 5 * i + k) := by
    rw [show (24 : Int32) = nI 24 from rfl, show (5 : Int32) = nI 5 from rfl, pk_mul, nI_add, nI_add]
  constructor
  · show gI T 68 (((24 : Int32) + (5 : Int32) * nI i) + nI k).toNatClampNeg = _
    rw [hx, nI_clamp' (by omega)]
  · show vp_in (((24 : Int32) + (5 : Int32) * nI i) + nI k) 172
    rw [hx]
    exact vp_in_nI (by omega) (by omega)
theorem still_v (T : HSt) : f_X12_isStill T 64 = if gI T 64 25 = 0 then (if gI T 64 20 = 0 then 1 else 0) else 1 := rfl
/-- the model's miss -/
theorem missBy_at {T : HSt} {i : Nat} {far pace wide gait duck lag near sh size spin tick kk : Int32} (h : TMod T i far pace wide gait duck lag near sh size spin tick kk) (e x : Int32) : p_X12_missBy T 64 e (nI i) x ∧ (¬ f_X12_isStill T 64 = 0 → (f_X12_missBy T 64 e (nI i) x).1 = 999 ∧ (f_X12_missBy T 64 e (nI i) x).2 = T) ∧ (f_X12_isStill T 64 = 0 → ¬ mFl (tD far lag near tick) (x - pace) ≤ 30 → (f_X12_missBy T 64 e (nI i) x).1 = 500 ∧ (f_X12_missBy T 64 e (nI i) x).2 = T) ∧ (f_X12_isStill T 64 = 0 → mFl (tD far lag near tick) (x - pace) ≤ 30 → (f_X12_missBy T 64 e (nI i) x).1 = (if 0 ≤ ovF e wide (mFl (tD far lag near tick) (x - pace)) size then -(ovF e wide (mFl (tD far lag near tick) (x - pace)) size) - 1 else -(ovF e wide (mFl (tD far lag near tick) (x - pace)) size)) ∧ (f_X12_missBy T 64 e (nI i) x).2 = sI T 64 28 (mFl (tD far lag near tick) (x - pace))) := by
  obtain ⟨hi, ⟨a0, a1, a2, a3, a4⟩, ⟨b0, b1, b2⟩, ⟨q0, q1, q2⟩, ⟨c0, c1, c4, c5⟩, -⟩ := h
  have B : ∀ (U : HSt) k, k < 5 → f_X12_beast U 64 (nI i) (nI k) = gI U 68 (24 + 5 * i + k) ∧ p_X12_beast U 64 (nI i) (nI k) := fun U k hk => beast_at U hi hk
  have B0 := B T 0 (by decide)
  have B1 := B T 1 (by decide)
  have B2 : ∀ U : HSt, _ := fun U => B U 2 (by decide)
  rw [show nI 0 = (0 : Int32) from rfl] at B0
  rw [show nI 1 = (1 : Int32) from rfl] at B1
  rw [show nI 2 = (2 : Int32) from rfl] at B2
  refine ⟨⟨fun _ => q1, fun _ => B0.2, fun _ _ => B0.2, fun _ _ => q1, fun _ x3 _ => B0.2, fun _ x3 _ => q0, fun _ x3 _ x4 _ x6 _ => B1.2, fun _ x3 _ x4 _ x6 _ x7 _ z q => ?_, fun _ x3 _ x4 _ x6 _ x7 _ x11 _ x13 _ _ S15 _ _ => (B2 S15).2, fun _ x3 _ x4 _ x6 _ x7 _ x11 _ x13 _ _ S15 _ _ => (B2 S15).2⟩, ?_⟩
  · rw [q] at z; exact z (by decide)
  unfold f_X12_missBy
  simp only [bd_def]
  rw [B0.1, B1.1, b0, b1, c4, show 24 + 5 * i + 0 = 24 + 5 * i from rfl, a0, a1, tD_eq]
  refine ⟨fun z => ?_, fun z y => ?_, fun z y => ?_⟩
  · rw [if_neg z, pr_1, pr_2]; exact ⟨rfl, rfl⟩
  · rw [if_pos z]
    have y' : ¬ (if (1 : Int32) ≤ (if x - pace ≤ 0 then (if x - pace = 0 then (if tD far lag near tick = 0 then (1 : Int32) else 31) else 31) else (tD far lag near tick + (x - pace) - 1) / (x - pace)) then (if x - pace ≤ 0 then (if x - pace = 0 then (if tD far lag near tick = 0 then (1 : Int32) else 31) else 31) else (tD far lag near tick + (x - pace) - 1) / (x - pace)) else 1) ≤ 30 := y
    rw [if_neg y', pr_1, pr_2]
    exact ⟨rfl, rfl⟩
  · rw [if_pos z]
    have ey : (if (1 : Int32) ≤ (if x - pace ≤ 0 then (if x - pace = 0 then (if tD far lag near tick = 0 then (1 : Int32) else 31) else 31) else (tD far lag near tick + (x - pace) - 1) / (x - pace)) then (if x - pace ≤ 0 then (if x - pace = 0 then (if tD far lag near tick = 0 then (1 : Int32) else 31) else 31) else (tD far lag near tick + (x - pace) - 1) / (x - pace)) else 1) = mFl (tD far lag near tick) (x - pace) := rfl
    rw [ey, if_pos y, pr_1, pr_2, (B2 _).1, gs_o (show 20 ≠ 28 by decide), gs_ne (show 68 ≠ 64 by decide), c0, a2]
    exact ⟨rfl, rfl⟩
/-- what one spin adds -/
def addF (e D pace wide gait duck size x : Int32) : Int32 := if mFl D (x - pace) ≤ 30 then (if 0 ≤ ovF e wide (mFl D (x - pace)) size then o12 e gait duck (mFl D (x - pace)) else 0) else 0
theorem neg_le {x : Int32} (h : bw x (-1000) 1000) : ((if 0 ≤ x then -x - 1 else -x) ≤ 0) ↔ 0 ≤ x := by
  obtain ⟨h1, h2⟩ := h
  have tn : (-x).toInt = -x.toInt := ti_neg (by omega)
  have tm : (-x - 1).toInt = -x.toInt - 1 := by rw [ti_sub (by rw [tn, ti1]; omega) (by rw [tn, ti1]; omega), tn, ti1]
  by_cases c : 0 ≤ x
  · rw [if_pos c]
    refine ⟨fun _ => c, fun _ => ?_⟩
    rw [ti_le, ti0] at c
    rw [ti_le, ti0, tm]
    omega
  · rw [if_neg c]
    refine ⟨fun q => ?_, fun q => absurd q c⟩
    rw [ti_le, ti0, tn] at q
    rw [ti_le, ti0] at c
    omega
theorem mFl_bw {D g : Int32} (h : mFl D g ≤ 30) : bw (mFl D g) 0 30 := by
  rw [ti_le, show (30 : Int32).toInt = 30 from rfl] at h
  refine ⟨?_, h⟩
  unfold mFl
  by_cases c : 1 ≤ mF0 D g
  · rw [if_pos c]; rw [ti_le, ti1] at c; omega
  · rw [if_neg c]; decide
theorem ov_bw {e wd t size : Int32} (h1 : bw wd 0 100) (h2 : bw t 0 30) (h3 : bw size 0 200) : bw (ovF e wd t size) (-1000) 1000 := by
  obtain ⟨a1, a2⟩ := sz_bw (e := e) h1 h2
  obtain ⟨b1, b2⟩ := h3
  unfold bw
  rw [ov_sz, ti_sub (by omega) (by omega)]
  omega
theorem still_c {T : HSt} (h : f_X12_isStill T 64 = 0) : f_X12_isStill T 64 = 0 := h
theorem odds_at {T : HSt} {i : Nat} {far pace wide gait duck lag near sh size spin tick kk : Int32} (h : TMod T i far pace wide gait duck lag near sh size spin tick kk) (e x : Int32) : p_X12_oddsBy T 64 e (nI i) x ∧ (f_X12_oddsBy T 64 e (nI i) x).1 = (if f_X12_isStill T 64 = 0 then addF e (tD far lag near tick) pace wide gait duck size x else 0) ∧ ((f_X12_oddsBy T 64 e (nI i) x).2 = T ∨ ∃ v, (f_X12_oddsBy T 64 e (nI i) x).2 = sI T 64 28 v) := by
  obtain ⟨m0, m1, m2, m3⟩ := missBy_at h e x
  obtain ⟨hi, ⟨a0, a1, a2, a3, a4⟩, -, -, -, ⟨-, -, w2, w3, -⟩, -, ⟨z0, -⟩⟩ := h
  have B3 : ∀ U : HSt, _ := fun U => beast_at U (k := 3) hi (by decide)
  have B4 : ∀ U : HSt, _ := fun U => beast_at U (k := 4) hi (by decide)
  rw [show nI 3 = (3 : Int32) from rfl] at B3
  rw [show nI 4 = (4 : Int32) from rfl] at B4
  have h68 : gI (f_X12_missBy T 64 e (nI i) x).2 68 = gI T 68 := by
    by_cases c : f_X12_isStill T 64 = 0
    · by_cases d : mFl (tD far lag near tick) (x - pace) ≤ 30
      · rw [(m3 c d).2, gs_ne (by decide)]
      · rw [(m2 c d).2]
    · rw [(m1 c).2]
  refine ⟨⟨m0, fun r hr _ _ => (B3 _).2, fun r hr _ _ q => ?_, fun r hr _ _ => (B4 _).2⟩, ?_⟩
  · rw [← hr, (B3 _).1, h68, a3] at q
    rw [q] at w3
    exact absurd w3.1 (by decide)
  unfold f_X12_oddsBy
  rw [bd_def, (B3 _).1, (B4 _).1, h68, a3, a4]
  unfold addF
  by_cases c : f_X12_isStill T 64 = 0
  · rw [if_pos c]
    by_cases d : mFl (tD far lag near tick) (x - pace) ≤ 30
    · rw [if_pos d, (m3 c d).1, (m3 c d).2]
      have hn := neg_le (ov_bw (e := e) w2 (mFl_bw d) z0)
      by_cases q : 0 ≤ ovF e wide (mFl (tD far lag near tick) (x - pace)) size
      · rw [if_pos q, if_pos (by have := hn.mpr q; rw [if_pos q] at this; exact this), bd_def, pr_1, pr_2, gs_eq, if_pos rfl, if_pos q]
        exact ⟨rfl, Or.inr ⟨_, rfl⟩⟩
      · rw [if_neg q, if_neg (fun y => q (hn.mp (by rw [if_neg q]; exact y))), pr_1, pr_2, if_neg q]
        exact ⟨rfl, Or.inr ⟨_, rfl⟩⟩
    · rw [if_neg d, (m2 c d).1, (m2 c d).2, if_neg (by decide), pr_1, pr_2]
      exact ⟨rfl, Or.inl rfl⟩
  · rw [if_neg c, (m1 c).1, (m1 c).2, if_neg (by decide), pr_1, pr_2]
    exact ⟨rfl, Or.inl rfl⟩
