-- needs: 79.band
/-! ===== fewest: add ===== -/
/-- the sizes that a band at l brings -/
def nwZ (l : Int) (band : Int64) (z : Nat) : Bool := decide (1 ≤ z) && (decide (l ≤ z) && b64 band ((z : Int) - l).toNat)
/-- from, and the bits behind it -/
def adF (a3 : Int32) : Int32 := if (0 : Int32) < a3 then a3 else 0
def adB (a3 : Int32) (a4 : Int64) : Int64 := if adF a3 = 0 then ((if a3 < 0 then (if a3 ≤ (-20 : Int32) then (0 : Int64) else ((a4.toUInt64 >>> ((-a3).toInt64.toUInt64 &&& Int64.toUInt64 63)).toInt64)) else a4) &&& (-2 : Int64)) else (if a3 < 0 then (if a3 ≤ (-20 : Int32) then (0 : Int64) else ((a4.toUInt64 >>> ((-a3).toInt64.toUInt64 &&& Int64.toUInt64 63)).toInt64)) else a4)
theorem add_eq (S : HSt) (h nx r : Nat) (a2 a3 : Int32) (a4 : Int64) : f_X3_add S h nx 88 r a2 a3 a4 = if 0 < gI S 88 3 - adF a3 then (if (20 : Int32) ≤ gI S 88 3 - adF a3 then addT S r a2 (adF a3) (adB a3 a4) else (if lg_cmp (((adB a3 a4).toUInt64 >>> ((gI S 88 3 - adF a3).toInt64.toUInt64 &&& Int64.toUInt64 63)).toInt64) 0 = 0 then addT S r a2 (adF a3) (adB a3 a4) else sI S 88 4 1)) else (if lg_cmp (adB a3 a4) 0 = 0 then addT S r a2 (adF a3) (adB a3 a4) else sI S 88 4 1) := by
  unfold f_X3_add addT adB adF
  rfl
theorem adF_v {a3 : Int32} : adF a3 = nI (a3.toInt.toNat) := by
  unfold adF
  by_cases q : (0 : Int32) < a3
  · rw [if_pos q, ti_eq]
    rw [ti_lt, ti0] at q
    have := a3.toInt_lt
    rw [nI_ti (by omega)]; omega
  · rw [if_neg q]
    rw [ti_lt, ti0] at q
    rw [show a3.toInt.toNat = 0 by omega]; rfl
theorem adB_v {a3 : Int32} {a4 : Int64} (h1 : -1000 ≤ a3.toInt) (h2 : a3.toInt < 256) (hb : ∀ j, 20 ≤ j → b64 a4 j = false) : (∀ j, 20 ≤ j → b64 (adB a3 a4) j = false) ∧ ∀ z : Nat, a3.toInt.toNat ≤ z → b64 (adB a3 a4) (z - a3.toInt.toNat) = nwZ a3.toInt a4 z := by
  have hF := adF_v (a3 := a3)
  have e20 : (-20 : Int32).toInt = -20 := rfl
  by_cases q : 0 < a3.toInt
  · -- above
    have n0 : ¬ adF a3 = 0 := by
      rw [hF, ti_eq, ti0, nI_ti (by omega)]; omega
    have nn : ¬ a3 < 0 := by rw [ti_lt, ti0]; omega
    have e : adB a3 a4 = a4 := by unfold adB; rw [if_neg n0, if_neg nn]
    rw [e]
    refine ⟨hb, fun z hz => ?_⟩
    unfold nwZ
    have g1 : 1 ≤ z := by omega
    have g2 : a3.toInt ≤ z := by omega
    have g3 : ((z : Int) - a3.toInt).toNat = z - a3.toInt.toNat := by omega
    simp [g1, g2, g3]
  · have e0 : adF a3 = 0 := by rw [hF, show a3.toInt.toNat = 0 by omega]; rfl
    have ez : a3.toInt.toNat = 0 := by omega
    rw [ez]
    by_cases q2 : a3.toInt = 0
    · have nn : ¬ a3 < 0 := by rw [ti_lt, ti0]; omega
      have e : adB a3 a4 = a4 &&& (-2 : Int64) := by unfold adB; rw [if_pos e0, if_neg nn]
      rw [e]
      constructor
      · intro j hj; rw [bq_and, hb j hj, Bool.false_and]
      · intro z _
        unfold nwZ
        rw [q2, bq_and]
        by_cases hz : z < 64
        · have g2 : (0 : Int) ≤ z := by omega
          rw [Nat.sub_zero, b_m2 z hz]
          by_cases g1 : 1 ≤ z
          · simp [g1]
          · simp [g1]
        · rw [Nat.sub_zero, b_big a4 (by omega), Bool.false_and]
          have : ((z : Int) - 0).toNat = z := by omega
          rw [this, b_big a4 (by omega)]; simp
    · have nn : a3 < 0 := by rw [ti_lt, ti0]; omega
      by_cases q3 : a3.toInt ≤ -20
      · have e : adB a3 a4 = 0 &&& (-2 : Int64) := by unfold adB; rw [if_pos e0, if_pos nn, if_pos (by rw [ti_le, e20]; exact q3)]
        rw [e]
        constructor
        · intro j hj; rw [bq_and, b_zero, Bool.false_and]
        · intro z _
          unfold nwZ
          rw [bq_and, b_zero, Bool.false_and, hb _ (by omega)]
          simp
      · obtain ⟨m, hm, em⟩ : ∃ m, m < 20 ∧ -a3 = nI m := by
          have : (-a3).toInt = -a3.toInt := ti_neg (by omega)
          exact nI_of_bw (n := 20) (by omega) (by omega) (by omega)
        have hmv : (m : Int) = -a3.toInt := by
          have := congrArg Int32.toInt em
          rw [nI_ti (by omega), ti_neg (by omega)] at this
          omega
        have e : adB a3 a4 = ((a4.toUInt64 >>> ((nI m).toInt64.toUInt64 &&& Int64.toUInt64 63)).toInt64) &&& (-2 : Int64) := by
          unfold adB
          rw [if_pos e0, if_pos nn, if_neg (by rw [ti_le, e20]; exact q3), em]
        rw [e]
        constructor
        · intro j hj; rw [bq_and, bq_shr _ (by omega), hb _ (by omega), Bool.false_and]
        · intro z _
          unfold nwZ
          rw [bq_and, bq_shr _ (by omega), Nat.sub_zero]
          have g3 : ((z : Int) - a3.toInt).toNat = m + z := by omega
          have g2 : a3.toInt ≤ z := by omega
          rw [g3]
          by_cases hz : z < 64
          · rw [b_m2 z hz]
            by_cases g1 : 1 ≤ z
            · simp [g1, g2]
            · simp [g1]
          · rw [hb (m + z) (by omega)]; simp
theorem p_add (S : HSt) (h nx r : Nat) {a : Nat} {a3 : Int32} (a4 : Int64) (ha : a + 4 ≤ 11584) (h2 : a3.toInt < 256) : p_X3_add S h nx 88 r (nI a) a3 a4 := by
  have hF := adF_v (a3 := a3)
  have k1 : ∀ x1 x11 : Int32, (if (0 : Int32) < a3 then a3 else (0 : Int32)) = x1 → x1 / (64 : Int32) = x11 → ¬ (4 : Int32) ≤ x11 → vp_in (nI a + x11) 11584 := fun x1 x11 e1 e2 q => by
    have e1' : adF a3 = x1 := e1
    rw [← e1', hF, nI_d64 (by omega)] at e2
    rw [← e2, le4 (by omega)] at q
    rw [← e2, nI_add]; exact vp_in_nI (by omega) (by omega)
  have k2 : ∀ x1 x11 : Int32, (if (0 : Int32) < a3 then a3 else (0 : Int32)) = x1 → x1 / (64 : Int32) = x11 → ¬ (4 : Int32) ≤ x11 + 1 → vp_in (nI a + x11 + 1) 11584 := fun x1 x11 e1 e2 q => by
    have e1' : adF a3 = x1 := e1
    rw [← e1', hF, nI_d64 (by omega)] at e2
    rw [← e2, ← nI_succ, le4 (by omega)] at q
    rw [← e2, nI_add, ← nI_succ]; exact vp_in_nI (by omega) (by omega)
  exact ⟨fun x1 e1 x4 _ x7 _ x8 _ _ _ x11 e11 x12 _ q => k1 x1 x11 e1 e11 q, fun x1 e1 x4 _ x7 _ x8 _ _ _ x11 e11 x12 _ q => k1 x1 x11 e1 e11 q, fun x1 e1 x4 _ x7 _ x8 _ _ _ x11 e11 x12 _ _ _ _ q => k2 x1 x11 e1 e11 q, fun x1 e1 x4 _ x7 _ x8 _ _ _ x11 e11 x12 _ _ _ _ q => k2 x1 x11 e1 e11 q, fun x1 e1 x4 _ x7 _ x8 _ _ _ _ x11 e11 x12 _ q => k1 x1 x11 e1 e11 q, fun x1 e1 x4 _ x7 _ x8 _ _ _ _ x11 e11 x12 _ q => k1 x1 x11 e1 e11 q, fun x1 e1 x4 _ x7 _ x8 _ _ _ _ x11 e11 x12 _ _ _ _ q => k2 x1 x11 e1 e11 q, fun x1 e1 x4 _ x7 _ x8 _ _ _ _ x11 e11 x12 _ _ _ _ q => k2 x1 x11 e1 e11 q, fun x1 e1 x4 _ x7 _ x8 _ _ _ x11 e11 x12 _ q => k1 x1 x11 e1 e11 q, fun x1 e1 x4 _ x7 _ x8 _ _ _ x11 e11 x12 _ q => k1 x1 x11 e1 e11 q, fun x1 e1 x4 _ x7 _ x8 _ _ _ x11 e11 x12 _ _ _ _ q => k2 x1 x11 e1 e11 q, fun x1 e1 x4 _ x7 _ x8 _ _ _ x11 e11 x12 _ _ _ _ q => k2 x1 x11 e1 e11 q⟩
theorem addJ_at (S : HSt) (h nx r : Nat) {a wa : Nat} {a3 : Int32} {a4 : Int64} (ha : a + 4 ≤ 11584) (h1 : -1000 ≤ a3.toInt) (h2 : a3.toInt < 256) (hb : ∀ j, 20 ≤ j → b64 a4 j = false) (hw : gI S 88 3 = nI wa) (hwa : wa ≤ 200) : ((∃ z, wa ≤ z ∧ nwZ a3.toInt a4 z = true) → f_X3_add S h nx 88 r (nI a) a3 a4 = sI S 88 4 1) ∧ ((∀ z, wa ≤ z → nwZ a3.toInt a4 z = false) → gI (f_X3_add S h nx 88 r (nI a) a3 a4) = gI S ∧ (∀ x, x ≠ r → gJ (f_X3_add S h nx 88 r (nI a) a3 a4) x = gJ S x) ∧ (∀ i, ¬ (a ≤ i ∧ i < a + 4) → gJ (f_X3_add S h nx 88 r (nI a) a3 a4) r i = gJ S r i) ∧ (∀ z, z < 256 → inJ (gJ (f_X3_add S h nx 88 r (nI a) a3 a4) r) a z = (inJ (gJ S r) a z || nwZ a3.toInt a4 z))) := by
  obtain ⟨v1, v2⟩ := adB_v h1 h2 hb
  have hF := adF_v (a3 := a3)
  have hf : a3.toInt.toNat < 256 := by omega
  have ex8 : (gI S 88 3 - adF a3).toInt = (wa : Int) - a3.toInt.toNat := by
    rw [hw, hF, ti_sub (by rw [nI_ti (by omega), nI_ti (by omega)]; omega) (by rw [nI_ti (by omega), nI_ti (by omega)]; omega), nI_ti (by omega), nI_ti (by omega)]
  -- the hit
  have hlow : ∀ z : Nat, z < a3.toInt.toNat → nwZ a3.toInt a4 z = false := fun z hz => by
    unfold nwZ
    have : ¬ a3.toInt ≤ z := by omega
    simp [this]
  have hcase : (f_X3_add S h nx 88 r (nI a) a3 a4 = addT S r (nI a) (adF a3) (adB a3 a4) ∧ ∀ z, wa ≤ z → nwZ a3.toInt a4 z = false) ∨ (f_X3_add S h nx 88 r (nI a) a3 a4 = sI S 88 4 1 ∧ ∃ z, wa ≤ z ∧ nwZ a3.toInt a4 z = true) := by
    rw [add_eq]
    by_cases q1 : 0 < gI S 88 3 - adF a3
    · rw [if_pos q1]
      rw [ti_lt, ti0, ex8] at q1
      by_cases q2 : (20 : Int32) ≤ gI S 88 3 - adF a3
      · rw [if_pos q2]
        rw [ti_le, ex8, show (20 : Int32).toInt = 20 from rfl] at q2
        refine Or.inl ⟨rfl, fun z hz => ?_⟩
        rw [← v2 z (by omega)]
        exact v1 _ (by omega)
      · rw [if_neg q2]
        rw [ti_le, ex8, show (20 : Int32).toInt = 20 from rfl] at q2
        have e8 : gI S 88 3 - adF a3 = nI (wa - a3.toInt.toNat) := by
          rw [ti_eq, ex8, nI_ti (by omega)]; omega
        rw [e8]
        by_cases q3 : lg_cmp (((adB a3 a4).toUInt64 >>> ((nI (wa - a3.toInt.toNat)).toInt64.toUInt64 &&& Int64.toUInt64 63)).toInt64) 0 = 0
        · rw [if_pos q3]
          refine Or.inl ⟨rfl, fun z hz => ?_⟩
          have := b_ext.mp ((lgc_0 _).mp q3)
          rw [← v2 z (by omega)]
          by_cases hz2 : z - wa < 64
          · have h3 := this (z - wa) hz2
            rw [bq_shr _ (by omega)] at h3
            rw [← h3]; congr 1; omega
          · exact v1 _ (by omega)
        · rw [if_neg q3]
          refine Or.inr ⟨rfl, ?_⟩
          apply Classical.byContradiction
          intro hn
          apply q3
          rw [lgc_0, b_ext]
          intro i hi
          rw [bq_shr _ (by omega)]
          have h3 := v2 (wa + i) (by omega)
          rw [show wa - a3.toInt.toNat + i = wa + i - a3.toInt.toNat by omega, h3]
          cases hz : nwZ a3.toInt a4 (wa + i)
          · rfl
          · exact absurd ⟨wa + i, by omega, hz⟩ hn
    · rw [if_neg q1]
      rw [ti_lt, ti0, ex8] at q1
      by_cases q3 : lg_cmp (adB a3 a4) 0 = 0
      · rw [if_pos q3]
        refine Or.inl ⟨rfl, fun z hz => ?_⟩
        by_cases q4 : z < a3.toInt.toNat
        · exact hlow z q4
        · rw [← v2 z (by omega), (lgc_0 _).mp q3]; exact b_zero _
      · rw [if_neg q3]
        refine Or.inr ⟨rfl, ?_⟩
        apply Classical.byContradiction
        intro hn
        apply q3
        rw [lgc_0, b_ext]
        intro i hi
        have h3 := v2 (a3.toInt.toNat + i) (by omega)
        rw [show a3.toInt.toNat + i - a3.toInt.toNat = i by omega] at h3
        rw [h3]
        cases hz : nwZ a3.toInt a4 (a3.toInt.toNat + i)
        · rfl
        · exact absurd ⟨a3.toInt.toNat + i, by omega, hz⟩ hn
  constructor
  · rintro ⟨z, hz1, hz2⟩
    rcases hcase with ⟨-, h⟩ | ⟨h, -⟩
    · rw [h z hz1] at hz2; exact absurd hz2 (by decide)
    · exact h
  · intro hno
    rcases hcase with ⟨h, -⟩ | ⟨-, z, hz1, hz2⟩
    · rw [h, hF]
      obtain ⟨t1, t2, t3, t4⟩ := addT_at S r ha hf v1
      refine ⟨t1, t2, t3, fun z hz => ?_⟩
      rw [t4 z hz]
      by_cases q : a3.toInt.toNat ≤ z
      · rw [v2 z q, decide_eq_true q, Bool.true_and]
      · rw [hlow z (by omega), decide_eq_false q, Bool.false_and]
    · rw [hno z hz1] at hz2; exact absurd hz2 (by decide)
