-- needs: 78.bits
/-! ===== fewest: bands ===== -/
theorem nI_d64 {f : Nat} (hf : f < 1000) : nI f / (64 : Int32) = nI (f / 64) := by
  rw [ti_eq, ti_div (by decide), nI_ti (by omega), nI_ti (by omega), show (64 : Int32).toInt = 64 from rfl, Int.tdiv_eq_ediv_of_nonneg (by omega)]
  omega
theorem nI_r64 {f : Nat} (hf : f < 1000) : nI f - nI f / (64 : Int32) * (64 : Int32) = nI (f % 64) := by
  have e64 : (64 : Int32).toInt = 64 := rfl
  rw [nI_d64 hf, ti_eq, nI_ti (by omega)]
  have h1 : (nI (f / 64) * (64 : Int32)).toInt = f / 64 * 64 := by
    rw [ti_mul (by rw [nI_ti (by omega), e64]; omega) (by rw [nI_ti (by omega), e64]; omega), nI_ti (by omega), e64]; omega
  rw [ti_sub (by rw [h1, nI_ti (by omega)]; omega) (by rw [h1, nI_ti (by omega)]; omega), h1, nI_ti (by omega)]
  omega
theorem nI_64m {s : Nat} (hs : s < 64) : (64 : Int32) - nI s = nI (64 - s) := by
  have e64 : (64 : Int32).toInt = 64 := rfl
  rw [ti_eq, ti_sub (by rw [nI_ti (by omega), e64]; omega) (by rw [nI_ti (by omega), e64]; omega), nI_ti (by omega), nI_ti (by omega), e64]
  omega
theorem le44 {s : Nat} (hs : s < 64) : nI s ≤ (44 : Int32) ↔ s ≤ 44 := by
  rw [ti_le, nI_ti (by omega), show (44 : Int32).toInt = 44 from rfl]; omega
theorem le4 {w : Nat} (hw : w < 64) : (4 : Int32) ≤ nI w ↔ 4 ≤ w := by
  rw [ti_le, nI_ti (by omega), show (4 : Int32).toInt = 4 from rfl]; omega
theorem band_at (S : HSt) (h nx : Nat) {a low : Nat} (ha : a + 4 ≤ 11584) (hl : low < 200) : p_X3_bandAt S h nx 88 (nI a) (nI low) ∧ ∀ j, b64 (f_X3_bandAt S h nx 88 (nI a) (nI low)) j = (decide (j < 20) && inJ (gJ S h) a (low + j)) := by
  have hw : low / 64 < 4 := by omega
  have hs : low % 64 < 64 := by omega
  constructor
  · refine ⟨fun x1 e1 x2 e2 => ?_, fun x1 e1 x2 e2 x3 _ _ q => ?_⟩
    · rw [← e1, nI_d64 (by omega), nI_add]; exact vp_in_nI (by omega) (by omega)
    · rw [← e1, nI_d64 (by omega), ← nI_succ, le4 (by omega)] at q
      rw [← e1, nI_d64 (by omega), nI_add, ← nI_succ]; exact vp_in_nI (by omega) (by omega)
  · intro j
    show b64 (F_X3_bandAt S h nx 88 (nI a) (nI low)).1 j = _
    unfold F_X3_bandAt
    simp only [bd_def]
    rw [pr_1, nI_r64 (by omega), nI_d64 (by omega), nI_add, ← nI_succ, ← nI_succ, nI_clamp' (by omega), nI_clamp' (by omega), nI_64m hs, bq_and, b_m20]
    by_cases hj : j < 20
    · have h2 : ∀ b : Bool, (b && decide (j < 20)) = b := fun b => by simp [hj]
      have h3 : ∀ b : Bool, (decide (j < 20) && b) = b := fun b => by simp [hj]
      rw [h2, h3]
      unfold inJ
      by_cases q : low % 64 ≤ 44
      · rw [if_pos ((le44 hs).mpr q), bq_shr _ hs]
        have e1 : (low + j) / 64 = low / 64 := by omega
        have e2 : (low + j) % 64 = low % 64 + j := by omega
        rw [e1, e2]
      · rw [if_neg (fun h => q ((le44 hs).mp h)), if_neg (fun h => by have := (le4 (w := low / 64 + 1) (by omega)).mp h; omega), bq_or, bq_shr _ hs, b_shl _ (by omega)]
        by_cases q2 : low % 64 + j < 64
        · have e1 : (low + j) / 64 = low / 64 := by omega
          have e2 : (low + j) % 64 = low % 64 + j := by omega
          have q3 : ¬ 64 - low % 64 ≤ j := by omega
          rw [e1, e2]
          simp [q3]
        · have e1 : (low + j) / 64 = low / 64 + 1 := by omega
          have e2 : (low + j) % 64 = j - (64 - low % 64) := by omega
          have q3 : 64 - low % 64 ≤ j := by omega
          have q4 : j < 64 := by omega
          rw [e1, e2, b_big _ (show 64 ≤ low % 64 + j by omega)]
          simp [q3, q4, Nat.add_assoc]
    · simp [hj]
noncomputable def addT (S : HSt) (r : Nat) (a2 x1 : Int32) (x7 : Int64) : HSt := bd (x1 / (64 : Int32)) fun x11 => bd (x1 - x1 / (64 : Int32) * (64 : Int32)) fun x12 => bd (if (4 : Int32) ≤ x11 then S else (bd (sJ S r (a2 + x11).toNatClampNeg ((gJ S r (a2 + x11).toNatClampNeg) ||| (x7 <<< (x12.toInt64 &&& 63)))) fun S14 => S14)) fun S15 => bd (if x12 ≤ (44 : Int32) then S15 else (if (4 : Int32) ≤ (x11 + (1 : Int32)) then S15 else (bd (sJ S15 r ((a2 + x11) + (1 : Int32)).toNatClampNeg ((gJ S15 r ((a2 + x11) + (1 : Int32)).toNatClampNeg) ||| ((x7.toUInt64 >>> (((64 : Int32) - x12).toInt64.toUInt64 &&& Int64.toUInt64 63)).toInt64))) fun S18 => S18))) fun S19 => S19
theorem addT_at (S : HSt) (r : Nat) {a f : Nat} (ha : a + 4 ≤ 11584) (hf : f < 256) {x7 : Int64} (hx : ∀ j, 20 ≤ j → b64 x7 j = false) : gI (addT S r (nI a) (nI f) x7) = gI S ∧ (∀ x, x ≠ r → gJ (addT S r (nI a) (nI f) x7) x = gJ S x) ∧ (∀ i, ¬ (a ≤ i ∧ i < a + 4) → gJ (addT S r (nI a) (nI f) x7) r i = gJ S r i) ∧ (∀ z, z < 256 → inJ (gJ (addT S r (nI a) (nI f) x7) r) a z = (inJ (gJ S r) a z || (decide (f ≤ z) && b64 x7 (z - f)))) := by
  have hw : f / 64 < 4 := by omega
  have hs : f % 64 < 64 := by omega
  have n4 : ¬ (4 : Int32) ≤ nI (f / 64) := fun h => by have := (le4 (by omega)).mp h; omega
  have e0 : addT S r (nI a) (nI f) x7 = if f % 64 ≤ 44 then sJ S r (a + f / 64) (gJ S r (a + f / 64) ||| (x7 <<< ((nI (f % 64)).toInt64 &&& 63))) else if 4 ≤ f / 64 + 1 then sJ S r (a + f / 64) (gJ S r (a + f / 64) ||| (x7 <<< ((nI (f % 64)).toInt64 &&& 63))) else sJ (sJ S r (a + f / 64) (gJ S r (a + f / 64) ||| (x7 <<< ((nI (f % 64)).toInt64 &&& 63)))) r (a + f / 64 + 1) (gJ S r (a + f / 64 + 1) ||| ((x7.toUInt64 >>> ((nI (64 - f % 64)).toInt64.toUInt64 &&& Int64.toUInt64 63)).toInt64)) := by
    unfold addT
    simp only [bd_def]
    rw [nI_r64 (by omega), nI_d64 (by omega), if_neg n4, nI_add, ← nI_succ, ← nI_succ, nI_clamp' (by omega), nI_clamp' (by omega), nI_64m hs]
    by_cases q : f % 64 ≤ 44
    · rw [if_pos ((le44 hs).mpr q), if_pos q]
    · rw [if_neg (fun h => q ((le44 hs).mp h)), if_neg q]
      by_cases q2 : 4 ≤ f / 64 + 1
      · rw [if_pos ((le4 (by omega)).mpr q2), if_pos q2]
      · rw [if_neg (fun h => q2 ((le4 (by omega)).mp h)), if_neg q2]
        have : gJ (sJ S r (a + f / 64) (gJ S r (a + f / 64) ||| (x7 <<< ((nI (f % 64)).toInt64 &&& 63)))) r (a + f / 64 + 1) = gJ S r (a + f / 64 + 1) := by
          rw [gJ_sJ, if_pos rfl, if_neg (by omega)]
        rw [this]
  rw [e0]
  have key : ∀ z, z < 256 → z / 64 = f / 64 → b64 (gJ S r (a + f / 64) ||| (x7 <<< ((nI (f % 64)).toInt64 &&& 63))) (z % 64) = (inJ (gJ S r) a z || (decide (f ≤ z) && b64 x7 (z - f))) := fun z hz hzf => by
    rw [bq_or, b_shl _ hs]
    unfold inJ
    rw [hzf]
    have q64 : z % 64 < 64 := by omega
    by_cases q : f ≤ z
    · have e1 : z - f = z % 64 - f % 64 := by omega
      have q2 : f % 64 ≤ z % 64 := by omega
      simp [q, q2, q64, e1]
    · have q2 : ¬ f % 64 ≤ z % 64 := by omega
      simp [q, q2]
  have away : ∀ z, z < 256 → z / 64 ≠ f / 64 → (z / 64 ≠ f / 64 + 1 ∨ f % 64 ≤ 44) → (decide (f ≤ z) && b64 x7 (z - f)) = false := fun z hz h1 h2 => by
    by_cases q : f ≤ z
    · rw [hx (z - f) (by omega)]; simp
    · simp [q]
  by_cases q : f % 64 ≤ 44
  · rw [if_pos q]
    refine ⟨rfl, fun x hx => ?_, fun i hi => ?_, fun z hz => ?_⟩
    · funext i; rw [gJ_sJ, if_neg hx]
    · rw [gJ_sJ, if_pos rfl, if_neg (by omega)]
    · by_cases q2 : z / 64 = f / 64
      · have := key z hz q2
        rw [← this]
        unfold inJ
        rw [gJ_sJ, if_pos rfl, if_pos (by omega)]
      · rw [away z hz q2 (Or.inr q), Bool.or_false]
        unfold inJ
        rw [gJ_sJ, if_pos rfl, if_neg (by omega)]
  · rw [if_neg q]
    by_cases q3 : 4 ≤ f / 64 + 1
    · rw [if_pos q3]
      refine ⟨rfl, fun x hx => ?_, fun i hi => ?_, fun z hz => ?_⟩
      · funext i; rw [gJ_sJ, if_neg hx]
      · rw [gJ_sJ, if_pos rfl, if_neg (by omega)]
      · by_cases q2 : z / 64 = f / 64
        · have := key z hz q2
          rw [← this]
          unfold inJ
          rw [gJ_sJ, if_pos rfl, if_pos (by omega)]
        · rw [away z hz q2 (Or.inl (by omega)), Bool.or_false]
          unfold inJ
          rw [gJ_sJ, if_pos rfl, if_neg (by omega)]
    · rw [if_neg q3]
      refine ⟨rfl, fun x hx => ?_, fun i hi => ?_, fun z hz => ?_⟩
      · funext i; rw [gJ_sJ, if_neg hx, gJ_sJ, if_neg hx]
      · rw [gJ_sJ, if_pos rfl, if_neg (by omega), gJ_sJ, if_pos rfl, if_neg (by omega)]
      · by_cases q2 : z / 64 = f / 64
        · have := key z hz q2
          rw [← this]
          unfold inJ
          rw [gJ_sJ, if_pos rfl, if_neg (by omega), gJ_sJ, if_pos rfl, if_pos (by omega)]
        · by_cases q4 : z / 64 = f / 64 + 1
          · unfold inJ
            rw [gJ_sJ, if_pos rfl, if_pos (by omega), bq_or, bq_shr _ (by omega), show a + z / 64 = a + f / 64 + 1 by omega]
            have e1 : z - f = 64 - f % 64 + z % 64 := by omega
            have e2 : f ≤ z := by omega
            rw [e1]
            simp [e2]
          · rw [away z hz q2 (Or.inl q4), Bool.or_false]
            unfold inJ
            rw [gJ_sJ, if_pos rfl, if_neg (by omega), gJ_sJ, if_pos rfl, if_neg (by omega)]
