-- needs: 43.aim3
/-! ===== the common divisor, on both sides ===== -/
def nj (z : Int) : Int64 := Int64.ofInt z
theorem nj_of (x : Int64) : nj x.toInt = x := Int64.ofInt_toInt x
theorem nj_toInt {z : Int} (h1 : -9223372036854775808 ≤ z) (h2 : z < 9223372036854775808) : (nj z).toInt = z := Int64.toInt_ofInt_of_le (by simpa using h1) (by simpa using h2)
theorem tj_sub {x y : Int64} (h1 : -9223372036854775808 ≤ x.toInt - y.toInt) (h2 : x.toInt - y.toInt < 9223372036854775808) : (x - y).toInt = x.toInt - y.toInt := by
  conv => lhs; rw [← nj_of x, ← nj_of y, show nj x.toInt - nj y.toInt = nj (x.toInt - y.toInt) from (Int64.ofInt_sub _ _).symm]
  exact nj_toInt h1 h2
theorem tj_mul {x y : Int64} (h1 : -9223372036854775808 ≤ x.toInt * y.toInt) (h2 : x.toInt * y.toInt < 9223372036854775808) : (x * y).toInt = x.toInt * y.toInt := by
  conv => lhs; rw [← nj_of x, ← nj_of y, show nj x.toInt * nj y.toInt = nj (x.toInt * y.toInt) from (Int64.ofInt_mul _ _).symm]
  exact nj_toInt h1 h2
theorem tj_add {x y : Int64} (h1 : -9223372036854775808 ≤ x.toInt + y.toInt) (h2 : x.toInt + y.toInt < 9223372036854775808) : (x + y).toInt = x.toInt + y.toInt := by
  conv => lhs; rw [← nj_of x, ← nj_of y, show nj x.toInt + nj y.toInt = nj (x.toInt + y.toInt) from (Int64.ofInt_add _ _).symm]
  exact nj_toInt h1 h2
theorem tj_div {x y : Int64} (h : y ≠ -1) : (x / y).toInt = x.toInt.tdiv y.toInt := Int64.toInt_div_of_ne_right x y h
theorem tj0 : (0 : Int64).toInt = 0 := rfl
theorem tj_hi (x : Int64) : x.toInt < 9223372036854775808 := by have := x.toInt_lt; simpa using this
theorem tj_eq {x y : Int64} : x = y ↔ x.toInt = y.toInt := Int64.toInt_inj.symm
theorem tj_lt {x y : Int64} : x < y ↔ x.toInt < y.toInt := Int64.lt_iff_toInt_lt
theorem tj_32 (x : Int32) : x.toInt64.toInt = x.toInt := Int32.toInt_toInt64 x
theorem lgc_eq (x y : Int64) : lg_cmp x y = 0 ↔ x = y := by
  unfold lg_cmp
  by_cases h : x > y
  · rw [if_pos h]
    refine ⟨fun q => absurd q (by decide), fun q => ?_⟩
    have := Int64.lt_iff_toInt_lt.mp h
    rw [q] at this
    omega
  · rw [if_neg h]
    by_cases e : x = y
    · rw [if_pos e]; exact ⟨fun _ => e, fun _ => rfl⟩
    · rw [if_neg e]; exact ⟨fun q => absurd q (by decide), fun q => absurd q e⟩
theorem mod_64 {a b : Int64} (ha : 0 ≤ a.toInt) (hb : 0 < b.toInt) : (a - a / b * b).toInt = a.toInt % b.toInt := by
  have hb1 : b ≠ -1 := fun q => by rw [q] at hb; exact absurd hb (by decide)
  have hd : (a / b).toInt = a.toInt / b.toInt := by rw [tj_div hb1, Int.tdiv_eq_ediv_of_nonneg ha]
  have h1 : a.toInt / b.toInt * b.toInt ≤ a.toInt := Int.ediv_mul_le _ (by omega)
  have h2 : 0 ≤ a.toInt / b.toInt * b.toInt := Int.mul_nonneg (Int.ediv_nonneg ha (by omega)) (by omega)
  have h3 := tj_hi a
  have hm : (a / b * b).toInt = a.toInt / b.toInt * b.toInt := by rw [tj_mul (by rw [hd]; omega) (by rw [hd]; omega), hd]
  rw [tj_sub (by rw [hm]; omega) (by rw [hm]; omega), hm, Int.emod_def, Int.mul_comm b.toInt]
theorem half_mod {b r : Int} (h1 : 0 < r) (h2 : r < b) : 2 * (b % r) < b := by
  have h3 := Int.emod_lt_of_pos b h1
  have h4 := Int.emod_nonneg b (show r ≠ 0 by omega)
  have h5 : b % r = b - r * (b / r) := Int.emod_def b r
  have h6 : 1 ≤ b / r := Int.le_ediv_of_mul_le h1 (by omega)
  have h7 : r * 1 ≤ r * (b / r) := Int.mul_le_mul_of_nonneg_left h6 (by omega)
  omega
theorem cd_L (S T : HSt) (x y : Int64) : ∀ (k n c : Nat) (a b : Int64), 0 ≤ a.toInt → 0 ≤ b.toInt → b.toInt < 2 ^ k → 2 * k + 1 ≤ n → c + 2 * k < 100 → T_X11_commonDivisor_9 n S x y a b (nI c) ∧ T_X12_common_6 n T x y a b ∧ (L_X11_commonDivisor_9 n S x y a b (nI c)).2.2.1 = (L_X12_common_6 n T x y a b).2.2.1 ∧ (0 < b.toInt → 0 < (L_X12_common_6 n T x y a b).2.2.1.toInt ∧ (L_X12_common_6 n T x y a b).2.2.1.toInt ≤ b.toInt) ∧ (b.toInt = 0 → (L_X12_common_6 n T x y a b).2.2.1 = a) := by
  intro k
  induction k with
  | zero =>
    intro n c a b ha hb hk hn hc
    obtain ⟨n, rfl⟩ : ∃ m, n = m + 1 := ⟨n - 1, by omega⟩
    have hb0 : b = 0 := tj_eq.mpr (by rw [tj0]; omega)
    have h0 : lg_cmp b 0 = 0 := (lgc_eq b 0).mpr hb0
    unfold T_X11_commonDivisor_9 T_X12_common_6 L_X11_commonDivisor_9 L_X12_common_6
    rw [if_pos h0, if_pos h0]
    exact ⟨⟨fun q => absurd h0 q, fun q => absurd h0 q⟩, ⟨fun q => absurd h0 q, fun q => absurd h0 q⟩, rfl, fun q => by omega, fun _ => rfl⟩
  | succ k ih =>
    intro n c a b ha hb hk hn hc
    obtain ⟨n, rfl⟩ : ∃ m, n = m + 1 := ⟨n - 1, by omega⟩
    unfold T_X11_commonDivisor_9 T_X12_common_6 L_X11_commonDivisor_9 L_X12_common_6
    by_cases h0 : lg_cmp b 0 = 0
    · have hb0 := (lgc_eq b 0).mp h0
      rw [if_pos h0, if_pos h0]
      exact ⟨⟨fun q => absurd h0 q, fun q => absurd h0 q⟩, ⟨fun q => absurd h0 q, fun q => absurd h0 q⟩, rfl, fun q => by rw [hb0] at q; exact absurd q (by decide), fun _ => rfl⟩
    · have hbn : b ≠ 0 := fun q => h0 ((lgc_eq b 0).mpr q)
      have hbp : 0 < b.toInt := by
        have : b.toInt ≠ 0 := fun q => hbn (tj_eq.mpr q)
        omega
      have c1 : ¬ (100 : Int32) ≤ nI c := nI_ge (a := c) (b := 100) (by omega) (by omega)
      have hr := mod_64 ha hbp
      generalize a - a / b * b = r at hr
      have hr0 : 0 ≤ r.toInt := by rw [hr]; exact Int.emod_nonneg _ (by omega)
      have hr1 : r.toInt < b.toInt := by rw [hr]; exact Int.emod_lt_of_pos _ hbp
      obtain ⟨n, rfl⟩ : ∃ m, n = m + 1 := ⟨n - 1, by omega⟩
      -- the second step
      have key : T_X11_commonDivisor_9 (n + 1) S x y b r (nI (c + 1)) ∧ T_X12_common_6 (n + 1) T x y b r ∧ (L_X11_commonDivisor_9 (n + 1) S x y b r (nI (c + 1))).2.2.1 = (L_X12_common_6 (n + 1) T x y b r).2.2.1 ∧ 0 < (L_X12_common_6 (n + 1) T x y b r).2.2.1.toInt ∧ (L_X12_common_6 (n + 1) T x y b r).2.2.1.toInt ≤ b.toInt := by
        unfold T_X11_commonDivisor_9 T_X12_common_6 L_X11_commonDivisor_9 L_X12_common_6
        by_cases g0 : lg_cmp r 0 = 0
        · rw [if_pos g0, if_pos g0]
          exact ⟨⟨fun q => absurd g0 q, fun q => absurd g0 q⟩, ⟨fun q => absurd g0 q, fun q => absurd g0 q⟩, rfl, hbp, Int.le_refl _⟩
        · have hrn : r ≠ 0 := fun q => g0 ((lgc_eq r 0).mpr q)
          have hrp : 0 < r.toInt := by
            have : r.toInt ≠ 0 := fun q => hrn (tj_eq.mpr q)
            omega
          have c2 : ¬ (100 : Int32) ≤ nI (c + 1) := nI_ge (a := c + 1) (b := 100) (by omega) (by omega)
          have hs := mod_64 (Int.le_of_lt hbp) hrp
          have hs2 := half_mod hrp hr1
          generalize b - b / r * r = s at hs
          rw [← hs] at hs2
          have hs0 : 0 ≤ s.toInt := by rw [hs]; exact Int.emod_nonneg _ (by omega)
          have hs1 : s.toInt < r.toInt := by rw [hs]; exact Int.emod_lt_of_pos _ hrp
          have hp2 : (2 : Int) ^ (k + 1) = 2 * 2 ^ k := by rw [Int.pow_succ, Int.mul_comm]
          obtain ⟨i1, i2, i3, i4, i5⟩ := ih n (c + 2) r s (Int.le_of_lt hrp) hs0 (by omega) (by omega) (by omega)
          rw [if_neg g0, if_neg g0, if_neg c2, bd_def, bd_def, ← nI_succ]
          refine ⟨⟨fun _ _ => hrn, fun _ _ z hz => by rw [← hz]; exact i1⟩, ⟨fun _ => hrn, fun _ z hz => by rw [← hz]; exact i2⟩, i3, ?_⟩
          by_cases z : s.toInt = 0
          · rw [i5 z]; exact ⟨hrp, by omega⟩
          · have := i4 (by omega)
            exact ⟨this.1, by omega⟩
      rw [if_neg h0, if_neg h0, if_neg c1, bd_def, bd_def, ← nI_succ]
      exact ⟨⟨fun _ _ => hbn, fun _ _ z hz => by rw [← hz]; exact key.1⟩, ⟨fun _ => hbn, fun _ z hz => by rw [← hz]; exact key.2.1⟩, key.2.2.1, fun _ => key.2.2.2, fun q => by omega⟩
/-- both sides bring a fraction to its lowest terms alike -/
theorem low_eq (S T : HSt) {a b : Int64} (ha : 0 ≤ a.toInt) (hb : 0 < b.toInt) (hk : b.toInt < 2 ^ 48) (w : Int32) : p_X11_lowest S a b w ∧ p_X12_partOf T a b w ∧ f_X11_lowest S a b w = f_X12_partOf T a b w ∧ ∃ g : Int64, 0 < g.toInt ∧ g.toInt ≤ b.toInt ∧ f_X12_partOf T a b w = (if w = 0 then a else b) / g := by
  obtain ⟨i1, i2, i3, i4, -⟩ := cd_L S T a b 48 1000 0 a b ha (Int.le_of_lt hb) hk (by omega) (by omega)
  obtain ⟨i5, i6⟩ := i4 hb
  rw [show nI 0 = (0 : Int32) from rfl] at i1 i3
  have e1 : f_X11_commonDivisor S a b = (L_X12_common_6 1000 T a b a b).2.2.1 := i3
  have e2 : f_X12_common T a b = (L_X12_common_6 1000 T a b a b).2.2.1 := rfl
  generalize (L_X12_common_6 1000 T a b a b).2.2.1 = g at e1 e2 i5 i6
  have hg : g ≠ 0 := fun q => by rw [q] at i5; exact absurd i5 (by decide)
  have hc : ¬ lg_cmp g 0 = 0 := fun q => hg ((lgc_eq g 0).mp q)
  have e4 : f_X12_partOf T a b w = (if w = 0 then a else b) / g := by
    show (F_X12_partOf T a b w).1 = _
    unfold F_X12_partOf
    rw [bd_def, pr_1, e2]
  refine ⟨⟨i1, fun z hz _ _ _ => by rw [← hz, e1]; exact hg⟩, ⟨fun _ _ => i2, fun _ _ => by rw [e2]; exact hg⟩, ?_, g, i5, i6, e4⟩
  rw [e4]
  show (F_X11_lowest S a b w).1 = _
  unfold F_X11_lowest
  rw [bd_def, e1, if_neg hc, bd_def, pr_1]
