-- needs: 39.count
/-! ===== a throw that is weighed ===== -/
def tD (far lag near tick : Int32) : Int32 := if (far - lag * tick) < (if far < near then far else near) then (if far < near then far else near) else (far - lag * tick)
def cFl (D P s : Int32) : Int32 := if 0 < D then (if 0 < (if (0 : Int32) < s then s else 0) - P then (if 30 < ((D + ((if (0 : Int32) < s then s else 0) - P)) - 1) / ((if (0 : Int32) < s then s else 0) - P) then 0 else ((D + ((if (0 : Int32) < s then s else 0) - P)) - 1) / ((if (0 : Int32) < s then s else 0) - P)) else 0) else (if (if (0 : Int32) < s then s else 0) - P < 0 then 0 else 1)
def mF0 (D g : Int32) : Int32 := if g ≤ 0 then (if g = 0 then (if D = 0 then (1 : Int32) else 31) else 31) else ((D + g) - 1) / g
def mFl (D g : Int32) : Int32 := if 1 ≤ mF0 D g then mF0 D g else 1
def szF (e wd t : Int32) : Int32 := if e = 0 then 6 * t + wd else 4 * t + wd / 2
def ovF (e wd t size : Int32) : Int32 := if e = 0 then (size - 6 * t) - wd else (size - 4 * t) - wd / 2
def o12 (e gt dk t : Int32) : Int32 := if e = 0 then 12 - dk else if t - t / gt * gt = 0 then 12 else 4
theorem fl_v (S : HSt) (o : Nat) (s : Int32) : f_X9_flightBy S o s = cFl (gI S o 6) (gI S o 7) s := by
  show (F_X9_flightBy S o s).1 = _
  unfold F_X9_flightBy cFl
  rw [bd_def]
  by_cases c : 0 < gI S o 6
  · rw [if_pos c, if_pos c]
    by_cases d : 0 < (if (0 : Int32) < s then s else 0) - gI S o 7
    · rw [if_pos d, if_pos d, bd_def, bd_def, pr_1]
    · rw [if_neg d, if_neg d, pr_1]
  · rw [if_neg c, if_neg c, bd_def, pr_1]
theorem p_fl (S : HSt) (o : Nat) (s : Int32) : p_X9_flightBy S o s := fun x _ _ h q => by
  rw [q] at h
  exact absurd h (by decide)
theorem sz_v (S : HSt) (o : Nat) (t : Int32) : f_X9_sizeFor S o t = szF (gI S o 4) (gI S o 8) t := rfl
theorem o12_v (S : HSt) (o : Nat) (t : Int32) (h : 0 < (gI S o 9).toInt) : f_X9_ofTwelve S o t = o12 (gI S o 4) (gI S o 9) (gI S o 10) t := by
  show (F_X9_ofTwelve S o t).1 = _
  unfold F_X9_ofTwelve o12
  by_cases c : gI S o 4 = 0
  · rw [if_pos c, if_pos c, pr_1]
  · rw [if_neg c, if_neg c, bd_def, pr_1, if_neg (by rw [ti_le, ti0]; omega)]
theorem p_o12 (S : HSt) (o : Nat) (t : Int32) : p_X9_ofTwelve S o t := fun _ h q => by
  rw [q] at h
  exact h (by decide)
theorem g_eq {s a : Int32} (ha : a = if 0 ≤ s then s else 0) : (if (0 : Int32) < s then s else 0) = a := by
  rw [ha]
  by_cases c : (0 : Int32) < s
  · rw [if_pos c, if_pos (by rw [ti_lt] at c; rw [ti_le]; omega)]
  · rw [if_neg c]
    by_cases d : (0 : Int32) ≤ s
    · rw [if_pos d]
      rw [ti_lt] at c
      rw [ti_le] at d
      rw [ti_eq]
      omega
    · rw [if_neg d]
theorem fl_eq {D P s a : Int32} (hD : bw D 0 100000) (hP : bw P 0 1000) (hs : bw s (-1000) 1000) (ha : a = if 0 ≤ s then s else 0) : (mFl D (a - P) ≤ 30 ∧ cFl D P s = mFl D (a - P) ∧ 1 ≤ (mFl D (a - P)).toInt) ∨ (¬ mFl D (a - P) ≤ 30 ∧ cFl D P s = 0) := by
  obtain ⟨D0, D1⟩ := hD
  obtain ⟨P0, P1⟩ := hP
  obtain ⟨s0, s1⟩ := hs
  have hab : 0 ≤ a.toInt ∧ a.toInt ≤ 1000 := by
    rw [ha]
    by_cases d : (0 : Int32) ≤ s
    · rw [if_pos d]; rw [ti_le, ti0] at d; omega
    · rw [if_neg d, ti0]; omega
  unfold cFl
  rw [g_eq ha]
  have tg : (a - P).toInt = a.toInt - P.toInt := ti_sub (by omega) (by omega)
  generalize a - P = g at tg ⊢
  have t30 : (30 : Int32).toInt = 30 := rfl
  have t31 : (31 : Int32).toInt = 31 := rfl
  unfold mFl
  by_cases c : g ≤ 0
  · have c' := c
    rw [ti_le, ti0] at c'
    have hF : mF0 D g = if g = 0 then (if D = 0 then (1 : Int32) else 31) else 31 := by unfold mF0; rw [if_pos c]
    rw [hF]
    by_cases c0 : g = 0
    · rw [if_pos c0]
      by_cases c1 : D = 0
      · rw [if_pos c1, if_pos (by decide), if_neg (by rw [ti_lt, ti_eq.mp c1, ti0]; omega), if_neg (by rw [ti_lt, ti_eq.mp c0, ti0]; omega)]
        exact Or.inl ⟨by decide, rfl, by decide⟩
      · have : ¬ D.toInt = 0 := fun q => c1 (ti_eq.mpr q)
        rw [if_neg c1, if_pos (by decide), if_pos (by rw [ti_lt, ti0]; omega), if_neg (by rw [ti_lt, ti0]; omega)]
        exact Or.inr ⟨by decide, rfl⟩
    · have : ¬ g.toInt = 0 := fun q => c0 (ti_eq.mpr q)
      rw [if_neg c0, if_pos (by decide)]
      refine Or.inr ⟨by decide, ?_⟩
      by_cases c1 : 0 < D
      · rw [if_pos c1, if_neg (by rw [ti_lt, ti0]; omega)]
      · rw [if_neg c1, if_pos (by rw [ti_lt, ti0]; omega)]
  · have c' := c
    rw [ti_le, ti0] at c'
    have hF : mF0 D g = ((D + g) - 1) / g := by unfold mF0; rw [if_neg c]
    rw [hF]
    have tn : (D + g - 1).toInt = D.toInt + g.toInt - 1 := by
      rw [ti_sub (by rw [ti_add (by omega) (by omega), ti1]; omega) (by rw [ti_add (by omega) (by omega), ti1]; omega), ti_add (by omega) (by omega), ti1]
    have hg1 : g ≠ -1 := fun q => by rw [q] at c'; exact c' (by decide)
    have tq : ((D + g - 1) / g).toInt = (D.toInt + g.toInt - 1) / g.toInt := by
      rw [ti_div hg1, tn, Int.tdiv_eq_ediv_of_nonneg (by omega)]
    generalize (D + g - 1) / g = q at tq
    by_cases c1 : 0 < D
    · have c1' := c1
      rw [ti_lt, ti0] at c1'
      have h1 : 1 ≤ q.toInt := by
        rw [tq]
        exact Int.le_ediv_of_mul_le (by omega) (by omega)
      rw [if_pos (by rw [ti_le, ti1]; omega), if_pos c1, if_pos (by rw [ti_lt, ti0]; omega)]
      by_cases c2 : 30 < q
      · rw [if_pos c2]
        exact Or.inr ⟨by rw [ti_lt] at c2; rw [ti_le]; omega, rfl⟩
      · rw [if_neg c2]
        exact Or.inl ⟨by rw [ti_lt] at c2; rw [ti_le]; omega, rfl, h1⟩
    · have c1' := c1
      rw [ti_lt, ti0] at c1'
      have h0 : q.toInt = 0 := by
        rw [tq]
        exact Int.ediv_eq_zero_of_lt (by omega) (by omega)
      rw [if_neg (by rw [ti_le, ti1]; omega), if_neg c1, if_neg (by rw [ti_lt, ti0]; omega)]
      exact Or.inl ⟨by decide, rfl, by decide⟩
theorem tD_eq {far lag near tick : Int32} : (if (if far ≤ near then far else near) ≤ far - lag * tick then far - lag * tick else (if far ≤ near then far else near)) = tD far lag near tick := by
  unfold tD
  have h1 : (if far ≤ near then far else near) = (if far < near then far else near) := by
    by_cases c : far < near
    · rw [if_pos c, if_pos (by rw [ti_lt] at c; rw [ti_le]; omega)]
    · rw [if_neg c]
      by_cases d : far ≤ near
      · rw [if_pos d]; rw [ti_lt] at c; rw [ti_le] at d; rw [ti_eq]; omega
      · rw [if_neg d]
  rw [h1]
  generalize (if far < near then far else near) = y
  by_cases c : far - lag * tick < y
  · rw [if_pos c, if_neg (by rw [ti_lt] at c; rw [ti_le]; omega)]
  · rw [if_neg c, if_pos (by rw [ti_lt] at c; rw [ti_le]; omega)]
theorem mul_bw {a b : Int} (ha : 0 ≤ a) (hA : a ≤ 20) (hb : 0 ≤ b) (hB : b ≤ 2000) : 0 ≤ a * b ∧ a * b ≤ 40000 := by
  constructor
  · exact Int.mul_nonneg ha hb
  · have := Int.mul_le_mul hA hB hb (by omega)
    omega
theorem tD_bw {far lag near tick : Int32} (h1 : bw far 0 200) (h2 : bw lag 0 20) (h3 : bw near 0 99) (h4 : bw tick 0 2000) : bw (tD far lag near tick) 0 100000 := by
  obtain ⟨a1, a2⟩ := h1
  obtain ⟨b1, b2⟩ := h2
  obtain ⟨c1, c2⟩ := h3
  obtain ⟨d1, d2⟩ := h4
  obtain ⟨m1, m2⟩ := mul_bw b1 b2 d1 d2
  have tm : (lag * tick).toInt = lag.toInt * tick.toInt := ti_mul (by omega) (by omega)
  have ts : (far - lag * tick).toInt = far.toInt - lag.toInt * tick.toInt := by rw [ti_sub (by rw [tm]; omega) (by rw [tm]; omega), tm]
  unfold tD bw
  have hy : 0 ≤ (if far < near then far else near).toInt ∧ (if far < near then far else near).toInt ≤ 200 := by
    by_cases c : far < near
    · rw [if_pos c]; omega
    · rw [if_neg c]; omega
  generalize (if far < near then far else near) = y at hy
  by_cases c : far - lag * tick < y
  · rw [if_pos c]; omega
  · rw [if_neg c]
    rw [ti_lt] at c
    omega
theorem ov_sz (e wd t size : Int32) : ovF e wd t size = size - szF e wd t := by
  unfold ovF szF
  by_cases c : e = 0
  · rw [if_pos c, if_pos c, Int32.sub_eq_add_neg, Int32.sub_eq_add_neg, Int32.sub_eq_add_neg, Int32.neg_add, Int32.add_assoc, Int32.sub_eq_add_neg]
  · rw [if_neg c, if_neg c, Int32.sub_eq_add_neg, Int32.sub_eq_add_neg, Int32.sub_eq_add_neg, Int32.neg_add, Int32.add_assoc, Int32.sub_eq_add_neg]
theorem sz_bw {e wd t : Int32} (h1 : bw wd 0 100) (h2 : bw t 0 30) : bw (szF e wd t) 0 280 := by
  obtain ⟨a1, a2⟩ := h1
  obtain ⟨b1, b2⟩ := h2
  have t6 : (6 * t).toInt = 6 * t.toInt := ti_mul (by rw [show (6 : Int32).toInt = 6 from rfl]; omega) (by rw [show (6 : Int32).toInt = 6 from rfl]; omega)
  have t4 : (4 * t).toInt = 4 * t.toInt := ti_mul (by rw [show (4 : Int32).toInt = 4 from rfl]; omega) (by rw [show (4 : Int32).toInt = 4 from rfl]; omega)
  have td : (wd / 2).toInt = wd.toInt / 2 := by rw [ti_div (by decide), show (2 : Int32).toInt = 2 from rfl, Int.tdiv_eq_ediv_of_nonneg a1]
  unfold szF bw
  by_cases c : e = 0
  · rw [if_pos c, ti_add (by omega) (by omega)]; omega
  · rw [if_neg c, ti_add (by omega) (by omega)]; omega
