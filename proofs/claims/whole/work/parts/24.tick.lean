-- needs: 23.adv
/-! ===== a tick: class and model alike ===== -/
theorem mx0 (x : Int32) : (if (0 : Int32) < x then x else 0) = (if (0 : Int32) ≤ x then x else 0) := by
  by_cases h : (0 : Int32) < x
  · rw [if_pos h, if_pos (by rw [ti_lt] at h; rw [ti_le]; omega)]
  · rw [if_neg h]
    by_cases h2 : (0 : Int32) ≤ x
    · rw [if_pos h2]
      rw [ti_lt] at h
      rw [ti_le] at h2
      rw [ti_eq]
      omega
    · rw [if_neg h2]
theorem mn_eq (x r : Int32) : (if x < r then x else r) = (if x ≤ r then x else r) := by
  by_cases h : x < r
  · rw [if_pos h, if_pos (by rw [ti_lt] at h; rw [ti_le]; omega)]
  · rw [if_neg h]
    by_cases h2 : x ≤ r
    · rw [if_pos h2]
      rw [ti_lt] at h
      rw [ti_le] at h2
      rw [ti_eq]
      omega
    · rw [if_neg h2]
theorem top_ge (t : Int32) : 1 ≤ (if (1 : Int32) ≤ t then t else 1).toInt := by
  by_cases h : (1 : Int32) ≤ t
  · rw [if_pos h]; rw [ti_le] at h; exact h
  · rw [if_neg h]; decide
theorem tnd_eq (sp up ti : Int32) : tnd sp up ti = tnm sp up ti := by
  unfold tnd tnm
  rw [mx1, mx0]
  have ht := top_ge (15 - ti / 64)
  generalize (if (1 : Int32) ≤ 15 - ti / 64 then 15 - ti / 64 else 1) = top at ht
  generalize sp + up - 2 = v
  by_cases h : 0 ≤ v
  · rw [if_pos h, if_pos h, mn_eq]
  · rw [if_neg h, if_neg h, if_pos (by rw [ti_lt, ti0]; omega)]
theorem tnm_bw {sp up ti : Int32} (h : 0 ≤ ti.toInt) : bw (tnm sp up ti) 0 15 := by
  have hd : (ti / (64 : Int32)).toInt = ti.toInt / 64 := by
    rw [ti_div (by decide), show (64 : Int32).toInt = 64 from rfl, Int.tdiv_eq_ediv_of_nonneg h]
  have hi := i_hi ti
  have h15 : (15 - ti / 64).toInt = 15 - ti.toInt / 64 := by
    rw [ti_sub (by rw [hd, show (15 : Int32).toInt = 15 from rfl]; omega) (by rw [hd, show (15 : Int32).toInt = 15 from rfl]; omega), hd]
    rfl
  have ht := top_ge (15 - ti / 64)
  have ht2 : (if (1 : Int32) ≤ 15 - ti / 64 then 15 - ti / 64 else 1).toInt ≤ 15 := by
    by_cases c : (1 : Int32) ≤ 15 - ti / 64
    · rw [if_pos c, h15]; omega
    · rw [if_neg c]; decide
  unfold tnm
  generalize (if (1 : Int32) ≤ 15 - ti / 64 then 15 - ti / 64 else 1) = top at ht ht2
  generalize sp + up - 2 = v
  by_cases c : 0 ≤ v
  · rw [if_pos c]
    rw [ti_le, ti0] at c
    by_cases c2 : v ≤ top
    · rw [if_pos c2]
      rw [ti_le] at c2
      exact ⟨c, by omega⟩
    · rw [if_neg c2]; exact ⟨by omega, ht2⟩
  · rw [if_neg c]; exact ⟨by decide, by decide⟩
/-- the need of a size -/
theorem nd_bw {w s x : Int32} (hw : bw w 0 1) (hs : bw s 0 9) (hx : bw x 0 400) : bw (ndm w s x) 1 26 := by
  have h1 : (x / (20 : Int32)).toInt = x.toInt / 20 := by
    rw [ti_div (by decide), show (20 : Int32).toInt = 20 from rfl, Int.tdiv_eq_ediv_of_nonneg hx.1]
  have h2 : (s / (4 : Int32)).toInt = s.toInt / 4 := by
    rw [ti_div (by decide), show (4 : Int32).toInt = 4 from rfl, Int.tdiv_eq_ediv_of_nonneg hs.1]
  obtain ⟨x1, x2⟩ := hx
  obtain ⟨s1, s2⟩ := hs
  have h3 : ∃ q : Int, (0 ≤ q ∧ q ≤ 2) ∧ (if w = 1 then (2 : Int32) else 0).toInt = q := by
    by_cases c : w = 1
    · rw [if_pos c]; exact ⟨2, by omega, rfl⟩
    · rw [if_neg c]; exact ⟨0, by omega, rfl⟩
  obtain ⟨q, hq, h3⟩ := h3
  have e4 : (4 : Int32).toInt = 4 := rfl
  have h5 : (4 + x / 20).toInt = 4 + x.toInt / 20 := by rw [ti_add (by rw [h1, e4]; omega) (by rw [h1, e4]; omega), h1, e4]
  have h6 : (4 + x / 20 + (if w = 1 then (2 : Int32) else 0)).toInt = 4 + x.toInt / 20 + q := by rw [ti_add (by rw [h5, h3]; omega) (by rw [h5, h3]; omega), h5, h3]
  have h7 : (4 + x / 20 + (if w = 1 then (2 : Int32) else 0) - s / 4).toInt = 4 + x.toInt / 20 + q - s.toInt / 4 := by rw [ti_sub (by rw [h6, h2]; omega) (by rw [h6, h2]; omega), h6, h2]
  unfold ndm
  generalize (4 + x / 20 + (if w = 1 then (2 : Int32) else 0) - s / 4) = z at h7
  by_cases c : (1 : Int32) ≤ z
  · rw [if_pos c]
    rw [ti_le, ti1] at c
    exact ⟨c, by omega⟩
  · rw [if_neg c]; exact ⟨by decide, by decide⟩
def st02 (st : Int32) : Int32 := if st = 0 then (0 : Int32) else 2
theorem lck_ti {nd st sp : Int32} (hn : bw nd 1 26) (hs : bw sp 0 15) : (lck nd st sp).toInt = (nd + (if st = 0 then (0 : Int32) else 2)).toInt - sp.toInt ∧ bw (nd + (if st = 0 then (0 : Int32) else 2)) 1 28 := by
  obtain ⟨n1, n2⟩ := hn
  obtain ⟨s1, s2⟩ := hs
  have h3 : ∃ q : Int, (0 ≤ q ∧ q ≤ 2) ∧ (if st = 0 then (0 : Int32) else 2).toInt = q := by
    by_cases c : st = 0
    · rw [if_pos c]; exact ⟨0, by omega, rfl⟩
    · rw [if_neg c]; exact ⟨2, by omega, rfl⟩
  obtain ⟨q, hq, h3⟩ := h3
  have h4 : (nd + (if st = 0 then (0 : Int32) else 2)).toInt = nd.toInt + q := by rw [ti_add (by rw [h3]; omega) (by rw [h3]; omega), h3]
  refine ⟨?_, by rw [bw, h4]; omega⟩
  unfold lck
  rw [ti_sub (by rw [h4]; omega) (by rw [h4]; omega)]
theorem szc_eq {size nd st lt sp room : Int32} (hn : bw nd 1 26) (hs : bw sp 0 15) : szc size (lck nd st sp) st lt sp room = szm size nd st lt sp room := by
  obtain ⟨h1, -⟩ := lck_ti (st := st) hn hs
  unfold szc szm
  simp only [i01, mx0, mn_eq]
  have e : (0 < lck nd st sp) = (sp < nd + (if st = 0 then (0 : Int32) else 2)) := by
    apply propext
    rw [ti_lt, ti_lt, h1, ti0]
    omega
  simp only [e]
  rfl
theorem szm_bw {size nd st lt sp room : Int32} (hn : bw nd 1 26) (hs : bw sp 0 15) (hl : bw lt 0 9) (hr : bw room 0 200) (hz : 0 ≤ size.toInt ∧ size.toInt ≤ room.toInt) : 0 ≤ (szm size nd st lt sp room).toInt ∧ (szm size nd st lt sp room).toInt ≤ room.toInt := by
  obtain ⟨h1, h2⟩ := lck_ti (st := st) hn hs
  obtain ⟨r1, r2⟩ := hr
  obtain ⟨s1, s2⟩ := hs
  obtain ⟨l1, l2⟩ := hl
  obtain ⟨z1, z2⟩ := hz
  unfold szm
  simp only [i01]
  by_cases c : sp < nd + (if st = 0 then (0 : Int32) else 2)
  · rw [if_pos c]
    rw [ti_lt] at c
    have hk : ∃ q : Int, (q = 5 ∨ q = 3) ∧ (if st = 0 then (5 : Int32) else 3).toInt = q := by
      by_cases c : st = 0
      · rw [if_pos c]; exact ⟨5, Or.inl rfl, rfl⟩
      · rw [if_neg c]; exact ⟨3, Or.inr rfl, rfl⟩
    obtain ⟨q, hq, hk⟩ := hk
    have h3 : (nd + (if st = 0 then (0 : Int32) else 2) - sp).toInt = (nd + (if st = 0 then (0 : Int32) else 2)).toInt - sp.toInt := h1
    obtain ⟨b1, b2⟩ := h2
    generalize (nd + (if st = 0 then (0 : Int32) else 2) - sp) = y at h3
    generalize (nd + (if st = 0 then (0 : Int32) else 2)) = x at h3 c b1 b2
    have h4 : ((if st = 0 then (5 : Int32) else 3) * y).toInt = q * y.toInt := by
      rw [ti_mul (by rw [hk]; rcases hq with rfl | rfl <;> omega) (by rw [hk]; rcases hq with rfl | rfl <;> omega), hk]
    have h5 : 0 ≤ q * y.toInt ∧ q * y.toInt ≤ 140 := by rcases hq with rfl | rfl <;> omega
    have h6 : (size - (if st = 0 then (5 : Int32) else 3) * y).toInt = size.toInt - q * y.toInt := by
      rw [ti_sub (by rw [h4]; omega) (by rw [h4]; omega), h4]
    by_cases d : 0 ≤ size - (if st = 0 then (5 : Int32) else 3) * y
    · rw [if_pos d, h6]
      rw [ti_le, h6, ti0] at d
      exact ⟨d, by omega⟩
    · rw [if_neg d]; exact ⟨by decide, by rw [ti0]; omega⟩
  · rw [if_neg c]
    have h7 : 0 ≤ lt.toInt * sp.toInt ∧ lt.toInt * sp.toInt ≤ 135 := by
      have g1 : lt.toInt * sp.toInt ≤ 9 * 15 := Int.mul_le_mul l2 s2 s1 (by omega)
      exact ⟨Int.mul_nonneg l1 s1, by omega⟩
    have h8 : (lt * sp).toInt = lt.toInt * sp.toInt := ti_mul (by omega) (by omega)
    have h9 : (lt * sp / 8).toInt = lt.toInt * sp.toInt / 8 := by
      rw [ti_div (by decide), h8, show (8 : Int32).toInt = 8 from rfl, Int.tdiv_eq_ediv_of_nonneg h7.1]
    have h10 : (size + lt * sp / 8).toInt = size.toInt + lt.toInt * sp.toInt / 8 := by
      rw [ti_add (by rw [h9]; omega) (by rw [h9]; omega), h9]
    by_cases d : size + lt * sp / 8 ≤ room
    · rw [if_pos d, h10]
      rw [ti_le, h10] at d
      exact ⟨by omega, d⟩
    · rw [if_neg d]; exact ⟨by omega, Int.le_refl _⟩
theorem lim_ti {s : Int32} (hs : bw s 0 9) : ((24 : Int32) + 4 * s).toInt = 24 + 4 * s.toInt := by
  obtain ⟨s1, s2⟩ := hs
  have h1 : ((4 : Int32) * s).toInt = 4 * s.toInt := ti_mul (by rw [show (4 : Int32).toInt = 4 from rfl]; omega) (by rw [show (4 : Int32).toInt = 4 from rfl]; omega)
  rw [ti_add (by rw [h1, show (24 : Int32).toInt = 24 from rfl]; omega) (by rw [h1, show (24 : Int32).toInt = 24 from rfl]; omega), h1]
  rfl
theorem kn_eq {tw s : Int32} (hs : bw s 0 9) (ht : bw tw (-1000) 1000) : knc tw (24 + 4 * s) = knm tw (24 + 4 * s) ∧ Bz (knm tw (24 + 4 * s)) ∧ (knm tw (24 + 4 * s) = 1 ↔ (24 + 4 * s.toInt < tw.toInt ∨ tw.toInt < -(24 + 4 * s.toInt))) := by
  have hl := lim_ti hs
  obtain ⟨s1, s2⟩ := hs
  obtain ⟨t1, t2⟩ := ht
  generalize (24 : Int32) + 4 * s = lim at hl
  have hneg : (-lim).toInt = -lim.toInt := ti_neg (by omega)
  have habs : (if 0 ≤ tw then tw else 0 - tw).toInt = if 0 ≤ tw.toInt then tw.toInt else -tw.toInt := by
    by_cases c : 0 ≤ tw
    · rw [if_pos c, if_pos (by rw [ti_le, ti0] at c; exact c)]
    · rw [if_neg c, if_neg (by rw [ti_le, ti0] at c; exact c), ti_sub (by rw [ti0]; omega) (by rw [ti0]; omega), ti0]
      omega
  unfold knc knm
  by_cases c1 : lim < tw
  · rw [if_pos c1, if_neg]
    · rw [ti_lt] at c1
      exact ⟨rfl, Or.inr rfl, ⟨fun _ => Or.inl (by omega), fun _ => rfl⟩⟩
    · rw [ti_lt] at c1
      rw [ti_le, habs]
      split <;> omega
  · rw [if_neg c1]
    rw [ti_lt] at c1
    by_cases c2 : -lim ≤ tw
    · rw [if_pos c2]
      rw [ti_le, hneg] at c2
      rw [if_pos (by rw [ti_le, habs]; split <;> omega)]
      exact ⟨rfl, Or.inl rfl, ⟨fun q => absurd q (by decide), fun q => by omega⟩⟩
    · rw [if_neg c2]
      rw [ti_le, hneg] at c2
      rw [if_neg (by rw [ti_le, habs]; split <;> omega)]
      exact ⟨rfl, Or.inr rfl, ⟨fun _ => Or.inr (by omega), fun _ => rfl⟩⟩
