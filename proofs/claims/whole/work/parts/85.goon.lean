-- needs: 84.all
/-! ===== fewest: the model's one tick of all ===== -/
def idx (g p z : Nat) : Nat := (16 * g + p) * 201 + z
theorem place_m (S : HSt) {g p z : Nat} : f_X12_placeOf S (nI g) (nI p) (nI z) = nI (idx g p z) := by
  show (F_X12_placeOf S (nI g) (nI p) (nI z)).1 = _
  unfold F_X12_placeOf idx
  rw [pr_1, show (16 : Int32) = nI 16 from rfl, show (201 : Int32) = nI 201 from rfl, pk_mul, nI_add, pk_mul, nI_add]
/-- the size behind a tick, bounded by the room -/
def szN (nd t z lt room : Nat) : Nat := if t < nd then z - 5 * (nd - t) else (if z + lt * t / 8 ≤ room then z + lt * t / 8 else room)
theorem szm_v {nd t z lt room : Nat} (hn : nd ≤ 40) (ht : t < 16) (hz : z ≤ 200) (hr : room ≤ 200) (hl : lt = 4 ∨ lt = 8) : szm (nI z) (nI nd) 0 (nI lt) (nI t) (nI room) = nI (szN nd t z lt room) := by
  have hl8 : lt ≤ 8 := by omega
  have e8 : (8 : Int32).toInt = 8 := rfl
  have e5 : (5 : Int32).toInt = 5 := rfl
  have en : nI nd + (0 : Int32) = nI nd := by rw [show (0 : Int32) = nI 0 from rfl, nI_add]; rfl
  unfold szm szN
  rw [if_pos (rfl : (0 : Int32) = 0), if_pos (rfl : (0 : Int32) = 0), en]
  by_cases q : t < nd
  · have q1 : nI t < nI nd := by rw [ti_lt, nI_ti (by omega), nI_ti (by omega)]; omega
    rw [if_pos q1, if_pos rfl, if_pos q]
    have h1 : (nI nd - nI t).toInt = (nd : Int) - t := by rw [ti_sub (by rw [nI_ti (by omega), nI_ti (by omega)]; omega) (by rw [nI_ti (by omega), nI_ti (by omega)]; omega), nI_ti (by omega), nI_ti (by omega)]
    have h2 : ((5 : Int32) * (nI nd - nI t)).toInt = 5 * ((nd : Int) - t) := by rw [ti_mul (by rw [h1, e5]; omega) (by rw [h1, e5]; omega), h1, e5]
    have h3 : (nI z - (5 : Int32) * (nI nd - nI t)).toInt = z - 5 * ((nd : Int) - t) := by rw [ti_sub (by rw [h2, nI_ti (by omega)]; omega) (by rw [h2, nI_ti (by omega)]; omega), h2, nI_ti (by omega)]
    by_cases q2 : 0 ≤ nI z - (5 : Int32) * (nI nd - nI t)
    · rw [if_pos q2, ti_eq, h3, nI_ti (by omega)]
      rw [ti_le, ti0, h3] at q2
      omega
    · rw [if_neg q2, ti_eq, ti0, nI_ti (by omega)]
      rw [ti_le, ti0, h3] at q2
      omega
  · have q1 : ¬ nI t < nI nd := by rw [ti_lt, nI_ti (by omega), nI_ti (by omega)]; omega
    rw [if_neg q1, if_neg one_ne, if_neg q]
    have hm : lt * t ≤ 8 * 15 := Nat.mul_le_mul hl8 (by omega)
    have h1 : nI lt * nI t / (8 : Int32) = nI (lt * t / 8) := by
      rw [pk_mul, ti_eq, ti_div (by decide), nI_ti (by omega), nI_ti (by omega), e8, Int.tdiv_eq_ediv_of_nonneg (by omega)]
      omega
    rw [h1, nI_add]
    by_cases q2 : z + lt * t / 8 ≤ room
    · rw [if_pos q2, if_pos (by rw [ti_le, nI_ti (by omega), nI_ti (by omega)]; omega)]
    · rw [if_neg q2, if_neg (by rw [ti_le, nI_ti (by omega), nI_ti (by omega)]; omega)]
theorem szN_le {nd t z lt room : Nat} (hz : z ≤ room) : szN nd t z lt room ≤ room := by
  unfold szN
  split
  · omega
  · split <;> omega
/-- what the model's ticks need -/
def MC (room ta mg : Nat) (nd : Nat → Nat) (tn : Nat → Nat → Nat → Nat) (S0 : HSt) : Prop := PRm S0 18 S0 ∧ f_X12_ropeOf S0 64 0 / (2 : Int32) = nI room ∧ room ≤ 200 ∧ ta ≤ 10000 ∧ mg < 166 ∧ (∀ z, z ≤ 200 → ndm (f_X12_ropeOf S0 64 2) (f_X12_ropeOf S0 64 1) (nI z) = nI (nd z) ∧ nd z ≤ 40) ∧ (∀ p g, p < 16 → g ≤ mg → ∀ u, 1 ≤ u → u ≤ 3 → tnm (nI p) (nI u) (nI (ta + g)) = nI (tn p g u) ∧ tn p g u < 16)
def GI (S0 S : HSt) (N : Nat → Prop) (m : Nat) : Prop := (∀ x k, x ≠ 78 → ¬ (x = 64 ∧ 20 ≤ k ∧ k ≤ 26) → gI S x k = gI S0 x k) ∧ (∀ i, i < 582096 → (gI S 78 i = 1 ∧ N i) ∨ (gI S 78 i = 0 ∧ ¬ N i)) ∧ (∀ i, N i → i < 582096 ∧ i % 201 ≤ m) ∧ (m = 0 ∨ ∃ i, N i ∧ i % 201 = m)
theorem rope_cg {T S0 : HSt} (h68 : gI T 68 = gI S0 68) (h18 : gI T 64 18 = gI S0 64 18) (k : Int32) : f_X12_ropeOf T 64 k = f_X12_ropeOf S0 64 k := by
  show (F_X12_ropeOf T 64 k).1 = (F_X12_ropeOf S0 64 k).1
  unfold F_X12_ropeOf
  rw [pr_1, pr_1, h68, h18]
theorem PRm.cg {T S0 : HSt} (h68 : gI T 68 = gI S0 68) (h18 : gI T 64 18 = gI S0 64 18) (h : PRm S0 18 S0) : PRm S0 18 T := by
  unfold PRm at h ⊢
  rw [rope_cg h68 h18, rope_cg h68 h18, rope_cg h68 h18, h18]
  exact h
/-- the heap before a tick of state g p z -/
noncomputable def tU (S : HSt) (ta g p z : Nat) : HSt := sI (sI (sI (sI S 64 20 (nI z)) 64 21 (nI p)) 64 23 (nI ta + nI g)) 64 22 (0 : Int32)
theorem tick_m {room ta mg g p z u lt : Nat} {nd : Nat → Nat} {tn : Nat → Nat → Nat → Nat} {S0 S : HSt} (hM : MC room ta mg nd tn S0) (h68 : gI S 68 = gI S0 68) (h18 : gI S 64 18 = gI S0 64 18) (hp : p < 16) (hg : g ≤ mg) (hz : z ≤ 200) (hu : 1 ≤ u ∧ u ≤ 3) (hl : lt = 4 ∨ lt = 8) : p_X12_doTick (tU S ta g p z) 64 0 (nI u) (nI lt) (-1000000) ∧ gI (f_X12_doTick (tU S ta g p z) 64 0 (nI u) (nI lt) (-1000000)) 64 21 = nI (tn p g u) ∧ gI (f_X12_doTick (tU S ta g p z) 64 0 (nI u) (nI lt) (-1000000)) 64 20 = nI (szN (nd z) (tn p g u) z lt room) ∧ gI (f_X12_doTick (tU S ta g p z) 64 0 (nI u) (nI lt) (-1000000)) 64 23 - nI ta = nI (g + tn p g u) ∧ (∀ x k, ¬ (x = 64 ∧ 20 ≤ k ∧ k ≤ 26) → gI (f_X12_doTick (tU S ta g p z) 64 0 (nI u) (nI lt) (-1000000)) x k = gI S x k) := by
  obtain ⟨m1, m2, m3, m4, m5, m6, m7⟩ := hM
  have u68 : gI (tU S ta g p z) 68 = gI S0 68 := by
    unfold tU
    rw [gs_ne (show (68 : Nat) ≠ 64 by decide), gs_ne (show (68 : Nat) ≠ 64 by decide), gs_ne (show (68 : Nat) ≠ 64 by decide), gs_ne (show (68 : Nat) ≠ 64 by decide), h68]
  have u18 : gI (tU S ta g p z) 64 18 = gI S0 64 18 := by
    unfold tU
    rw [gs_o (by decide), gs_o (by decide), gs_o (by decide), gs_o (by decide), h18]
  have u20 : gI (tU S ta g p z) 64 20 = nI z := by
    unfold tU
    rw [gs_o (by decide), gs_o (by decide), gs_o (by decide), gs_eq, if_pos rfl]
  have u21 : gI (tU S ta g p z) 64 21 = nI p := by
    unfold tU
    rw [gs_o (by decide), gs_o (by decide), gs_eq, if_pos rfl]
  have u23 : gI (tU S ta g p z) 64 23 = nI (ta + g) := by
    unfold tU
    rw [gs_o (by decide), gs_eq, if_pos rfl, nI_add]
  have ur : ∀ k, f_X12_ropeOf (tU S ta g p z) 64 k = f_X12_ropeOf S0 64 k := fun k => rope_cg u68 u18 k
  obtain ⟨t1, t2⟩ := m7 p g hp hg u hu.1 hu.2
  have hrest : ∀ x k, ¬ (x = 64 ∧ 20 ≤ k ∧ k ≤ 26) → gI (tU S ta g p z) x k = gI S x k := fun x k hx => by
    unfold tU
    by_cases q : x = 64
    · subst q
      rw [gs_o (by omega), gs_o (by omega), gs_o (by omega), gs_o (by omega)]
    · rw [gs_ne q, gs_ne q, gs_ne q, gs_ne q]
  have hv := v_X12_doTick (tU S ta g p z) 64 0 (nI u) (nI lt) (-1000000)
  refine ⟨p_tick (PRm.cg u68 u18 m1) _ _ _ _, ?_, ?_, ?_, fun x k hx => ?_⟩
  · rw [tck_21, u21, u23, t1]
  · rw [tck_20, u20, u21, u23, t1, ur, ur, ur, (m6 z hz).1, m2]
    exact szm_v (m6 z hz).2 t2 hz m3 hl
  · rw [tck_23, u21, u23, t1, nI_add, ti_eq, ti_sub (by rw [nI_ti (by omega), nI_ti (by omega)]; omega) (by rw [nI_ti (by omega), nI_ti (by omega)]; omega), nI_ti (by omega), nI_ti (by omega), nI_ti (by omega)]
    omega
  · rw [hv x k (fun q => ?_) (fun q => ?_)]
    · exact hrest x k hx
    · simp only [List.mem_cons, Prod.mk.injEq, List.not_mem_nil, or_false] at q
      omega
    · simp only [List.mem_cons, Prod.mk.injEq, List.not_mem_nil, or_false] at q
      omega
