-- needs: 87.go
/-! ===== fewest: a round on both sides ===== -/
/-- the numbers of a search -/
def PX (wa room ta : Nat) (nd : Nat → Nat) (tn : Nat → Nat → Nat → Nat) : Prop := (1 ≤ wa ∧ wa ≤ room ∧ room ≤ 200 ∧ ta ≤ 10000) ∧ (∀ z, z < 256 → nd z = nd (z / 20 * 20) ∧ nd z ≤ 40) ∧ (∀ p g, p < 16 → g < 166 → ∀ u, 1 ≤ u → u ≤ 3 → tnm (nI p) (nI u) (nI (ta + g)) = nI (tn p g u) ∧ tn p g u < 16)
def CXc (wa ta : Nat) (nd : Nat → Nat) (S : HSt) : Prop := gI S 88 3 = nI wa ∧ gI S 88 2 = nI ta ∧ ∀ z, z < 256 → f_X7_needOf S 18 (nI z) = nI (nd z)
def CXm (room ta : Nat) (nd : Nat → Nat) (T : HSt) : Prop := PRm T 18 T ∧ f_X12_ropeOf T 64 0 / (2 : Int32) = nI room ∧ (∀ z, z ≤ 200 → ndm (f_X12_ropeOf T 64 2) (f_X12_ropeOf T 64 1) (nI z) = nI (nd z)) ∧ gI T 71 3 = nI ta
/-- behind j ticks -/
def EQ (wa j h nx : Nat) (S T : HSt) : Prop := gI S 88 4 = 0 ∧ (∀ p g z, p < 16 → g < 181 → z < 256 → inJ (gJ S h) (cel p g) z = true → 1 ≤ z ∧ z < wa ∧ g ≤ 15 * j) ∧ (∀ p g z, p < 16 → g < 181 → 1 ≤ z → z ≤ 200 → (inJ (gJ S h) (cel p g) z = true ↔ ¬ gI T 77 (idx g p z) = 0)) ∧ (∀ p g z, p < 16 → g < 181 → z < 256 → inJ (gJ S nx) (cel p g) z = false)
theorem idx_inj {g t z g' t' z' : Nat} (h1 : t < 16) (h2 : t' < 16) (h3 : z ≤ 200) (h4 : z' ≤ 200) (e : idx g t z = idx g' t' z') : g = g' ∧ t = t' ∧ z = z' := by
  unfold idx at e
  omega
theorem v_of {u : Nat} (hu : 1 ≤ u ∧ u ≤ 3) (b : Nat) (hb : b < 2) : 2 * (u - 1) + b < 6 ∧ (2 * (u - 1) + b) / 2 + 1 = u ∧ ltv (2 * (u - 1) + b) = if b = 0 then 4 else 8 := by
  refine ⟨by omega, by omega, ?_⟩
  unfold ltv
  by_cases q : b = 0
  · rw [if_pos q, if_pos (by omega)]
  · rw [if_neg q, if_neg (by omega)]
theorem one_round {wa room ta j h nx : Nat} {nd : Nat → Nat} {tn : Nat → Nat → Nat → Nat} {S T : HSt} (hhn : h ≠ nx) (hj : j ≤ 11) (hP : PX wa room ta nd tn) (hC : CXc wa ta nd S) (hM : CXm room ta nd T) (hE : EQ wa j h nx S T) : p_X3_spreadAll S h nx 88 18 (nI (15 * j)) ∧ p_X12_goOn T 64 (nI j) ∧ (∀ x k, ¬ (x = 88 ∧ k = 4) → gI (f_X3_spreadAll S h nx 88 18 (nI (15 * j))) x k = gI S x k) ∧ (∀ x k, x ≠ 77 → x ≠ 78 → ¬ (x = 64 ∧ 20 ≤ k ∧ k ≤ 26) → gI (f_X12_goOn T 64 (nI j)).2 x k = gI T x k) ∧ ((gI (f_X3_spreadAll S h nx 88 18 (nI (15 * j))) 88 4 = 1 ∧ ¬ (f_X12_goOn T 64 (nI j)).1 < nI wa) ∨ ((f_X12_goOn T 64 (nI j)).1 < nI wa ∧ EQ wa (j + 1) nx h (f_X3_spreadAll S h nx 88 18 (nI (15 * j))) (f_X12_goOn T 64 (nI j)).2)) := by
  obtain ⟨⟨w1, w2, w3, w4⟩, hnd, htn⟩ := hP
  obtain ⟨c1, c2, c3⟩ := hC
  obtain ⟨m1, m2, m3, m4⟩ := hM
  obtain ⟨q1, q2, q3, q4⟩ := hE
  have hCX : CX wa (15 * j) h nd tn S := by
    refine ⟨c1, by omega, by omega, fun z hz => ⟨c3 z hz, (hnd z hz).2⟩, fun z hz => (hnd z hz).1, fun p g hp hg u h1 h2 => ?_, fun p g z hp hg hz h => ⟨(q2 p g z hp hg hz h).2.1, (q2 p g z hp hg hz h).2.2⟩⟩
    rw [c2, nI_add, tnd_eq]
    exact htn p g hp (by omega) u h1 h2
  obtain ⟨a1, a2⟩ := all_f hhn hCX q1 q4
  have hMC : MC room ta (15 * j) nd tn T := ⟨m1, m2, w3, w4, by omega, fun z hz => ⟨m3 z hz, (hnd z (by omega)).2⟩, fun p g hp hg u h1 h2 => htn p g hp (by omega) u h1 h2⟩
  have hA77 : ∀ g p z, g ≤ 15 * j → p < 16 → z ≤ 200 → 1 ≤ z → ¬ gI T 77 (idx g p z) = 0 → z < wa := fun g p z hg hp hz h1 h => (q2 p g z hp (by omega) (by omega) ((q3 p g z hp (by omega) h1 hz).mpr h)).2.1
  obtain ⟨b1, m, b2, b3, b4, b5, b6, b7⟩ := goOn_f hMC m4 (fun g p z hg hp hz h => by
    by_cases q : z = 0
    · omega
    · have := hA77 g p z hg hp hz (by omega) h
      omega)
  obtain ⟨s1, s2, s3, s4, s5⟩ := a2
  generalize f_X3_spreadAll S h nx 88 18 (nI (15 * j)) = S' at *
  generalize f_X12_goOn T 64 (nI j) = R at *
  have hlt : R.1 < nI wa ↔ m < wa := by rw [b3, ti_lt, nI_ti (by omega), nI_ti (by omega)]; omega
  refine ⟨a1, b1, s1, b4, ?_⟩
  rcases s5 with ⟨⟨p1, g1, z', ⟨p, g, hp, hg, hD, u, u1, u2, u3, u4, z, z1, z2, z3⟩, hz'⟩, h4⟩ | ⟨hno, h4, hbits⟩
  · -- reached
    refine Or.inl ⟨h4, fun hlt' => ?_⟩
    have hm := hlt.mp hlt'
    have hz := q2 p g z hp hg z1 z2
    have h77 := (q3 p g z hp hg hz.1 (by omega)).mp z2
    obtain ⟨-, z4⟩ := z3
    rcases z4 with ⟨z5a, z5⟩ | ⟨z5, z6⟩
    · have z5' : (z' : Int) = z - 5 * ((nd z : Int) - tn p g u) := z5
      have z6' : ((tn p g u : Nat) : Int) < (nd z : Int) := z5a
      omega
    · have z5' : (nd z : Int) ≤ tn p g u := z5
      have key : ∀ b, b < 2 → z + (if b = 0 then 4 else 8) * tn p g u / 8 = z' → False := fun b hb hb2 => by
        obtain ⟨v1, v2, v3⟩ := v_of ⟨u1, u2⟩ b hb
        have hN : Nx room j nd tn T (Sm room nd tn g p z (2 * (u - 1) + b)) := ⟨g, hz.2.2, p, hp, z, hz.1, by omega, h77, _, v1, rfl⟩
        have hle := (b6 _ hN).2
        unfold Sm at hle
        rw [v2, v3] at hle
        have htb := (htn p g hp (by omega) u u1 u2).2
        have hsl : szN (nd z) (tn p g u) z (if b = 0 then 4 else 8) room ≤ room := szN_le (by omega)
        rw [(idx_lt (g := g + tn p g u) (by omega) htb (by omega)).2] at hle
        unfold szN at hle
        rw [if_neg (by omega), hb2] at hle
        by_cases q : z' ≤ room
        · rw [if_pos q] at hle; omega
        · rw [if_neg q] at hle; omega
      rcases z6 with z6 | z6
      · refine key 0 (by omega) ?_
        rw [if_pos rfl]; omega
      · refine key 1 (by omega) ?_
        rw [if_neg (by decide)]; omega
  · -- not reached
    have hm : m < wa := by
      apply Classical.byContradiction
      intro hn
      rcases b7 with h | ⟨i, ⟨g, hg, p, hp, z, hz1, hz2, hz3, v, hv, rfl⟩, hi⟩
      · omega
      · have hzA := (q3 p g z hp (by omega) hz1 hz2).mpr hz3
        have hzw := hA77 g p z hg hp hz2 hz1 hz3
        have htb := (htn p g hp (by omega) (v / 2 + 1) (by omega) (by omega)).2
        have hsl : szN (nd z) (tn p g (v / 2 + 1)) z (ltv v) room ≤ room := szN_le (by omega)
        unfold Sm at hi
        rw [(idx_lt (g := g + tn p g (v / 2 + 1)) (by omega) htb (by omega)).2] at hi
        unfold szN at hi
        by_cases q : tn p g (v / 2 + 1) < nd z
        · rw [if_pos q] at hi; omega
        · rw [if_neg q] at hi
          have hge : wa ≤ z + ltv v * tn p g (v / 2 + 1) / 8 := by split at hi <;> omega
          have := hno (tn p g (v / 2 + 1)) (g + tn p g (v / 2 + 1)) (z + ltv v * tn p g (v / 2 + 1) / 8) ⟨p, g, hp, by omega, ⟨hg, Or.inl hp⟩, v / 2 + 1, by omega, by omega, rfl, rfl, z, by omega, hzA, by omega, Or.inr ⟨by show (nd z : Int) ≤ _; omega, by
            rcases ltv_c v with h | h <;> rw [h] <;> omega⟩⟩
          omega
    refine Or.inr ⟨hlt.mpr hm, h4, fun p1 g1 z' hp1 hg1 hz1 hz => ?_, fun p1 g1 z' hp1 hg1 hz1 hz2 => ?_, fun p g z hp hg hz => ?_⟩
    · have hN := (hbits p1 g1 z' hp1 hg1 hz1).mp hz
      have hw := hno p1 g1 z' hN
      obtain ⟨p, g, hp, hg, hD, u, u1, u2, u3, u4, z, z1, z2, z3, z4⟩ := hN
      have := (htn p g hp (by have := hD.1; omega) u u1 u2).2
      exact ⟨z3, hw, by have := hD.1; omega⟩
    · rw [hbits p1 g1 z' hp1 hg1 (by omega)]
      have hix := idx_lt (g := g1) (t := p1) (sz := z') (by omega) hp1 hz2
      have h77' : ¬ gI R.2 77 (idx g1 p1 z') = 0 ↔ Nx room j nd tn T (idx g1 p1 z') := by
        rcases b5 _ hix.1 with ⟨e1, e2⟩ | ⟨e1, e2⟩
        · rw [e1]; exact ⟨fun _ => e2, fun _ => one_ne⟩
        · rw [e1]; exact ⟨fun h => absurd rfl h, fun h => absurd h e2⟩
      rw [h77']
      constructor
      · rintro ⟨p, g, hp, hg, hD, u, u1, u2, u3, u4, z, z1, z2, z3, z4⟩
        have hz := q2 p g z hp hg z1 z2
        have h77 := (q3 p g z hp hg hz.1 (by omega)).mp z2
        have hwz := hno p1 g1 z' ⟨p, g, hp, hg, hD, u, u1, u2, u3, u4, z, z1, z2, z3, z4⟩
        have key : ∀ b, b < 2 → szN (nd z) (tn p g u) z (if b = 0 then 4 else 8) room = z' → Nx room j nd tn T (idx g1 p1 z') := fun b hb hb2 => by
          obtain ⟨v1, v2, v3⟩ := v_of ⟨u1, u2⟩ b hb
          refine ⟨g, hz.2.2, p, hp, z, hz.1, by omega, h77, 2 * (u - 1) + b, v1, ?_⟩
          unfold Sm
          rw [v2, v3, hb2, u3, u4]
        rcases z4 with ⟨z5, z6⟩ | ⟨z5, z6⟩
        · have z5' : (tn p g u : Int) < nd z := z5
          have z6' : (z' : Int) = z - 5 * ((nd z : Int) - tn p g u) := z6
          refine key 0 (by omega) ?_
          unfold szN
          rw [if_pos (by omega)]; omega
        · have z5' : (nd z : Int) ≤ tn p g u := z5
          rcases z6 with z6 | z6
          · refine key 0 (by omega) ?_
            unfold szN
            rw [if_neg (by omega), if_pos rfl, if_pos (by omega)]; omega
          · refine key 1 (by omega) ?_
            unfold szN
            rw [if_neg (by omega), if_neg (show ¬ (1 : Nat) = 0 by decide), if_pos (by omega)]; omega
      · rintro ⟨g, hg, p, hp, z, hz3, hz4, hz5, v, hv, e⟩
        have hzA := (q3 p g z hp (by omega) hz3 hz4).mpr hz5
        have hzw := hA77 g p z hg hp hz4 hz3 hz5
        have htb := (htn p g hp (by omega) (v / 2 + 1) (by omega) (by omega)).2
        have hsl : szN (nd z) (tn p g (v / 2 + 1)) z (ltv v) room ≤ room := szN_le (by omega)
        unfold Sm at e
        obtain ⟨e1, e2, e3⟩ := idx_inj hp1 htb hz2 (by omega) e
        refine ⟨p, g, hp, by omega, ⟨hg, Or.inl hp⟩, v / 2 + 1, by omega, by omega, e2, e1, z, by omega, hzA, hz1, ?_⟩
        by_cases q : tn p g (v / 2 + 1) < nd z
        · unfold szN at e3
          rw [if_pos q] at e3
          exact Or.inl ⟨by show (_ : Int) < (nd z : Int); omega, by show (z' : Int) = z - 5 * ((nd z : Int) - tn p g (v / 2 + 1)); omega⟩
        · unfold szN at e3
          rw [if_neg q] at e3
          have hxx : z + ltv v * tn p g (v / 2 + 1) / 8 < wa := hno (tn p g (v / 2 + 1)) (g + tn p g (v / 2 + 1)) (z + ltv v * tn p g (v / 2 + 1) / 8) ⟨p, g, hp, by omega, ⟨hg, Or.inl hp⟩, v / 2 + 1, by omega, by omega, rfl, rfl, z, by omega, hzA, by omega, Or.inr ⟨by show (nd z : Int) ≤ _; omega, by
            rcases ltv_c v with h | h <;> rw [h] <;> omega⟩⟩
          rw [if_pos (by omega)] at e3
          refine Or.inr ⟨by show (nd z : Int) ≤ _; omega, ?_⟩
          rcases ltv_c v with h | h
          · rw [h] at e3; left; omega
          · rw [h] at e3; right; omega
    · by_cases hD : Dn (15 * j) 16 0 p g
      · unfold inJ
        rw [s3 p g hp hg hD (z / 64) (by omega)]; exact b_zero _
      · cases hx : inJ (gJ S' h) (cel p g) z
        · rfl
        · exfalso
          unfold inJ at hx
          rw [s4 p g hp hg hD (z / 64) (by omega)] at hx
          have := q2 p g z hp hg hz hx
          exact hD ⟨this.2.2, Or.inl hp⟩
