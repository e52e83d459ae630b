-- needs: 85.goon
/-! ===== fewest: the model's loops ===== -/
def ltv (v : Nat) : Nat := if v % 2 = 0 then 4 else 8
theorem ltv_c (v : Nat) : ltv v = 4 ∨ ltv v = 8 := by unfold ltv; split <;> omega
/-- the place of what variant v brings -/
def Sm (room : Nat) (nd : Nat → Nat) (tn : Nat → Nat → Nat → Nat) (g p z v : Nat) : Nat := idx (g + tn p g (v / 2 + 1)) (tn p g (v / 2 + 1)) (szN (nd z) (tn p g (v / 2 + 1)) z (ltv v) room)
theorem nar1 : vp_nar .boolean (1 : Int32) = 1 := by decide
theorem nar0 : vp_nar .boolean (0 : Int32) = 0 := by decide
theorem idx_lt {g t sz : Nat} (hg : g ≤ 180) (ht : t < 16) (hs : sz ≤ 200) : idx g t sz < 582096 ∧ idx g t sz % 201 = sz := by
  unfold idx
  omega
theorem gi_mark {S0 S r : HSt} {N : Nat → Prop} {m i0 sz : Nat} (hG : GI S0 S N m) (hr : ∀ x k, ¬ (x = 64 ∧ 20 ≤ k ∧ k ≤ 26) → gI r x k = gI S x k) (hi : i0 < 582096 ∧ i0 % 201 = sz) : GI S0 (sI r 78 i0 1) (fun i => N i ∨ i = i0) (if sz ≤ m then m else sz) := by
  obtain ⟨g1, g2, g3, g4⟩ := hG
  refine ⟨fun x k h1 h2 => ?_, fun i hi2 => ?_, fun i h => ?_, ?_⟩
  · rw [gs_ne h1, hr x k h2]; exact g1 x k h1 h2
  · rw [gs_eq]
    by_cases q : i = i0
    · rw [if_pos q]; exact Or.inl ⟨rfl, Or.inr q⟩
    · rw [if_neg q, hr 78 i (by omega)]
      rcases g2 i hi2 with ⟨a, b⟩ | ⟨a, b⟩
      · exact Or.inl ⟨a, Or.inl b⟩
      · exact Or.inr ⟨a, fun h => h.elim b q⟩
  · rcases h with h | h
    · have := g3 i h
      split <;> omega
    · subst h
      split <;> omega
  · by_cases q : sz ≤ m
    · rw [if_pos q]
      rcases g4 with h | ⟨i, h1, h2⟩
      · exact Or.inl h
      · exact Or.inr ⟨i, Or.inl h1, h2⟩
    · rw [if_neg q]
      exact Or.inr ⟨i0, Or.inr rfl, hi.2⟩
theorem GI.cg {S0 S : HSt} {N N' : Nat → Prop} {m : Nat} (h : GI S0 S N m) (e : ∀ i, N i ↔ N' i) : GI S0 S N' m := by
  obtain ⟨g1, g2, g3, g4⟩ := h
  refine ⟨g1, fun i hi => ?_, fun i hi => g3 i ((e i).mpr hi), ?_⟩
  · rcases g2 i hi with ⟨a, b⟩ | ⟨a, b⟩
    · exact Or.inl ⟨a, (e i).mp b⟩
    · exact Or.inr ⟨a, fun h => b ((e i).mpr h)⟩
  · rcases g4 with h | ⟨i, h1, h2⟩
    · exact Or.inl h
    · exact Or.inr ⟨i, (e i).mp h1, h2⟩
theorem L86 {room ta mg g p z : Nat} {nd : Nat → Nat} {tn : Nat → Nat → Nat → Nat} {S0 : HSt} (hM : MC room ta mg nd tn S0) (hp : p < 16) (hg : g ≤ mg) (hz : z ≤ room) (v1 : Int32) : ∀ (n v : Nat) (S : HSt) (N : Nat → Prop) (m : Nat), v ≤ 6 → 6 - v < n → GI S0 S N m → m ≤ 200 → ∃ m', m' ≤ 200 ∧ T_X12_goOn_86 n S v1 (nI ta) (nI m) (nI g) (nI p) (nI z) (nI v) ∧ (L_X12_goOn_86 n S v1 (nI ta) (nI m) (nI g) (nI p) (nI z) (nI v)).1 = v1 ∧ (L_X12_goOn_86 n S v1 (nI ta) (nI m) (nI g) (nI p) (nI z) (nI v)).2.1 = nI ta ∧ (L_X12_goOn_86 n S v1 (nI ta) (nI m) (nI g) (nI p) (nI z) (nI v)).2.2.1 = nI m' ∧ (L_X12_goOn_86 n S v1 (nI ta) (nI m) (nI g) (nI p) (nI z) (nI v)).2.2.2.1 = nI g ∧ (L_X12_goOn_86 n S v1 (nI ta) (nI m) (nI g) (nI p) (nI z) (nI v)).2.2.2.2.1 = nI p ∧ (L_X12_goOn_86 n S v1 (nI ta) (nI m) (nI g) (nI p) (nI z) (nI v)).2.2.2.2.2.1 = nI z ∧ GI S0 (L_X12_goOn_86 n S v1 (nI ta) (nI m) (nI g) (nI p) (nI z) (nI v)).2.2.2.2.2.2.2 (fun i => N i ∨ ∃ v', v ≤ v' ∧ v' < 6 ∧ i = Sm room nd tn g p z v') m' := by
  have hroom := hM.2.2.1
  have hmg := hM.2.2.2.2.1
  intro n
  induction n with
  | zero => intro v S N m _ h3; omega
  | succ n ih =>
    intro v S N m h1 h2 hG hm
    unfold T_X12_goOn_86 L_X12_goOn_86
    by_cases c : v = 6
    · subst c
      have c1 : (6 : Int32) ≤ nI 6 := by decide
      rw [if_pos c1]
      refine ⟨m, hm, ⟨fun q => absurd c1 q, fun q => absurd c1 q, fun q => absurd c1 q⟩, rfl, rfl, rfl, rfl, rfl, rfl, hG.cg (fun i => ⟨fun h => Or.inl h, ?_⟩)⟩
      rintro (h | ⟨v', a, b, -⟩)
      · exact h
      · omega
    · have c1 : ¬ (6 : Int32) ≤ nI v := by rw [ti_le, nI_ti (by omega), show (6 : Int32).toInt = 6 from rfl]; omega
      have e2 : nI v / (2 : Int32) = nI (v / 2) := nI_h2 (by omega)
      have e2' : nI v / (2 : Int32) + 1 = nI (v / 2 + 1) := by rw [e2, ← nI_succ]
      have el : (if nI v - nI v / (2 : Int32) * (2 : Int32) = 0 then (4 : Int32) else 8) = nI (ltv v) := by
        have : nI v - nI v / (2 : Int32) * (2 : Int32) = nI (v % 2) := by
          have t2 : (2 : Int32).toInt = 2 := rfl
          have h5 : (nI (v / 2) * (2 : Int32)).toInt = v / 2 * 2 := by
            rw [ti_mul (by rw [nI_ti (by omega), t2]; omega) (by rw [nI_ti (by omega), t2]; omega), nI_ti (by omega), t2]; omega
          rw [e2, ti_eq, ti_sub (by rw [h5, nI_ti (by omega)]; omega) (by rw [h5, nI_ti (by omega)]; omega), h5, nI_ti (by omega), nI_ti (by omega)]
          omega
        rw [this]
        unfold ltv
        by_cases q : v % 2 = 0
        · rw [q]; rfl
        · rw [show v % 2 = 1 by omega]; rfl
      have h68 : gI S 68 = gI S0 68 := by funext k; exact hG.1 68 k (by decide) (by omega)
      have h18 : gI S 64 18 = gI S0 64 18 := hG.1 64 18 (by decide) (by omega)
      obtain ⟨t1, t2, t3, t4, t5⟩ := tick_m (u := v / 2 + 1) hM h68 h18 hp hg (show z ≤ 200 by omega) ⟨by omega, by omega⟩ (ltv_c v)
      have htn := (hM.2.2.2.2.2.2 p g hp hg (v / 2 + 1) (by omega) (by omega)).2
      have hsz := szN_le (nd := nd z) (t := tn p g (v / 2 + 1)) (lt := ltv v) hz
      have hix := idx_lt (g := g + tn p g (v / 2 + 1)) (t := tn p g (v / 2 + 1)) (sz := szN (nd z) (tn p g (v / 2 + 1)) z (ltv v) room) (by omega) htn (by omega)
      have eU : sI (sI (sI (sI S 64 20 (nI z)) 64 21 (nI p)) 64 23 (nI ta + nI g)) 64 22 (0 : Int32) = tU S ta g p z := rfl
      rw [if_neg c1]
      simp only [bd_def]
      rw [eU, el, e2', ← nI_succ]
      generalize hr : f_X12_doTick (tU S ta g p z) 64 0 (nI (v / 2 + 1)) (nI (ltv v)) (-1000000) = r at *
      have ep : f_X12_placeOf r (gI r 64 23 - nI ta) (gI r 64 21) (gI r 64 20) = nI (Sm room nd tn g p z v) := by
        rw [t2, t3, t4, place_m]; rfl
      have hix' : Sm room nd tn g p z v < 582096 ∧ Sm room nd tn g p z v % 201 = szN (nd z) (tn p g (v / 2 + 1)) z (ltv v) room := hix
      rw [ep, nI_clamp' (by omega), nar1, gs_ne (show (64 : Nat) ≠ 78 by decide), t3]
      have em : (if nI (szN (nd z) (tn p g (v / 2 + 1)) z (ltv v) room) ≤ nI m then nI m else nI (szN (nd z) (tn p g (v / 2 + 1)) z (ltv v) room)) = nI (if szN (nd z) (tn p g (v / 2 + 1)) z (ltv v) room ≤ m then m else szN (nd z) (tn p g (v / 2 + 1)) z (ltv v) room) := by
        by_cases q : szN (nd z) (tn p g (v / 2 + 1)) z (ltv v) room ≤ m
        · rw [if_pos q, if_pos (by rw [ti_le, nI_ti (by omega), nI_ti (by omega)]; omega)]
        · rw [if_neg q, if_neg (by rw [ti_le, nI_ti (by omega), nI_ti (by omega)]; omega)]
      rw [em]
      have gm := gi_mark hG t5 hix'
      obtain ⟨m', i0, i1, i2, i3, i4, i5, i6, i7, i8⟩ := ih (v + 1) _ _ _ (by omega) (by omega) gm (by split <;> omega)
      refine ⟨m', i0, ⟨?_, ?_, ?_⟩, i2, i3, i4, i5, i6, i7, i8.cg (fun i => ?_)⟩
      · intro _ S8 e8 S9 e9 S10 e10 S11 e11 x13 e13
        rw [← e13, ← e11, ← e10, ← e9, ← e8, eU]; exact t1
      · intro _ S8 e8 S9 e9 S10 e10 S11 e11 x13 e13 r14 e14
        rw [← e13, ← e11, ← e10, ← e9, ← e8, eU, hr] at e14
        rw [← e14, ep]; exact vp_in_nI hix'.1 (by omega)
      · intro _ S8 e8 S9 e9 S10 e10 S11 e11 x13 e13 r14 e14 S15 e15 x17 e17
        rw [← e13, ← e11, ← e10, ← e9, ← e8, eU, hr] at e14
        rw [← e14, ep, nI_clamp' (by omega)] at e15
        rw [← e15, gs_ne (show (64 : Nat) ≠ 78 by decide), t3, em] at e17
        rw [← e15, ← e17]; exact i1
      · constructor
        · rintro ((h | h) | ⟨v', a, b, c⟩)
          · exact Or.inl h
          · exact Or.inr ⟨v, Nat.le_refl _, by omega, h⟩
          · exact Or.inr ⟨v', by omega, b, c⟩
        · rintro (h | ⟨v', a, b, c⟩)
          · exact Or.inl (Or.inl h)
          · by_cases q : v' = v
            · exact Or.inl (Or.inr (by rw [← q]; assumption))
            · exact Or.inr ⟨v', by omega, b, by assumption⟩
