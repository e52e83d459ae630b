-- needs: 86.loops
/-! ===== fewest: goOn ===== -/
theorem L58 {room ta mg g p : Nat} {nd : Nat → Nat} {tn : Nat → Nat → Nat → Nat} {S0 : HSt} (hM : MC room ta mg nd tn S0) (hp : p < 16) (hg : g ≤ mg) (h77 : ∀ z, z ≤ 200 → ¬ gI S0 77 (idx g p z) = 0 → z ≤ room) (v1 : Int32) : ∀ (n z : Nat) (S : HSt) (N : Nat → Prop) (m : Nat), z ≤ 201 → 201 - z < n → GI S0 S N m → m ≤ 200 → ∃ m', m' ≤ 200 ∧ T_X12_goOn_58 n S v1 (nI ta) (nI m) (nI g) (nI p) (nI z) ∧ (L_X12_goOn_58 n S v1 (nI ta) (nI m) (nI g) (nI p) (nI z)).1 = v1 ∧ (L_X12_goOn_58 n S v1 (nI ta) (nI m) (nI g) (nI p) (nI z)).2.1 = nI ta ∧ (L_X12_goOn_58 n S v1 (nI ta) (nI m) (nI g) (nI p) (nI z)).2.2.1 = nI m' ∧ (L_X12_goOn_58 n S v1 (nI ta) (nI m) (nI g) (nI p) (nI z)).2.2.2.1 = nI g ∧ (L_X12_goOn_58 n S v1 (nI ta) (nI m) (nI g) (nI p) (nI z)).2.2.2.2.1 = nI p ∧ GI S0 (L_X12_goOn_58 n S v1 (nI ta) (nI m) (nI g) (nI p) (nI z)).2.2.2.2.2.2 (fun i => N i ∨ ∃ z', z ≤ z' ∧ z' ≤ 200 ∧ ¬ gI S0 77 (idx g p z') = 0 ∧ ∃ v', v' < 6 ∧ i = Sm room nd tn g p z' v') m' := by
  have hmg := hM.2.2.2.2.1
  intro n
  induction n with
  | zero => intro z S N m _ h3; omega
  | succ n ih =>
    intro z S N m h1 h2 hG hm
    unfold T_X12_goOn_58 L_X12_goOn_58
    by_cases c : z = 201
    · subst c
      have c1 : (201 : Int32) ≤ nI 201 := by decide
      rw [if_pos c1]
      refine ⟨m, hm, ⟨fun q => absurd c1 q, fun q => absurd c1 q, fun q => absurd c1 q⟩, rfl, rfl, rfl, rfl, rfl, hG.cg (fun i => ⟨fun h => Or.inl h, ?_⟩)⟩
      rintro (h | ⟨z', a, b, -⟩)
      · exact h
      · omega
    · have c1 : ¬ (201 : Int32) ≤ nI z := by rw [ti_le, nI_ti (by omega), show (201 : Int32).toInt = 201 from rfl]; omega
      have hix := idx_lt (g := g) (t := p) (sz := z) (by omega) hp (by omega)
      have e77 : gI S 77 (idx g p z) = gI S0 77 (idx g p z) := hG.1 77 _ (by decide) (by omega)
      rw [if_neg c1]
      simp only [bd_def]
      rw [place_m, nI_clamp' (by omega), e77]
      by_cases q : gI S0 77 (idx g p z) = 0
      · simp only [if_pos q]
        rw [← nI_succ]
        obtain ⟨m', i0, i1, i2, i3, i4, i5, i6, i7⟩ := ih (z + 1) S N m (by omega) (by omega) hG hm
        refine ⟨m', i0, ⟨fun _ => vp_in_nI hix.1 (by omega), fun _ q2 => absurd q q2, ?_⟩, i2, i3, i4, i5, i6, i7.cg (fun i => ?_)⟩
        · intro _ x8 e8 x9 e9 x10 e10 x11 e11 x12 e12 x13 e13 S14 e14
          rw [← e8, ← e9, ← e10, ← e11, ← e12, ← e13, ← e14, ← nI_succ]; exact i1
        · constructor
          · rintro (h | ⟨z', a, b⟩)
            · exact Or.inl h
            · exact Or.inr ⟨z', by omega, b⟩
          · rintro (h | ⟨z', a, b, c2, d⟩)
            · exact Or.inl h
            · by_cases q2 : z' = z
              · rw [q2] at c2; exact absurd q c2
              · exact Or.inr ⟨z', by omega, b, c2, d⟩
      · simp only [if_neg q]
        obtain ⟨m1, j0, j1, j2, j3, j4, j5, j6, j7, j8⟩ := L86 hM hp hg (h77 z (by omega) q) v1 1000 0 S N m (by omega) (by omega) hG hm
        rw [show nI 0 = (0 : Int32) from rfl] at j1 j2 j3 j4 j5 j6 j7 j8
        rw [j2, j3, j4, j5, j6, j7, ← nI_succ]
        obtain ⟨m', i0, i1, i2, i3, i4, i5, i6, i7⟩ := ih (z + 1) _ _ m1 (by omega) (by omega) j8 j0
        refine ⟨m', i0, ⟨fun _ => vp_in_nI hix.1 (by omega), fun _ _ => j1, ?_⟩, i2, i3, i4, i5, i6, i7.cg (fun i => ?_)⟩
        · intro _ x8 e8 x9 e9 x10 e10 x11 e11 x12 e12 x13 e13 S14 e14
          rw [← e8, ← e9, ← e10, ← e11, ← e12, ← e13, ← e14, ← nI_succ]; exact i1
        · constructor
          · rintro ((h | ⟨v', -, a, b⟩) | ⟨z', a, b⟩)
            · exact Or.inl h
            · exact Or.inr ⟨z, Nat.le_refl _, by omega, q, v', a, b⟩
            · exact Or.inr ⟨z', by omega, b⟩
          · rintro (h | ⟨z', a, b, c, v', d, e⟩)
            · exact Or.inl (Or.inl h)
            · by_cases q2 : z' = z
              · subst q2; exact Or.inl (Or.inr ⟨v', Nat.zero_le _, d, e⟩)
              · exact Or.inr ⟨z', by omega, b, c, v', d, e⟩
theorem L48 {room ta mg g : Nat} {nd : Nat → Nat} {tn : Nat → Nat → Nat → Nat} {S0 : HSt} (hM : MC room ta mg nd tn S0) (hg : g ≤ mg) (h77 : ∀ p z, p < 16 → z ≤ 200 → ¬ gI S0 77 (idx g p z) = 0 → z ≤ room) (v1 : Int32) : ∀ (n p : Nat) (S : HSt) (N : Nat → Prop) (m : Nat), p ≤ 16 → 16 - p < n → GI S0 S N m → m ≤ 200 → ∃ m', m' ≤ 200 ∧ T_X12_goOn_48 n S v1 (nI ta) (nI m) (nI g) (nI p) ∧ (L_X12_goOn_48 n S v1 (nI ta) (nI m) (nI g) (nI p)).1 = v1 ∧ (L_X12_goOn_48 n S v1 (nI ta) (nI m) (nI g) (nI p)).2.1 = nI ta ∧ (L_X12_goOn_48 n S v1 (nI ta) (nI m) (nI g) (nI p)).2.2.1 = nI m' ∧ (L_X12_goOn_48 n S v1 (nI ta) (nI m) (nI g) (nI p)).2.2.2.1 = nI g ∧ GI S0 (L_X12_goOn_48 n S v1 (nI ta) (nI m) (nI g) (nI p)).2.2.2.2.2 (fun i => N i ∨ ∃ p', p ≤ p' ∧ p' < 16 ∧ ∃ z', 1 ≤ z' ∧ z' ≤ 200 ∧ ¬ gI S0 77 (idx g p' z') = 0 ∧ ∃ v', v' < 6 ∧ i = Sm room nd tn g p' z' v') m' := by
  intro n
  induction n with
  | zero => intro p S N m _ h3; omega
  | succ n ih =>
    intro p S N m h1 h2 hG hm
    unfold T_X12_goOn_48 L_X12_goOn_48
    by_cases c : p = 16
    · subst c
      have c1 : (16 : Int32) ≤ nI 16 := by decide
      rw [if_pos c1]
      refine ⟨m, hm, ⟨fun q => absurd c1 q, fun q => absurd c1 q⟩, rfl, rfl, rfl, rfl, hG.cg (fun i => ⟨fun h => Or.inl h, ?_⟩)⟩
      rintro (h | ⟨p', a, b, -⟩)
      · exact h
      · omega
    · have c1 : ¬ (16 : Int32) ≤ nI p := by rw [ti_le, nI_ti (by omega), show (16 : Int32).toInt = 16 from rfl]; omega
      rw [if_neg c1, bd_def]
      obtain ⟨m1, j0, j1, j2, j3, j4, j5, j6, j7⟩ := L58 hM (show p < 16 by omega) hg (fun z hz => h77 p z (by omega) hz) v1 1000 1 S N m (by omega) (by omega) hG hm
      rw [show nI 1 = (1 : Int32) from rfl] at j1 j2 j3 j4 j5 j6 j7
      obtain ⟨m', i0, i1, i2, i3, i4, i5, i6⟩ := ih (p + 1) _ _ m1 (by omega) (by omega) j7 j0
      rw [j2, j3, j4, j5, j6, ← nI_succ]
      refine ⟨m', i0, ⟨fun _ => j1, fun _ r er => ?_⟩, i2, i3, i4, i5, i6.cg (fun i => ?_)⟩
      · rw [← er, j2, j3, j4, j5, j6, ← nI_succ]; exact i1
      · constructor
        · rintro ((h | ⟨z', a, b, c, d⟩) | ⟨p', a, b⟩)
          · exact Or.inl h
          · exact Or.inr ⟨p, Nat.le_refl _, by omega, z', a, b, c, d⟩
          · exact Or.inr ⟨p', by omega, b⟩
        · rintro (h | ⟨p', a, b, c⟩)
          · exact Or.inl (Or.inl h)
          · by_cases q2 : p' = p
            · subst q2; exact Or.inl (Or.inr (by assumption))
            · exact Or.inr ⟨p', by omega, b, by assumption⟩
theorem L36 {room ta af : Nat} {nd : Nat → Nat} {tn : Nat → Nat → Nat → Nat} {S0 : HSt} (hM : MC room ta (15 * af) nd tn S0) (h77 : ∀ g p z, g ≤ 15 * af → p < 16 → z ≤ 200 → ¬ gI S0 77 (idx g p z) = 0 → z ≤ room) : ∀ (n g : Nat) (S : HSt) (N : Nat → Prop) (m : Nat), g ≤ 15 * af + 1 → 15 * af + 1 - g < n → GI S0 S N m → m ≤ 200 → ∃ m', m' ≤ 200 ∧ T_X12_goOn_36 n S (nI af) (nI ta) (nI m) (nI g) ∧ (L_X12_goOn_36 n S (nI af) (nI ta) (nI m) (nI g)).2.2.1 = nI m' ∧ GI S0 (L_X12_goOn_36 n S (nI af) (nI ta) (nI m) (nI g)).2.2.2.2 (fun i => N i ∨ ∃ g', g ≤ g' ∧ g' ≤ 15 * af ∧ ∃ p', p' < 16 ∧ ∃ z', 1 ≤ z' ∧ z' ≤ 200 ∧ ¬ gI S0 77 (idx g' p' z') = 0 ∧ ∃ v', v' < 6 ∧ i = Sm room nd tn g' p' z' v') m' := by
  have hmg := hM.2.2.2.2.1
  have e15 : (15 : Int32) * nI af = nI (15 * af) := by rw [show (15 : Int32) = nI 15 from rfl, pk_mul]
  intro n
  induction n with
  | zero => intro g S N m _ h3; omega
  | succ n ih =>
    intro g S N m h1 h2 hG hm
    unfold T_X12_goOn_36 L_X12_goOn_36
    rw [e15]
    by_cases c : g = 15 * af + 1
    · have c1 : nI (15 * af) < nI g := by rw [ti_lt, nI_ti (by omega), nI_ti (by omega)]; omega
      rw [if_pos c1]
      refine ⟨m, hm, ⟨fun q => absurd c1 q, fun q => absurd c1 q⟩, rfl, hG.cg (fun i => ⟨fun h => Or.inl h, ?_⟩)⟩
      rintro (h | ⟨g', a, b, -⟩)
      · exact h
      · omega
    · have c1 : ¬ nI (15 * af) < nI g := by rw [ti_lt, nI_ti (by omega), nI_ti (by omega)]; omega
      rw [if_neg c1, bd_def]
      obtain ⟨m1, j0, j1, j2, j3, j4, j5, j6⟩ := L48 hM (show g ≤ 15 * af by omega) (fun p z hp hz => h77 g p z (by omega) hp hz) (nI af) 1000 0 S N m (by omega) (by omega) hG hm
      rw [show nI 0 = (0 : Int32) from rfl] at j1 j2 j3 j4 j5 j6
      obtain ⟨m', i0, i1, i2, i3⟩ := ih (g + 1) _ _ m1 (by omega) (by omega) j6 j0
      rw [j2, j3, j4, j5, ← nI_succ]
      refine ⟨m', i0, ⟨fun _ => j1, fun _ r er => ?_⟩, i2, i3.cg (fun i => ?_)⟩
      · rw [← er, j2, j3, j4, j5, ← nI_succ]; exact i1
      · constructor
        · rintro ((h | ⟨p', -, a, b⟩) | ⟨g', a, b⟩)
          · exact Or.inl h
          · exact Or.inr ⟨g, Nat.le_refl _, by omega, p', a, b⟩
          · exact Or.inr ⟨g', by omega, b⟩
        · rintro (h | ⟨g', a, b, p', c, d⟩)
          · exact Or.inl (Or.inl h)
          · by_cases q2 : g' = g
            · subst q2; exact Or.inl (Or.inr ⟨p', Nat.zero_le _, by assumption, by assumption⟩)
            · exact Or.inr ⟨g', by omega, b, p', by assumption, by assumption⟩
theorem clr78 (v1 v2 v3 : Int32) : ∀ (n k : Nat) (S : HSt), k ≤ 582096 → 582096 - k < n → T_X12_goOn_12 n S v1 v2 v3 (nI k) ∧ (L_X12_goOn_12 n S v1 v2 v3 (nI k)).1 = v1 ∧ (L_X12_goOn_12 n S v1 v2 v3 (nI k)).2.1 = v2 ∧ (L_X12_goOn_12 n S v1 v2 v3 (nI k)).2.2.1 = v3 ∧ (∀ i, gI (L_X12_goOn_12 n S v1 v2 v3 (nI k)).2.2.2.2 78 i = if k ≤ i ∧ i < 582096 then 0 else gI S 78 i) ∧ (∀ x, x ≠ 78 → gI (L_X12_goOn_12 n S v1 v2 v3 (nI k)).2.2.2.2 x = gI S x) := by
  intro n
  induction n with
  | zero => intro k S _ h; omega
  | succ n ih =>
    intro k S hk hn
    unfold T_X12_goOn_12 L_X12_goOn_12
    by_cases c : k = 582096
    · subst c
      have a1 : (582096 : Int32) ≤ nI 582096 := by decide
      rw [if_pos a1]
      refine ⟨⟨fun q => absurd a1 q, fun q => absurd a1 q⟩, rfl, rfl, rfl, fun i => ?_, fun x _ => rfl⟩
      rw [if_neg (by omega)]; rfl
    · have a1 : ¬ (582096 : Int32) ≤ nI k := by rw [ti_le, nI_ti (by omega), show (582096 : Int32).toInt = 582096 from by decide]; omega
      obtain ⟨i1, i2, i3, i4, i5, i6⟩ := ih (k + 1) (sI S 78 k 0) (by omega) (by omega)
      rw [nI_succ] at i1 i2 i3 i4 i5 i6
      rw [if_neg a1, bd_def, nI_clamp' (i := k) (by omega), nar0]
      refine ⟨⟨fun _ => vp_in_nI (by omega) (by omega), fun _ S1 e1 => by rw [← e1]; exact i1⟩, i2, i3, i4, fun i => ?_, fun x hx => (i6 x hx).trans (gs_ne hx)⟩
      rw [i5 i, gs_eq]
      by_cases d : k + 1 ≤ i ∧ i < 582096
      · rw [if_pos d, if_pos (by omega)]
      · rw [if_neg d]
        by_cases e : i = k
        · rw [if_pos e, if_pos (by omega)]
        · rw [if_neg e, if_neg (by omega)]
theorem cpy77 (v1 v2 v3 : Int32) : ∀ (n k : Nat) (S : HSt), k ≤ 582096 → 582096 - k < n → (∀ i, i < 582096 → gI S 78 i = 0 ∨ gI S 78 i = 1) → T_X12_goOn_211 n S v1 v2 v3 (nI k) ∧ (L_X12_goOn_211 n S v1 v2 v3 (nI k)).2.2.1 = v3 ∧ (∀ i, gI (L_X12_goOn_211 n S v1 v2 v3 (nI k)).2.2.2.2 77 i = if k ≤ i ∧ i < 582096 then gI S 78 i else gI S 77 i) ∧ (∀ x, x ≠ 77 → gI (L_X12_goOn_211 n S v1 v2 v3 (nI k)).2.2.2.2 x = gI S x) := by
  intro n
  induction n with
  | zero => intro k S _ h; omega
  | succ n ih =>
    intro k S hk hn hb
    unfold T_X12_goOn_211 L_X12_goOn_211
    by_cases c : k = 582096
    · subst c
      have a1 : (582096 : Int32) ≤ nI 582096 := by decide
      rw [if_pos a1]
      refine ⟨⟨fun q => absurd a1 q, fun q => absurd a1 q, fun q => absurd a1 q⟩, rfl, fun i => ?_, fun x _ => rfl⟩
      rw [if_neg (by omega)]; rfl
    · have a1 : ¬ (582096 : Int32) ≤ nI k := by rw [ti_le, nI_ti (by omega), show (582096 : Int32).toInt = 582096 from by decide]; omega
      have en : vp_nar .boolean (gI S 78 k) = gI S 78 k := by
        rcases hb k (by omega) with h | h
        · rw [h]; exact nar0
        · rw [h]; exact nar1
      have e78 : ∀ v, gI (sI S 77 k v) 78 = gI S 78 := fun v => gs_ne (by decide)
      obtain ⟨i1, i2, i3, i4⟩ := ih (k + 1) (sI S 77 k (gI S 78 k)) (by omega) (by omega) (by rw [e78]; exact hb)
      rw [nI_succ] at i1 i2 i3 i4
      rw [if_neg a1, bd_def, nI_clamp' (i := k) (by omega), en]
      refine ⟨⟨fun _ => vp_in_nI (by omega) (by omega), fun _ => vp_in_nI (by omega) (by omega), fun _ S1 e1 => by rw [← e1]; exact i1⟩, i2, fun i => ?_, fun x hx => (i4 x hx).trans (gs_ne hx)⟩
      rw [i3 i, e78, gs_eq]
      by_cases d : k + 1 ≤ i ∧ i < 582096
      · rw [if_pos d, if_pos (by omega)]
      · rw [if_neg d]
        by_cases e : i = k
        · subst e; rw [if_pos rfl, if_pos (by omega)]
        · rw [if_neg e, if_neg (by omega)]

/-- the places that one tick of all brings -/
def Nx (room af : Nat) (nd : Nat → Nat) (tn : Nat → Nat → Nat → Nat) (S : HSt) (i : Nat) : Prop := ∃ g, g ≤ 15 * af ∧ ∃ p, p < 16 ∧ ∃ z, 1 ≤ z ∧ z ≤ 200 ∧ ¬ gI S 77 (idx g p z) = 0 ∧ ∃ v, v < 6 ∧ i = Sm room nd tn g p z v
theorem MC.cg {room ta mg : Nat} {nd : Nat → Nat} {tn : Nat → Nat → Nat → Nat} {S T : HSt} (h : MC room ta mg nd tn S) (h68 : gI T 68 = gI S 68) (h18 : gI T 64 18 = gI S 64 18) (hr : gI T 18 = gI S 18) : MC room ta mg nd tn T := by
  obtain ⟨m1, m2, m3, m4, m5, m6, m7⟩ := h
  refine ⟨?_, ?_, m3, m4, m5, ?_, m7⟩
  · have := PRm.cg h68 h18 m1
    unfold PRm at this ⊢
    rw [hr]; exact this
  · rw [rope_cg h68 h18]; exact m2
  · rw [rope_cg h68 h18, rope_cg h68 h18]; exact m6
theorem goOn_f {room ta af : Nat} {nd : Nat → Nat} {tn : Nat → Nat → Nat → Nat} {S : HSt} (hM : MC room ta (15 * af) nd tn S) (h3 : gI S 71 3 = nI ta) (h77 : ∀ g p z, g ≤ 15 * af → p < 16 → z ≤ 200 → ¬ gI S 77 (idx g p z) = 0 → z ≤ room) : p_X12_goOn S 64 (nI af) ∧ ∃ m, m ≤ 200 ∧ (f_X12_goOn S 64 (nI af)).1 = nI m ∧ (∀ x k, x ≠ 77 → x ≠ 78 → ¬ (x = 64 ∧ 20 ≤ k ∧ k ≤ 26) → gI (f_X12_goOn S 64 (nI af)).2 x k = gI S x k) ∧ (∀ i, i < 582096 → (gI (f_X12_goOn S 64 (nI af)).2 77 i = 1 ∧ Nx room af nd tn S i) ∨ (gI (f_X12_goOn S 64 (nI af)).2 77 i = 0 ∧ ¬ Nx room af nd tn S i)) ∧ (∀ i, Nx room af nd tn S i → i < 582096 ∧ i % 201 ≤ m) ∧ (m = 0 ∨ ∃ i, Nx room af nd tn S i ∧ i % 201 = m) := by
  have hF := FU_eq
  obtain ⟨a1, a2, a3, a4, a5, a6⟩ := clr78 (nI af) (nI ta) (nI 0) FU 0 S (by omega) (by omega)
  rw [show nI 0 = (0 : Int32) from rfl] at a1 a2 a3 a4 a5 a6
  have e71 : gI S 71 (3 : Int32).toNatClampNeg = nI ta := h3
  unfold f_X12_goOn p_X12_goOn
  simp only [bd_def]
  rw [e71]
  generalize hr2 : L_X12_goOn_12 FU S (nI af) (nI ta) 0 0 = r2 at *
  have hM2 : MC room ta (15 * af) nd tn r2.2.2.2.2 := hM.cg (a6 68 (by decide)) (by rw [a6 64 (by decide)]) (a6 18 (by decide))
  have b77 : gI r2.2.2.2.2 77 = gI S 77 := a6 77 (by decide)
  have hG0 : GI r2.2.2.2.2 r2.2.2.2.2 (fun _ => False) 0 := by
    refine ⟨fun _ _ _ _ => rfl, fun i hi => Or.inr ⟨?_, fun h => h⟩, fun i h => h.elim, Or.inl rfl⟩
    rw [a5 i, if_pos ⟨Nat.zero_le _, hi⟩]
  obtain ⟨m, c0, c1, c2, c3⟩ := L36 hM2 (by rw [b77]; exact h77) 1000 0 r2.2.2.2.2 _ 0 (by omega) (by have := hM.2.2.2.2.1; omega) hG0 (by omega)
  rw [show nI 0 = (0 : Int32) from rfl] at c1 c2 c3
  rw [a2, a3, a4]
  generalize hr3 : L_X12_goOn_36 1000 r2.2.2.2.2 (nI af) (nI ta) 0 0 = r3 at *
  obtain ⟨g1, g2, g3, g4⟩ := c3
  have hb : ∀ i, i < 582096 → gI r3.2.2.2.2 78 i = 0 ∨ gI r3.2.2.2.2 78 i = 1 := fun i hi => by
    rcases g2 i hi with h | h
    · exact Or.inr h.1
    · exact Or.inl h.1
  obtain ⟨d1, d2, d3, d4⟩ := cpy77 r3.1 r3.2.1 r3.2.2.1 FU 0 r3.2.2.2.2 (by omega) (by omega) hb
  rw [show nI 0 = (0 : Int32) from rfl] at d1 d2 d3 d4
  generalize hr4 : L_X12_goOn_211 FU r3.2.2.2.2 r3.1 r3.2.1 r3.2.2.1 0 = r4 at *
  have hN : ∀ i, (False ∨ ∃ g', 0 ≤ g' ∧ g' ≤ 15 * af ∧ ∃ p', p' < 16 ∧ ∃ z', 1 ≤ z' ∧ z' ≤ 200 ∧ ¬ gI r2.2.2.2.2 77 (idx g' p' z') = 0 ∧ ∃ v', v' < 6 ∧ i = Sm room nd tn g' p' z' v') ↔ Nx room af nd tn S i := fun i => by
    unfold Nx
    rw [b77]
    constructor
    · rintro (h | ⟨g, -, h⟩)
      · exact h.elim
      · exact ⟨g, h⟩
    · rintro ⟨g, h⟩
      exact Or.inr ⟨g, Nat.zero_le _, h⟩
  refine ⟨⟨fun x e => ?_, fun x e r er => ?_, fun x e r er r' er' => ?_⟩, m, c0, ?_, fun x k h1 h2 h3 => ?_, fun i hi => ?_, fun i h => g3 i ((hN i).mpr h), ?_⟩
  · rw [← e]; exact a1
  · rw [← e, hr2] at er; rw [← er, a2, a3, a4]; exact c1
  · rw [← e, hr2] at er; rw [← er, a2, a3, a4, hr3] at er'; rw [← er']; exact d1
  · rw [pr_1, d2, c2]
  · rw [pr_2, d4 x h1, g1 x k h2 h3, a6 x h2]
  · rw [pr_2, d3 i, if_pos ⟨Nat.zero_le _, hi⟩]
    rcases g2 i hi with ⟨u1, u2⟩ | ⟨u1, u2⟩
    · exact Or.inl ⟨u1, (hN i).mp u2⟩
    · exact Or.inr ⟨u1, fun h => u2 ((hN i).mpr h)⟩
  · rcases g4 with h | ⟨i, u1, u2⟩
    · exact Or.inl h
    · exact Or.inr ⟨i, (hN i).mp u1, u2⟩
