-- needs: 82.spread
/-! ===== fewest: spread of a cell ===== -/
theorem place_at (S : HSt) {p g : Nat} : f_X3_placeOf S (nI p) (nI g) = nI (cel p g) := by
  show (F_X3_placeOf S (nI p) (nI g)).1 = _
  unfold F_X3_placeOf cel
  rw [pr_1, show (181 : Int32) = nI 181 from rfl, show (4 : Int32) = nI 4 from rfl, pk_mul, nI_add, pk_mul]
theorem bands_f {h nx p g sp wa : Nat} {S0 : HSt} {nd : Nat → Nat} (hhn : h ≠ nx) (hp : p < 16) (hg : g < 181) (hsp : sp < 16) (hg' : g + sp < 181) (hw : gI S0 88 3 = nI wa) (hwa : wa ≤ 200) (hnd : ∀ z, z < 256 → f_X7_needOf S0 18 (nI z) = nI (nd z) ∧ nd z ≤ 40) (hnc : ∀ z, z < 256 → nd z = nd (z / 20 * 20)) (hA : ∀ z, z < 256 → inJ (gJ S0 h) (cel p g) z = true → z < wa) {N : Nat → Nat → Nat → Prop} {S : HSt} (hK : KS nx S0 S) (hAcc : Acc wa nx S N) : p_X3_spreadBands S h nx 88 18 (nI (cel p g)) (nI sp) (nI (cel sp (g + sp))) ∧ KS nx S0 (f_X3_spreadBands S h nx 88 18 (nI (cel p g)) (nI sp) (nI (cel sp (g + sp)))) ∧ Acc wa nx (f_X3_spreadBands S h nx 88 18 (nI (cel p g)) (nI sp) (nI (cel sp (g + sp)))) (fun p1 g1 z' => N p1 g1 z' ∨ (p1 = sp ∧ g1 = g + sp ∧ ∃ z, z < 256 ∧ inJ (gJ S0 h) (cel p g) z = true ∧ suc (fun z => (nd z : Int)) sp z z')) := by
  obtain ⟨a1, a2, a3⟩ := bands_L hhn hp hg hsp hg' hw hwa hnd hnc hA 1000 0 N S (by omega) (by omega) (by omega) hK hAcc
  have e : f_X3_spreadBands S h nx 88 18 (nI (cel p g)) (nI sp) (nI (cel sp (g + sp))) = (L_X3_spreadBands_3 h nx 18 1000 S (nI (cel p g)) (nI sp) (nI (cel sp (g + sp))) (nI 0)).2.2.2.2 := by
    unfold f_X3_spreadBands
    rw [bd_def]
    rw [show nI 0 = (0 : Int32) from rfl]
  rw [e]
  refine ⟨a1, a2, a3.cg (fun p1 g1 z' => ?_)⟩
  constructor
  · rintro (h | ⟨b1, b2, z, -, b3⟩)
    · exact Or.inl h
    · exact Or.inr ⟨b1, b2, z, b3⟩
  · rintro (h | ⟨b1, b2, z, b3⟩)
    · exact Or.inl h
    · exact Or.inr ⟨b1, b2, z, Nat.zero_le _, b3⟩
theorem cell_L {h nx p g wa : Nat} {S0 : HSt} {nd tn : Nat → Nat} (hhn : h ≠ nx) (hp : p < 16) (hg : g < 166) (hw : gI S0 88 3 = nI wa) (hwa : wa ≤ 200) (hnd : ∀ z, z < 256 → f_X7_needOf S0 18 (nI z) = nI (nd z) ∧ nd z ≤ 40) (hnc : ∀ z, z < 256 → nd z = nd (z / 20 * 20)) (hA : ∀ z, z < 256 → inJ (gJ S0 h) (cel p g) z = true → z < wa) (htn : ∀ u, 1 ≤ u → u ≤ 3 → tnd (nI p) (nI u) (gI S0 88 2 + nI g) = nI (tn u) ∧ tn u < 16) : ∀ (n up : Nat) (v5 : Int32) (N : Nat → Nat → Nat → Prop) (S : HSt), 1 ≤ up → up ≤ 4 → 4 - up < n → KS nx S0 S → Acc wa nx S N → (v5 = -1 ∨ ∃ u, 1 ≤ u ∧ u < up ∧ v5 = nI (tn u) ∧ ∀ z', (∃ z, z < 256 ∧ inJ (gJ S0 h) (cel p g) z = true ∧ suc (fun z => (nd z : Int)) (tn u) z z') → N (tn u) (g + tn u) z') → T_X3_spread_6 h nx 18 n S (nI (cel p g)) (nI p) (nI g) v5 (nI up) ∧ KS nx S0 (L_X3_spread_6 h nx 18 n S (nI (cel p g)) (nI p) (nI g) v5 (nI up)).2.2.2.2.2 ∧ Acc wa nx (L_X3_spread_6 h nx 18 n S (nI (cel p g)) (nI p) (nI g) v5 (nI up)).2.2.2.2.2 (fun p1 g1 z' => N p1 g1 z' ∨ ∃ u, up ≤ u ∧ u ≤ 3 ∧ p1 = tn u ∧ g1 = g + tn u ∧ ∃ z, z < 256 ∧ inJ (gJ S0 h) (cel p g) z = true ∧ suc (fun z => (nd z : Int)) (tn u) z z') := by
  intro n
  induction n with
  | zero => intro up v5 N S _ _ h3; omega
  | succ n ih =>
    intro up v5 N S h1 h2 h3 hK hAcc hv
    unfold T_X3_spread_6 L_X3_spread_6
    by_cases c : up = 4
    · subst c
      have c1 : (3 : Int32) < nI 4 := by decide
      rw [if_pos c1]
      refine ⟨⟨fun q => absurd c1 q, fun q => absurd c1 q⟩, hK, hAcc.cg (fun p1 g1 z' => ⟨fun h => Or.inl h, ?_⟩)⟩
      rintro (h | ⟨u, u1, u2, -⟩)
      · exact h
      · omega
    · have c1 : ¬ (3 : Int32) < nI up := by rw [ti_lt, nI_ti (by omega), show (3 : Int32).toInt = 3 from rfl]; omega
      obtain ⟨t1, t2⟩ := htn up h1 (by omega)
      have et : f_X1_turned S (nI p) (nI up) (gI S 88 2 + nI g) = nI (tn up) := by
        rw [turned_eq, hK.1 88 2 (by omega), t1]
      rw [if_neg c1]
      simp only [bd_def]
      rw [et]
      by_cases ce : nI (tn up) = v5
      · -- as before
        rw [if_pos ce, if_pos ce, ← nI_succ]
        obtain ⟨u0, w1, w2, w3, w4⟩ : ∃ u, 1 ≤ u ∧ u < up ∧ v5 = nI (tn u) ∧ ∀ z', (∃ z, z < 256 ∧ inJ (gJ S0 h) (cel p g) z = true ∧ suc (fun z => (nd z : Int)) (tn u) z z') → N (tn u) (g + tn u) z' := by
          rcases hv with hv | hv
          · rw [hv] at ce
            have := congrArg Int32.toInt ce
            rw [nI_ti (by omega), show (-1 : Int32).toInt = -1 from rfl] at this
            omega
          · exact hv
        have eu : tn up = tn u0 := by
          rw [w3] at ce
          have h5 := congrArg Int32.toInt ce
          have := (htn u0 w1 (by omega)).2
          rw [nI_ti (by omega), nI_ti (by omega)] at h5
          omega
        obtain ⟨i1, i2, i3⟩ := ih (up + 1) v5 N S (by omega) (by omega) (by omega) hK hAcc (Or.inr ⟨u0, w1, by omega, w3, w4⟩)
        refine ⟨⟨fun _ y ey q => absurd (by rw [← ey]; exact ce) q, fun _ y ey x7 e7 S1 e1 => ?_⟩, i2, i3.cg (fun p1 g1 z' => ?_)⟩
        · rw [← ey, if_pos ce] at e7 e1; rw [← e1, ← e7]; exact i1
        · constructor
          · rintro (h | ⟨u, u1, u2, u3⟩)
            · exact Or.inl h
            · exact Or.inr ⟨u, by omega, u2, u3⟩
          · rintro (h | ⟨u, u1, u2, u3, u4, u5⟩)
            · exact Or.inl h
            · by_cases q : u = up
              · subst q
                rw [eu] at u3 u4 u5
                rw [u3, u4]
                exact Or.inl (w4 z' u5)
              · exact Or.inr ⟨u, by omega, u2, u3, u4, u5⟩
      · have c16 : ¬ (16 : Int32) ≤ nI (tn up) := by rw [ti_le, nI_ti (by omega), show (16 : Int32).toInt = 16 from rfl]; omega
        have c181 : ¬ (181 : Int32) ≤ nI g + nI (tn up) := by rw [nI_add, ti_le, nI_ti (by omega), show (181 : Int32).toInt = 181 from rfl]; omega
        have ep : f_X3_placeOf S (nI (tn up)) (nI g + nI (tn up)) = nI (cel (tn up) (g + tn up)) := by rw [nI_add, place_at]
        obtain ⟨k1, k2, k3⟩ := bands_f hhn hp (by omega) t2 (by omega) hw hwa hnd hnc hA hK hAcc
        obtain ⟨i1, i2, i3⟩ := ih (up + 1) (nI (tn up)) _ _ (by omega) (by omega) (by omega) k2 k3 (Or.inr ⟨up, h1, by omega, rfl, fun z' hz => Or.inr ⟨rfl, rfl, hz⟩⟩)
        rw [if_neg ce, if_neg c16, if_neg c181, if_neg ce, if_neg c16, if_neg c181, ← nI_succ, ep]
        refine ⟨⟨fun _ y ey _ _ _ => ?_, fun _ y ey x7 e7 S1 e1 => ?_⟩, i2, i3.cg (fun p1 g1 z' => ?_)⟩
        · rw [← ey, ep]; exact k1
        · rw [← ey, if_neg ce, if_neg c16, if_neg c181] at e7 e1
          rw [ep] at e1
          rw [← e1, ← e7]; exact i1
        · constructor
          · rintro ((h | ⟨b1, b2, b3⟩) | ⟨u, u1, u2, u3⟩)
            · exact Or.inl h
            · exact Or.inr ⟨up, Nat.le_refl _, by omega, b1, b2, b3⟩
            · exact Or.inr ⟨u, by omega, u2, u3⟩
          · rintro (h | ⟨u, u1, u2, u3, u4, u5⟩)
            · exact Or.inl (Or.inl h)
            · by_cases q : u = up
              · subst q
                exact Or.inl (Or.inr ⟨u3, u4, u5⟩)
              · exact Or.inr ⟨u, by omega, u2, u3, u4, u5⟩
theorem cell_f {h nx p g wa : Nat} {S : HSt} {nd tn : Nat → Nat} (hhn : h ≠ nx) (hp : p < 16) (hg : g < 166) (hw : gI S 88 3 = nI wa) (hwa : wa ≤ 200) (hnd : ∀ z, z < 256 → f_X7_needOf S 18 (nI z) = nI (nd z) ∧ nd z ≤ 40) (hnc : ∀ z, z < 256 → nd z = nd (z / 20 * 20)) (hA : ∀ z, z < 256 → inJ (gJ S h) (cel p g) z = true → z < wa) (htn : ∀ u, 1 ≤ u → u ≤ 3 → tnd (nI p) (nI u) (gI S 88 2 + nI g) = nI (tn u) ∧ tn u < 16) {N : Nat → Nat → Nat → Prop} (hAcc : Acc wa nx S N) : p_X3_spread S h nx 88 18 (nI (cel p g)) (nI p) (nI g) ∧ KS nx S (f_X3_spread S h nx 88 18 (nI (cel p g)) (nI p) (nI g)) ∧ Acc wa nx (f_X3_spread S h nx 88 18 (nI (cel p g)) (nI p) (nI g)) (fun p1 g1 z' => N p1 g1 z' ∨ ∃ u, 1 ≤ u ∧ u ≤ 3 ∧ p1 = tn u ∧ g1 = g + tn u ∧ ∃ z, z < 256 ∧ inJ (gJ S h) (cel p g) z = true ∧ suc (fun z => (nd z : Int)) (tn u) z z') := by
  have e : f_X3_spread S h nx 88 18 (nI (cel p g)) (nI p) (nI g) = (L_X3_spread_6 h nx 18 1000 S (nI (cel p g)) (nI p) (nI g) (-1) (nI 1)).2.2.2.2.2 := by
    unfold f_X3_spread
    rw [bd_def]
    rw [show nI 1 = (1 : Int32) from rfl]
  rw [e]
  exact cell_L hhn hp hg hw hwa hnd hnc hA htn 1000 1 (-1) N S (by omega) (by omega) (by omega) ⟨fun _ _ _ => rfl, fun _ _ => rfl⟩ hAcc (Or.inl rfl)
/-- emptyAt -/
theorem empty_L (h nx : Nat) {a : Nat} (ha : a + 4 ≤ 11584) : ∀ (n w : Nat) (S : HSt), w ≤ 4 → 4 - w < n → T_X3_emptyAt_2 h nx n S (nI a) (nI w) ∧ gI (L_X3_emptyAt_2 h nx n S (nI a) (nI w)).2.2 = gI S ∧ (∀ x, x ≠ h → gJ (L_X3_emptyAt_2 h nx n S (nI a) (nI w)).2.2 x = gJ S x) ∧ (∀ i, gJ (L_X3_emptyAt_2 h nx n S (nI a) (nI w)).2.2 h i = if a + w ≤ i ∧ i < a + 4 then 0 else gJ S h i) := by
  intro n
  induction n with
  | zero => intro w S _ h; omega
  | succ n ih =>
    intro w S hw hn
    unfold T_X3_emptyAt_2 L_X3_emptyAt_2
    by_cases c : w = 4
    · subst c
      have a1 : (4 : Int32) ≤ nI 4 := by decide
      rw [if_pos a1]
      refine ⟨⟨fun q => absurd a1 q, fun q => absurd a1 q⟩, rfl, fun x _ => rfl, fun i => ?_⟩
      rw [if_neg (by omega)]; rfl
    · have a1 : ¬ (4 : Int32) ≤ nI w := fun q => by have := (le4 (by omega)).mp q; omega
      obtain ⟨i1, i2, i3, i4⟩ := ih (w + 1) (sJ S h (a + w) 0) (by omega) (by omega)
      rw [nI_succ] at i1 i2 i3 i4
      rw [if_neg a1, bd_def, nI_add, nI_clamp' (by omega)]
      refine ⟨⟨fun _ => vp_in_nI (by omega) (by omega), fun _ S1 e1 => by rw [← e1]; exact i1⟩, i2, fun x hx => (i3 x hx).trans ?_, fun i => ?_⟩
      · funext k; rw [gJ_sJ, if_neg hx]
      · rw [i4 i, gJ_sJ, if_pos rfl]
        by_cases d : a + (w + 1) ≤ i ∧ i < a + 4
        · rw [if_pos d, if_pos (by omega)]
        · rw [if_neg d]
          by_cases e : i = a + w
          · rw [if_pos e, if_pos (by omega)]
          · rw [if_neg e, if_neg (by omega)]
