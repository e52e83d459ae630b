-- needs: 81.bands
/-! ===== fewest: spreadBands ===== -/
theorem nI_h2 {s : Nat} (hs : s < 1000) : nI s / (2 : Int32) = nI (s / 2) := by
  rw [ti_eq, ti_div (by decide), nI_ti (by omega), nI_ti (by omega), show (2 : Int32).toInt = 2 from rfl, Int.tdiv_eq_ediv_of_nonneg (by omega)]
  omega
theorem bands_L {h nx p g sp wa : Nat} {S0 : HSt} {nd : Nat → Nat} (hhn : h ≠ nx) (hp : p < 16) (hg : g < 181) (hsp : sp < 16) (hg' : g + sp < 181) (hw : gI S0 88 3 = nI wa) (hwa : wa ≤ 200) (hnd : ∀ z, z < 256 → f_X7_needOf S0 18 (nI z) = nI (nd z) ∧ nd z ≤ 40) (hnc : ∀ z, z < 256 → nd z = nd (z / 20 * 20)) (hA : ∀ z, z < 256 → inJ (gJ S0 h) (cel p g) z = true → z < wa) : ∀ (n low : Nat) (N : Nat → Nat → Nat → Prop) (S : HSt), low % 20 = 0 → low ≤ 220 → 220 - low < 20 * n → KS nx S0 S → Acc wa nx S N → T_X3_spreadBands_3 h nx 18 n S (nI (cel p g)) (nI sp) (nI (cel sp (g + sp))) (nI low) ∧ KS nx S0 (L_X3_spreadBands_3 h nx 18 n S (nI (cel p g)) (nI sp) (nI (cel sp (g + sp))) (nI low)).2.2.2.2 ∧ Acc wa nx (L_X3_spreadBands_3 h nx 18 n S (nI (cel p g)) (nI sp) (nI (cel sp (g + sp))) (nI low)).2.2.2.2 (fun p1 g1 z' => N p1 g1 z' ∨ (p1 = sp ∧ g1 = g + sp ∧ ∃ z, low ≤ z ∧ z < 256 ∧ inJ (gJ S0 h) (cel p g) z = true ∧ suc (fun z => (nd z : Int)) sp z z')) := by
  intro n
  induction n with
  | zero => intro low N S _ _ h3; omega
  | succ n ih =>
    intro low N S h1 h2 h3 hK hAcc
    have hw' : gI S 88 3 = nI wa := by rw [hK.1 88 3 (by omega), hw]
    unfold T_X3_spreadBands_3 L_X3_spreadBands_3
    rw [hw']
    by_cases c : nI wa ≤ nI low
    · have c' : wa ≤ low := by rw [ti_le, nI_ti (by omega), nI_ti (by omega)] at c; omega
      rw [if_pos c]
      refine ⟨⟨fun q => absurd c q, fun q => absurd c q, fun q => absurd c q, fun q => absurd c q, fun q => absurd c q⟩, hK, hAcc.cg (fun p1 g1 z' => ⟨fun h => Or.inl h, ?_⟩)⟩
      rintro (h | ⟨-, -, z, z1, z2, z3, -⟩)
      · exact h
      · have := hA z z2 z3; omega
    · have c' : low < wa := by rw [ti_le, nI_ti (by omega), nI_ti (by omega)] at c; omega
      rw [if_neg c]
      simp only [bd_def]
      obtain ⟨pb, hb⟩ := band_at S h nx (cel_lt hp hg) (low := low) (by omega)
      rw [hK.2 h hhn] at hb
      have hb20 : ∀ j, 20 ≤ j → b64 (f_X3_bandAt S h nx 88 (nI (cel p g)) (nI low)) j = false := fun j hj => by
        rw [hb j, decide_eq_false (by omega), Bool.false_and]
      have e20 : nI low + (20 : Int32) = nI (low + 20) := by rw [show (20 : Int32) = nI 20 from rfl, nI_add]
      rw [e20]
      generalize f_X3_bandAt S h nx 88 (nI (cel p g)) (nI low) = x at *
      by_cases cx : lg_cmp x 0 = 0
      · have hx0 := b_ext.mp ((lgc_0 x).mp cx)
        have hno : ∀ z, low ≤ z → z < low + 20 → inJ (gJ S0 h) (cel p g) z = true → False := fun z a1 a2 a3 => by
          have := hb (z - low)
          rw [hx0 _ (by omega), decide_eq_true (by omega), Bool.true_and, show low + (z - low) = z by omega, a3] at this
          exact absurd this (by decide)
        obtain ⟨i1, i2, i3⟩ := ih (low + 20) N S (by omega) (by omega) (by omega) hK hAcc
        rw [if_pos cx]
        refine ⟨⟨fun _ => pb, fun _ y ey q => absurd (by rw [← ey]; exact cx) q, fun _ y ey q => absurd (by rw [← ey]; exact cx) q, fun _ y ey q => absurd (by rw [← ey]; exact cx) q, fun _ y ey S1 e1 => ?_⟩, i2, i3.cg (fun p1 g1 z' => ?_)⟩
        · rw [← ey, if_pos cx] at e1; rw [← e1]; exact i1
        · constructor
          · rintro (h | ⟨a1, a2, z, a3, a4, a5, a6⟩)
            · exact Or.inl h
            · exact Or.inr ⟨a1, a2, z, by omega, a4, a5, a6⟩
          · rintro (h | ⟨a1, a2, z, a3, a4, a5, a6⟩)
            · exact Or.inl h
            · by_cases q : z < low + 20
              · exact (hno z a3 q a5).elim
              · exact Or.inr ⟨a1, a2, z, by omega, a4, a5, a6⟩
      · rw [if_neg cx]
        obtain ⟨hnd1, hnd2⟩ := hnd low (by omega)
        have hneed : f_X7_needOf S 18 (nI low) = nI (nd low) := (needK hK _).trans hnd1
        have hlk : (nI (nd low) - nI sp).toInt = (nd low : Int) - sp := by
          rw [ti_sub (by rw [nI_ti (by omega), nI_ti (by omega)]; omega) (by rw [nI_ti (by omega), nI_ti (by omega)]; omega), nI_ti (by omega), nI_ti (by omega)]
        have hz20 : ∀ z, low ≤ z → z < low + 20 → nd z = nd low := fun z a1 a2 => by
          rw [hnc z (by omega)]; congr 1; omega
        rw [hneed]
        by_cases cl : nI (nd low) - nI sp ≤ 0
        · have cl' : nd low ≤ sp := by rw [ti_le, hlk, ti0] at cl; omega
          rw [if_pos cl, nI_h2 (by omega), nI_add, nI_add]
          have b1 : (nI (low + sp / 2)).toInt = low + ((sp / 2 : Nat) : Int) := by rw [nI_ti (by omega)]; omega
          have b2 : (nI (low + sp)).toInt = low + (sp : Int) := by rw [nI_ti (by omega)]; omega
          obtain ⟨k1, k2, k3⟩ := acc_add (h := h) hK hAcc hw hwa hsp hg' (a3 := nI (low + sp / 2)) (by rw [b1]; omega) (by rw [b1]; omega) hb20
          obtain ⟨m1, m2, m3⟩ := acc_add (h := h) k2 k3 hw hwa hsp hg' (a3 := nI (low + sp)) (by rw [b2]; omega) (by rw [b2]; omega) hb20
          obtain ⟨i1, i2, i3⟩ := ih (low + 20) _ _ (by omega) (by omega) (by omega) m2 m3
          refine ⟨⟨fun _ => pb, fun _ y ey q v ev qv => ?_, fun _ y ey q v ev qv r er => ?_, fun _ y ey q v ev qv => absurd (by rw [← ev]; exact cl) qv, fun _ y ey S1 e1 => ?_⟩, i2, i3.cg (fun p1 g1 z' => ?_)⟩
          · rw [← ey]; exact k1
          · rw [← er, ← ey]; exact m1
          · rw [← ey, if_neg cx, if_pos cl] at e1; rw [← e1]; exact i1
          · rw [nwZ_iff (low := low) (d := ((sp / 2 : Nat) : Int)) (A := inJ (gJ S0 h) (cel p g)) b1 hb, nwZ_iff (low := low) (d := (sp : Int)) (A := inJ (gJ S0 h) (cel p g)) b2 hb]
            constructor
            · rintro (((h | ⟨a1, a2, a3, z, a4, a5, a6, a7⟩) | ⟨a1, a2, a3, z, a4, a5, a6, a7⟩) | ⟨a1, a2, z, a3, a4, a5, a6⟩)
              · exact Or.inl h
              · exact Or.inr ⟨a1, a2, z, a4, by omega, a6, a3, Or.inr ⟨by show (nd z : Int) ≤ sp; rw [hz20 z a4 a5]; omega, Or.inl (by omega)⟩⟩
              · exact Or.inr ⟨a1, a2, z, a4, by omega, a6, a3, Or.inr ⟨by show (nd z : Int) ≤ sp; rw [hz20 z a4 a5]; omega, Or.inr (by omega)⟩⟩
              · exact Or.inr ⟨a1, a2, z, by omega, a4, a5, a6⟩
            · rintro (h | ⟨a1, a2, z, a3, a4, a5, a6, a7⟩)
              · exact Or.inl (Or.inl (Or.inl h))
              · by_cases q : z < low + 20
                · rcases a7 with ⟨b3, -⟩ | ⟨-, b3 | b3⟩
                  · have : (sp : Int) < nd z := b3
                    rw [hz20 z a3 q] at this; omega
                  · exact Or.inl (Or.inl (Or.inr ⟨a1, a2, a6, z, a3, q, a5, by omega⟩))
                  · exact Or.inl (Or.inr ⟨a1, a2, a6, z, a3, q, a5, by omega⟩)
                · exact Or.inr ⟨a1, a2, z, by omega, a4, a5, a6, a7⟩
        · have cl' : sp < nd low := by rw [ti_le, hlk, ti0] at cl; omega
          rw [if_neg cl]
          have e5 : (5 : Int32).toInt = 5 := rfl
          have b5 : ((5 : Int32) * (nI (nd low) - nI sp)).toInt = 5 * ((nd low : Int) - sp) := by
            rw [ti_mul (by rw [hlk, e5]; omega) (by rw [hlk, e5]; omega), hlk, e5]
          have b1 : (nI low - (5 : Int32) * (nI (nd low) - nI sp)).toInt = low + (-(5 * ((nd low : Int) - sp))) := by
            rw [ti_sub (by rw [b5, nI_ti (by omega)]; omega) (by rw [b5, nI_ti (by omega)]; omega), b5, nI_ti (by omega)]; omega
          obtain ⟨k1, k2, k3⟩ := acc_add (h := h) hK hAcc hw hwa hsp hg' (a3 := nI low - (5 : Int32) * (nI (nd low) - nI sp)) (by rw [b1]; omega) (by rw [b1]; omega) hb20
          obtain ⟨i1, i2, i3⟩ := ih (low + 20) _ _ (by omega) (by omega) (by omega) k2 k3
          refine ⟨⟨fun _ => pb, fun _ y ey q v ev qv => absurd qv (by rw [← ev]; exact cl), fun _ y ey q v ev qv => absurd qv (by rw [← ev]; exact cl), fun _ y ey q v ev qv => ?_, fun _ y ey S1 e1 => ?_⟩, i2, i3.cg (fun p1 g1 z' => ?_)⟩
          · rw [← ey, ← ev]; exact k1
          · rw [← ey, if_neg cx, if_neg cl] at e1; rw [← e1]; exact i1
          · rw [nwZ_iff (low := low) (A := inJ (gJ S0 h) (cel p g)) b1 hb]
            constructor
            · rintro ((h | ⟨a1, a2, a3, z, a4, a5, a6, a7⟩) | ⟨a1, a2, z, a3, a4, a5, a6⟩)
              · exact Or.inl h
              · refine Or.inr ⟨a1, a2, z, a4, by omega, a6, a3, Or.inl ⟨?_, ?_⟩⟩
                · show (sp : Int) < nd z; rw [hz20 z a4 a5]; omega
                · show (z' : Int) = z - 5 * ((nd z : Int) - sp); rw [hz20 z a4 a5]; omega
              · exact Or.inr ⟨a1, a2, z, by omega, a4, a5, a6⟩
            · rintro (h | ⟨a1, a2, z, a3, a4, a5, a6, a7⟩)
              · exact Or.inl (Or.inl h)
              · by_cases q : z < low + 20
                · rcases a7 with ⟨-, b3⟩ | ⟨b3, -⟩
                  · have b3' : (z' : Int) = z - 5 * ((nd z : Int) - sp) := b3
                    rw [hz20 z a3 q] at b3'
                    exact Or.inl (Or.inr ⟨a1, a2, a6, z, a3, q, a5, by omega⟩)
                  · have : (nd z : Int) ≤ sp := b3
                    rw [hz20 z a3 q] at this; omega
                · exact Or.inr ⟨a1, a2, z, by omega, a4, a5, a6, a7⟩
