-- needs: 80.add
/-! ===== fewest: the bands of a cell ===== -/
def cel (p g : Nat) : Nat := (p * 181 + g) * 4
theorem cel_lt {p g : Nat} (hp : p < 16) (hg : g < 181) : cel p g + 4 ≤ 11584 := by unfold cel; omega
theorem cel_ne {p g p' g' i : Nat} (hg : g < 181) (hg' : g' < 181) (h : ¬ (p = p' ∧ g = g')) (hi : i < 4) : ¬ (cel p' g' ≤ cel p g + i ∧ cel p g + i < cel p' g' + 4) := by
  unfold cel
  by_cases q : p = p'
  · subst q
    have : g ≠ g' := fun e => h ⟨rfl, e⟩
    omega
  · omega
def Acc (wa nx : Nat) (S : HSt) (N : Nat → Nat → Nat → Prop) : Prop := ((∃ p g z, N p g z ∧ wa ≤ z) ∧ gI S 88 4 = 1) ∨ ((∀ p g z, N p g z → z < wa) ∧ gI S 88 4 = 0 ∧ ∀ p g z, p < 16 → g < 181 → z < 256 → (inJ (gJ S nx) (cel p g) z = true ↔ N p g z))
def KS (nx : Nat) (S0 S : HSt) : Prop := (∀ x k, ¬ (x = 88 ∧ k = 4) → gI S x k = gI S0 x k) ∧ ∀ x, x ≠ nx → gJ S x = gJ S0 x
theorem Acc.cg {wa nx : Nat} {S : HSt} {N N' : Nat → Nat → Nat → Prop} (h : Acc wa nx S N) (e : ∀ p g z, N p g z ↔ N' p g z) : Acc wa nx S N' := by
  rcases h with ⟨⟨p, g, z, h1, h2⟩, h3⟩ | ⟨h1, h2, h3⟩
  · exact Or.inl ⟨⟨p, g, z, (e p g z).mp h1, h2⟩, h3⟩
  · exact Or.inr ⟨fun p g z h => h1 p g z ((e p g z).mpr h), h2, fun p g z a b c => (h3 p g z a b c).trans (e p g z)⟩
theorem acc_add {wa nx h p' g' : Nat} {S0 S : HSt} {N : Nat → Nat → Nat → Prop} (hK : KS nx S0 S) (hA : Acc wa nx S N) (hw : gI S0 88 3 = nI wa) (hwa : wa ≤ 200) (hp : p' < 16) (hg : g' < 181) {a3 : Int32} {a4 : Int64} (h1 : -1000 ≤ a3.toInt) (h2 : a3.toInt < 256) (hb : ∀ j, 20 ≤ j → b64 a4 j = false) : p_X3_add S h nx 88 nx (nI (cel p' g')) a3 a4 ∧ KS nx S0 (f_X3_add S h nx 88 nx (nI (cel p' g')) a3 a4) ∧ Acc wa nx (f_X3_add S h nx 88 nx (nI (cel p' g')) a3 a4) (fun p g z => N p g z ∨ (p = p' ∧ g = g' ∧ nwZ a3.toInt a4 z = true)) := by
  have hw' : gI S 88 3 = nI wa := by rw [hK.1 88 3 (by omega), hw]
  obtain ⟨d1, d2⟩ := addJ_at S h nx nx (cel_lt hp hg) h1 h2 hb hw' hwa
  refine ⟨p_add S h nx nx a4 (cel_lt hp hg) h2, ?_⟩
  by_cases q : ∃ z, wa ≤ z ∧ nwZ a3.toInt a4 z = true
  · have e := d1 q
    obtain ⟨z, q1, q2⟩ := q
    rw [e]
    refine ⟨⟨fun x k hx => ?_, fun x hx => hK.2 x hx⟩, Or.inl ⟨⟨p', g', z, Or.inr ⟨rfl, rfl, q2⟩, q1⟩, by rw [gs_eq, if_pos rfl]⟩⟩
    by_cases q3 : x = 88
    · subst q3; rw [gs_o (by omega)]; exact hK.1 _ _ hx
    · rw [gs_ne q3]; exact hK.1 _ _ hx
  · have hno : ∀ z, wa ≤ z → nwZ a3.toInt a4 z = false := fun z hz => by
      cases e : nwZ a3.toInt a4 z
      · rfl
      · exact absurd ⟨z, hz, e⟩ q
    obtain ⟨t1, t2, t3, t4⟩ := d2 hno
    refine ⟨⟨fun x k hx => by rw [t1]; exact hK.1 x k hx, fun x hx => (t2 x hx).trans (hK.2 x hx)⟩, ?_⟩
    rcases hA with ⟨⟨p, g, z, a1, a2⟩, a3'⟩ | ⟨a1, a2, a3'⟩
    · exact Or.inl ⟨⟨p, g, z, Or.inl a1, a2⟩, by rw [t1]; exact a3'⟩
    · refine Or.inr ⟨fun p g z hz => ?_, by rw [t1]; exact a2, fun p g z b1 b2 b3 => ?_⟩
      · rcases hz with hz | ⟨-, -, hz⟩
        · exact a1 p g z hz
        · apply Classical.byContradiction
          intro hn
          rw [hno z (by omega)] at hz
          exact absurd hz (by decide)
      · by_cases q3 : p = p' ∧ g = g'
        · obtain ⟨rfl, rfl⟩ := q3
          rw [t4 z b3, Bool.or_eq_true, a3' p g z b1 b2 b3]
          constructor
          · rintro (h | h)
            · exact Or.inl h
            · exact Or.inr ⟨rfl, rfl, h⟩
          · rintro (h | ⟨-, -, h⟩)
            · exact Or.inl h
            · exact Or.inr h
        · have e : inJ (gJ (f_X3_add S h nx 88 nx (nI (cel p' g')) a3 a4) nx) (cel p g) z = inJ (gJ S nx) (cel p g) z := by
            unfold inJ
            rw [t3 _ (cel_ne b2 hg q3 (by omega))]
          rw [e, a3' p g z b1 b2 b3]
          constructor
          · exact fun h => Or.inl h
          · rintro (h | ⟨e1, e2, -⟩)
            · exact h
            · exact absurd ⟨e1, e2⟩ q3
/-- one tick of a loop of size z at spin sp -/
def suc (nd : Nat → Int) (sp z z' : Nat) : Prop := 1 ≤ z' ∧ (((sp : Int) < nd z ∧ (z' : Int) = z - 5 * (nd z - sp)) ∨ (nd z ≤ sp ∧ (z' = z + sp / 2 ∨ z' = z + sp)))
theorem needK {nx : Nat} {S0 S : HSt} (hK : KS nx S0 S) (v : Int32) : f_X7_needOf S 18 v = f_X7_needOf S0 18 v := by
  show (F_X7_needOf S 18 v).1 = (F_X7_needOf S0 18 v).1
  unfold F_X7_needOf
  rw [pr_1, pr_1, hK.1 18 6 (by omega), hK.1 18 5 (by omega)]
theorem nwZ_iff {l : Int} {band : Int64} {z' low : Nat} {d : Int} {A : Nat → Bool} (hl : l = low + d) (hb : ∀ j, b64 band j = (decide (j < 20) && A (low + j))) : nwZ l band z' = true ↔ 1 ≤ z' ∧ ∃ z, low ≤ z ∧ z < low + 20 ∧ A z = true ∧ (z' : Int) = z + d := by
  unfold nwZ
  rw [Bool.and_eq_true, Bool.and_eq_true, decide_eq_true_iff, decide_eq_true_iff, hb, Bool.and_eq_true, decide_eq_true_iff]
  constructor
  · rintro ⟨h1, h2, h3, h4⟩
    exact ⟨h1, low + ((z' : Int) - l).toNat, by omega, by omega, h4, by omega⟩
  · rintro ⟨h1, z, h2, h3, h4, h5⟩
    have e : ((z' : Int) - l).toNat = z - low := by omega
    refine ⟨h1, by omega, ?_, ?_⟩
    · rw [e]; omega
    · rw [e, show low + (z - low) = z by omega]; exact h4
