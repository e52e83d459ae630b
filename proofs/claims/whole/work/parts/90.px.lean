-- needs: 89.ticks
/-! ===== fewest: the numbers of the scene ===== -/
theorem nI_of_0 {x : Int32} {m : Nat} (h0 : 0 ≤ x.toInt) (h1 : x.toInt ≤ m) (hm : m < 100000) : x = nI x.toInt.toNat ∧ x.toInt.toNat ≤ m := by
  constructor
  · rw [ti_eq, nI_ti (by omega)]; omega
  · omega
theorem nI_d20 {f : Nat} (hf : f < 1000) : nI f / (20 : Int32) = nI (f / 20) := by
  rw [ti_eq, ti_div (by decide), nI_ti (by omega), nI_ti (by omega), show (20 : Int32).toInt = 20 from rfl, Int.tdiv_eq_ediv_of_nonneg (by omega)]
  omega
theorem px_of {n : Nat} {S : HSt} (hn : n < 512) (hI : Inv0 n S) : ∃ (room ta : Nat) (nd : Nat → Nat) (tn : Nat → Nat → Nat → Nat), room ≤ 200 ∧ ta ≤ 10000 ∧ (∀ z, z < 256 → nd z = nd (z / 20 * 20) ∧ nd z ≤ 40) ∧ (∀ p g, p < 16 → g < 166 → ∀ u, 1 ≤ u → u ≤ 3 → tnm (nI p) (nI u) (nI (ta + g)) = nI (tn p g u) ∧ tn p g u < 16) ∧ CXm room ta nd S ∧ (∀ z, z < 256 → f_X7_needOf S 18 (nI z) = nI (nd z)) ∧ f_X7_room S 18 = nI room ∧ (gI S 71 0).toInt ≤ room := by
  have hR := hI.2.2.2.2.1.1
  have hPR := PRm.of hR
  obtain ⟨hW, hB, hH, hL, hLB⟩ := hR
  obtain ⟨⟨r0, r1, r2⟩, ⟨b0, b1, b2⟩, b3⟩ := hPR
  have hroom := len_ti b0
  have hrm := nI_of_0 (x := gI S 18 4 / 2) (m := 200) (by rw [hroom]; have := b0.1; omega) (by rw [hroom]; have := b0.2; omega) (by omega)
  have hta := nI_of_0 (x := gI S 71 3) (m := 10000) hLB.2.2.2.1.1 (by have := hLB.2.2.2.1.2; omega) (by omega)
  have hnd : ∀ z, z < 256 → ndm (f_X12_ropeOf S 64 2) (f_X12_ropeOf S 64 1) (nI z) = nI (ndm (f_X12_ropeOf S 64 2) (f_X12_ropeOf S 64 1) (nI z)).toInt.toNat ∧ (ndm (f_X12_ropeOf S 64 2) (f_X12_ropeOf S 64 1) (nI z)).toInt.toNat ≤ 40 := fun z hz => by
    have := nd_bw (w := f_X12_ropeOf S 64 2) (s := f_X12_ropeOf S 64 1) (x := nI z) (by rw [r2]; exact b2) (by rw [r1]; exact b1) ⟨by rw [nI_ti (by omega)]; omega, by rw [nI_ti (by omega)]; omega⟩
    exact nI_of_0 (m := 40) (by have := this.1; omega) (by have := this.2; omega) (by omega)
  refine ⟨(gI S 18 4 / 2).toInt.toNat, (gI S 71 3).toInt.toNat, fun z => (ndm (f_X12_ropeOf S 64 2) (f_X12_ropeOf S 64 1) (nI z)).toInt.toNat, fun p g u => (tnm (nI p) (nI u) (nI ((gI S 71 3).toInt.toNat + g))).toInt.toNat, hrm.2, hta.2, fun z hz => ⟨?_, (hnd z hz).2⟩, fun p g hp hg u h1 h2 => ?_, ⟨⟨⟨r0, r1, r2⟩, ⟨b0, b1, b2⟩, b3⟩, by rw [r0]; exact hrm.1, fun z hz => (hnd z (by omega)).1, hta.1⟩, fun z hz => ?_, hrm.1, ?_⟩
  · show (ndm _ _ (nI z)).toInt.toNat = (ndm _ _ (nI (z / 20 * 20))).toInt.toNat
    unfold ndm
    rw [nI_d20 (by omega), nI_d20 (f := z / 20 * 20) (by omega), show z / 20 * 20 / 20 = z / 20 by omega]
  · have := tnm_bw (sp := nI p) (up := nI u) (ti := nI ((gI S 71 3).toInt.toNat + g)) (by rw [nI_ti (by omega)]; omega)
    obtain ⟨a, b⟩ := nI_of_0 (m := 15) this.1 this.2 (by omega)
    exact ⟨a, by show (tnm (nI p) (nI u) (nI ((gI S 71 3).toInt.toNat + g))).toInt.toNat < 16; omega⟩
  · have := (need_eq (T := S) hI.2.2.2.2.1.1 (nI z)).1
    rw [this, needOf_v]
    exact (hnd z hz).1
  · have h1 := hLB.1.2
    rw [← hH.2.2.1] at h1
    rw [← hroom] at h1
    have := b0.1
    omega
/-- the model alone: more than the room is not reached -/
theorem none_M {wa room ta c : Nat} {nd : Nat → Nat} {tn : Nat → Nat → Nat → Nat} (hc : c ≤ 12) (hwa : room < wa) (hw2 : wa ≤ 200) (hta : ta ≤ 10000) (hnd : ∀ z, z < 256 → nd z ≤ 40) (htn : ∀ p g, p < 16 → g < 166 → ∀ u, 1 ≤ u → u ≤ 3 → tnm (nI p) (nI u) (nI (ta + g)) = nI (tn p g u) ∧ tn p g u < 16) : ∀ (n2 j : Nat) (T : HSt), j ≤ 12 → 12 - j < n2 → CXm room ta nd T → (∀ g p z, g ≤ 15 * j → p < 16 → z ≤ 200 → ¬ gI T 77 (idx g p z) = 0 → z ≤ room) → T_X12_fewest_124 n2 T (nI wa) (nI c) (nI j) ∧ (L_X12_fewest_124 n2 T (nI wa) (nI c) (nI j)).1 = 0 := by
  intro n2
  induction n2 with
  | zero => intro j T _ h3; omega
  | succ n2 ih =>
    intro j T hj h2 hM h77
    unfold T_X12_fewest_124 L_X12_fewest_124
    by_cases q : c ≤ j
    · have q2 : nI c ≤ nI j := by rw [ti_le, nI_ti (by omega), nI_ti (by omega)]; omega
      rw [if_pos q2]
      exact ⟨⟨fun a => absurd q2 a, fun a => absurd q2 a⟩, rfl⟩
    · have q2 : ¬ nI c ≤ nI j := by rw [ti_le, nI_ti (by omega), nI_ti (by omega)]; omega
      obtain ⟨m1, m2, m3, m4⟩ := hM
      have hMC : MC room ta (15 * j) nd tn T := ⟨m1, m2, by omega, hta, by omega, fun z hz => ⟨m3 z hz, hnd z (by omega)⟩, fun p g hp hg u h1 h2 => htn p g hp (by omega) u h1 h2⟩
      obtain ⟨b1, m, b2, b3, b4, b5, b6, b7⟩ := goOn_f hMC m4 h77
      have hNr : ∀ i, Nx room j nd tn T i → i % 201 ≤ room := by
        rintro i ⟨g, hg, p, hp, z, hz1, hz2, hz3, v, hv, rfl⟩
        have htb := (htn p g hp (by omega) (v / 2 + 1) (by omega) (by omega)).2
        have hsl : szN (nd z) (tn p g (v / 2 + 1)) z (ltv v) room ≤ room := szN_le (h77 g p z hg hp hz2 hz3)
        unfold Sm
        rw [(idx_lt (g := g + tn p g (v / 2 + 1)) (by omega) htb (by omega)).2]
        exact hsl
      have hm : m ≤ room := by
        rcases b7 with h | ⟨i, h1, h2⟩
        · omega
        · have := hNr i h1; omega
      rw [if_neg q2, bd_def]
      generalize hR : f_X12_goOn T 64 (nI j) = R at *
      have hlt : R.1 < nI wa := by rw [b3, ti_lt, nI_ti (by omega), nI_ti (by omega)]; omega
      have hM' : CXm room ta nd R.2 := by
        have r68 : gI R.2 68 = gI T 68 := by funext k; exact b4 68 k (by decide) (by decide) (by omega)
        have r18 : gI R.2 64 18 = gI T 64 18 := b4 64 18 (by decide) (by decide) (by omega)
        have rr : gI R.2 18 = gI T 18 := by funext k; exact b4 18 k (by decide) (by decide) (by omega)
        refine ⟨?_, ?_, ?_, ?_⟩
        · have := PRm.cg r68 r18 m1
          unfold PRm at this ⊢
          rw [rr]; exact this
        · rw [rope_cg r68 r18]; exact m2
        · rw [rope_cg r68 r18, rope_cg r68 r18]; exact m3
        · rw [b4 71 3 (by decide) (by decide) (by omega)]; exact m4
      obtain ⟨i1, i2⟩ := ih (j + 1) R.2 (by omega) (by omega) hM' (fun g p z hg hp hz h => by
        have hix := idx_lt (g := g) (t := p) (sz := z) (by omega) hp hz
        rcases b5 _ hix.1 with ⟨e1, e2⟩ | ⟨e1, e2⟩
        · have := hNr _ e2; omega
        · exact absurd e1 h)
      rw [nI_succ] at i1 i2
      rw [if_pos hlt]
      exact ⟨⟨fun _ => b1, fun _ r er _ => by rw [← er]; exact i1⟩, i2⟩
