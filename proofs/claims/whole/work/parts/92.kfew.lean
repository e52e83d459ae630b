-- needs: 91.few
/-! ===== fewest: the contract ===== -/
noncomputable def m9 (V : HSt) (a1 a2 : Int32) (i : Nat) : HSt := sI (L_X12_fewest_81 FU (sI V 64 0 0) a1 a2 0).2.2.2 77 i 1
theorem start_m {room ta i0 : Nat} {nd : Nat → Nat} {S V : HSt} (hV : ∀ x k, x ≠ 88 → gI V x k = gI S x k) (hM : CXm room ta nd S) (a1 a2 : Int32) : CXm room ta nd (m9 V a1 a2 i0) ∧ (∀ i, i < 582096 → (¬ gI (m9 V a1 a2 i0) 77 i = 0 ↔ i = i0)) := by
  have hF := FU_eq
  obtain ⟨b1, b2, b3, b4, b5⟩ := clr77 a1 a2 FU 0 (sI V 64 0 0) (by omega) (by omega)
  rw [show nI 0 = (0 : Int32) from rfl] at b1 b2 b3 b4 b5
  have hx : ∀ x k, x ≠ 88 → x ≠ 77 → ¬ (x = 64 ∧ k = 0) → gI (m9 V a1 a2 i0) x k = gI S x k := fun x k h1 h2 h3 => by
    unfold m9
    rw [gs_ne h2, b5 x h2]
    by_cases q : x = 64
    · subst q; rw [gs_o (by omega)]; exact hV _ _ h1
    · rw [gs_ne q]; exact hV _ _ h1
  have r68 : gI (m9 V a1 a2 i0) 68 = gI S 68 := by funext k; exact hx 68 k (by decide) (by decide) (by omega)
  have r18 : gI (m9 V a1 a2 i0) 64 18 = gI S 64 18 := hx 64 18 (by decide) (by decide) (by omega)
  have rr : gI (m9 V a1 a2 i0) 18 = gI S 18 := by funext k; exact hx 18 k (by decide) (by decide) (by omega)
  obtain ⟨m1, m2, m3, m4⟩ := hM
  refine ⟨⟨?_, ?_, ?_, ?_⟩, fun i hi => ?_⟩
  · have := PRm.cg r68 r18 m1
    unfold PRm at this ⊢
    rw [rr]; exact this
  · rw [rope_cg r68 r18]; exact m2
  · rw [rope_cg r68 r18, rope_cg r68 r18]; exact m3
  · rw [hx 71 3 (by decide) (by decide) (by omega)]; exact m4
  · unfold m9
    rw [gs_eq]
    by_cases q : i = i0
    · rw [if_pos q]; exact ⟨fun _ => q, fun _ => one_ne⟩
    · rw [if_neg q, b4 i, if_pos ⟨Nat.zero_le _, hi⟩]; exact ⟨fun h => absurd rfl h, fun h => absurd h q⟩
/-- the model's fewest where all is in order -/
theorem few_m {V : HSt} {wa c p0 z0 : Nat} (hwa : 1 ≤ wa ∧ wa ≤ 200) (hc : c ≤ 12) (h7 : ¬ gI V 64 7 = 0) (h0 : gI V 71 0 = nI z0) (h1 : gI V 71 1 = nI p0) (hz : z0 ≤ 200) (hp : p0 < 16) : ((z0 < wa → ¬ gI V 71 5 = 1 → ¬ z0 = 0 → T_X12_fewest_124 1000 (m9 V (nI wa) (nI c) (idx 0 p0 z0)) (nI wa) (nI c) (nI 0)) → p_X12_fewest V 64 (nI wa) (nI c)) ∧ (f_X12_fewest V 64 (nI wa) (nI c)).1 = (if z0 < wa then (if gI V 71 5 = 1 then (-1000000 : Int64) else (if z0 = 0 then -1000000 else (if (L_X12_fewest_124 1000 (m9 V (nI wa) (nI c) (idx 0 p0 z0)) (nI wa) (nI c) (nI 0)).1 = 1 then (L_X12_fewest_124 1000 (m9 V (nI wa) (nI c) (idx 0 p0 z0)) (nI wa) (nI c) (nI 0)).2.1 else -1000000))) else 0) := by
  have hF := FU_eq
  obtain ⟨b1, b2, b3, b4, b5⟩ := clr77 (nI wa) (nI c) FU 0 (sI V 64 0 0) (by omega) (by omega)
  rw [show nI 0 = (0 : Int32) from rfl] at b1 b2 b3 b4 b5
  have s71 : gI (sI V 64 0 0) 71 = gI V 71 := gs_ne (by decide)
  have l71 : gI (L_X12_fewest_81 FU (sI V 64 0 0) (nI wa) (nI c) 0).2.2.2 71 = gI V 71 := by rw [b5 71 (by decide), s71]
  have cl0 : (0 : Int32).toNatClampNeg = 0 := rfl
  have cl1 : (1 : Int32).toNatClampNeg = 1 := rfl
  have cl5 : (5 : Int32).toNatClampNeg = 5 := rfl
  have hix := idx_lt (g := 0) (t := p0) (sz := z0) (by omega) hp hz
  have epl : f_X12_placeOf (L_X12_fewest_81 FU (sI V 64 0 0) (nI wa) (nI c) 0).2.2.2 (0 : Int32) (nI p0) (nI z0) = nI (idx 0 p0 z0) := place_m _ (g := 0)
  constructor
  · intro hT
    refine ⟨?_, ?_, ?_⟩
    · intro S1 e1 _ _ _ _ _ _
      rw [← e1]; exact b1
    · intro S1 e1 _ _ _ _ _ _ r8 e8
      rw [← e1] at e8
      rw [← e8, cl0, cl1, l71, h1, h0, epl]
      exact vp_in_nI hix.1 (by omega)
    · intro S1 e1 _ _ _ g1 g2 g3 r8 e8 S9 e9
      rw [← e1, cl0, s71, h0] at g1 g3
      rw [← e1, cl5, s71] at g2
      rw [← e1] at e8
      rw [← e8, cl0, cl1, l71, h1, h0, epl, nI_clamp' (by omega), nar1] at e9
      rw [← e8, b2, b3, ← e9]
      refine hT ?_ g2 (fun q => g3 (by rw [q]; rfl))
      rw [ti_lt, nI_ti (by omega), nI_ti (by omega)] at g1
      omega
  · have i1 : ¬ f_X12_in (sI V 64 0 0) (nI wa).toInt64 (1 : Int64) (200 : Int64) = 0 := by
      rw [show (1 : Int64) = (1 : Int32).toInt64 from rfl, show (200 : Int64) = (200 : Int32).toInt64 from rfl, in_within _ V, within_iff, nI_ti (by omega), ti1, show (200 : Int32).toInt = 200 from rfl]
      omega
    have i2 : ¬ f_X12_in (sI V 64 0 0) (nI c).toInt64 (0 : Int64) (12 : Int64) = 0 := by
      rw [show (0 : Int64) = (0 : Int32).toInt64 from rfl, show (12 : Int64) = (12 : Int32).toInt64 from rfl, in_within _ V, within_iff, nI_ti (by omega), ti0, show (12 : Int32).toInt = 12 from rfl]
      omega
    have i3 : ¬ gI (sI V 64 0 0) 64 7 = 0 := by rw [gs_o (by decide)]; exact h7
    unfold f_X12_fewest
    simp only [bd_def]
    rw [if_neg i1, if_neg i2, if_neg i3, cl0, cl5, cl1, s71, h0]
    by_cases q1 : z0 < wa
    · rw [if_pos q1, if_pos (by rw [ti_lt, nI_ti (by omega), nI_ti (by omega)]; omega)]
      by_cases q2 : gI V 71 5 = 1
      · rw [if_pos q2, if_pos q2, pr_1]
      · rw [if_neg q2, if_neg q2]
        by_cases q3 : z0 = 0
        · rw [if_pos q3, if_pos (by rw [q3]; rfl), pr_1]
        · rw [if_neg q3, if_neg (fun h => q3 (by have h5 := congrArg Int32.toInt h; rw [nI_ti (by omega), ti0] at h5; omega)), l71, h1, h0, epl, nI_clamp' (by omega), nar1, b2, b3]
          show (if (L_X12_fewest_124 1000 (m9 V (nI wa) (nI c) (idx 0 p0 z0)) (nI wa) (nI c) (nI 0)).1 = 1 then _ else _ : Int64 × HSt).1 = _
          by_cases q4 : (L_X12_fewest_124 1000 (m9 V (nI wa) (nI c) (idx 0 p0 z0)) (nI wa) (nI c) (nI 0)).1 = 1
          · rw [if_pos q4, if_pos q4, pr_1]; rfl
          · rw [if_neg q4, if_neg q4, pr_1]
    · rw [if_neg q1, if_neg (by rw [ti_lt, nI_ti (by omega), nI_ti (by omega)]; omega), pr_1]
