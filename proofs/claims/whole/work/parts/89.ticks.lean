-- needs: 88.round
/-! ===== fewest: the rounds ===== -/
theorem fticks_L {wa room ta c : Nat} {nd : Nat → Nat} {tn : Nat → Nat → Nat → Nat} (hc : c ≤ 12) (hP : PX wa room ta nd tn) : ∀ (n n2 j : Nat) (S T : HSt) (h nx : Nat), j ≤ 12 → 12 - j < n → 12 - j < n2 → h ≠ nx → CXc wa ta nd S → CXm room ta nd T → EQ wa j h nx S T → T_X3_ticksTo_97 18 22 n S h nx (nI wa) (nI c) (nI (j + 1)) ∧ T_X12_fewest_124 n2 T (nI wa) (nI c) (nI j) ∧ (∀ x k, x ≠ 88 → gI (L_X3_ticksTo_97 18 22 n S h nx (nI wa) (nI c) (nI (j + 1))).2.2.2.2.2 x k = gI S x k) ∧ (((L_X3_ticksTo_97 18 22 n S h nx (nI wa) (nI c) (nI (j + 1))).1 = 0 ∧ (L_X12_fewest_124 n2 T (nI wa) (nI c) (nI j)).1 = 0) ∨ ((L_X3_ticksTo_97 18 22 n S h nx (nI wa) (nI c) (nI (j + 1))).1 = 1 ∧ (L_X12_fewest_124 n2 T (nI wa) (nI c) (nI j)).1 = 1 ∧ (L_X3_ticksTo_97 18 22 n S h nx (nI wa) (nI c) (nI (j + 1))).2.1.toInt64 = (L_X12_fewest_124 n2 T (nI wa) (nI c) (nI j)).2.1)) := by
  intro n
  induction n with
  | zero => intro n2 j S T h nx _ h3; omega
  | succ n ih =>
    intro n2 j S T h nx hj h1 h2 hhn hC hM hE
    obtain ⟨n2, rfl⟩ : ∃ k, n2 = k + 1 := ⟨n2 - 1, by omega⟩
    unfold T_X3_ticksTo_97 L_X3_ticksTo_97 T_X12_fewest_124 L_X12_fewest_124
    by_cases q : c ≤ j
    · have q1 : nI c < nI (j + 1) := by rw [ti_lt, nI_ti (by omega), nI_ti (by omega)]; omega
      have q2 : nI c ≤ nI j := by rw [ti_le, nI_ti (by omega), nI_ti (by omega)]; omega
      rw [if_pos q1, if_pos q2]
      exact ⟨⟨fun a => absurd q1 a, fun a => absurd q1 a⟩, ⟨fun a => absurd q2 a, fun a => absurd q2 a⟩, fun _ _ _ => rfl, Or.inl ⟨rfl, rfl⟩⟩
    · have q1 : ¬ nI c < nI (j + 1) := by rw [ti_lt, nI_ti (by omega), nI_ti (by omega)]; omega
      have q2 : ¬ nI c ≤ nI j := by rw [ti_le, nI_ti (by omega), nI_ti (by omega)]; omega
      have q12 : ¬ (12 : Int32) < nI (j + 1) := by rw [ti_lt, nI_ti (by omega), show (12 : Int32).toInt = 12 from rfl]; omega
      have e15 : (15 : Int32) * (nI (j + 1) - 1) = nI (15 * j) := by
        rw [show nI (j + 1) - (1 : Int32) = nI j by rw [ti_eq, ti_sub (by rw [nI_ti (by omega), ti1]; omega) (by rw [nI_ti (by omega), ti1]; omega), nI_ti (by omega), nI_ti (by omega), ti1]; omega, show (15 : Int32) = nI 15 from rfl, pk_mul]
      simp only [bd_def]
      rw [if_neg q1, if_neg q12, if_neg q2, e15]
      obtain ⟨a1, a2, a3, a4, a5⟩ := one_round hhn (show j ≤ 11 by omega) hP hC hM hE
      generalize hS' : f_X3_spreadAll S h nx 88 18 (nI (15 * j)) = S' at *
      generalize hR : f_X12_goOn T 64 (nI j) = R at *
      rcases a5 with ⟨b1, b2⟩ | ⟨b1, b2⟩
      · have n4 : ¬ gI S' 88 4 = 0 := by rw [b1]; exact one_ne
        rw [if_neg n4, if_neg b2]
        refine ⟨⟨fun _ _ => a1, fun _ _ r er e4 => ?_⟩, ⟨fun _ => a2, fun _ r er e4 => ?_⟩, fun x k hx => a3 x k (fun e => hx e.1), Or.inr ⟨rfl, rfl, ?_⟩⟩
        · rw [← er] at e4; exact absurd e4 n4
        · rw [← er] at e4; exact absurd e4 b2
        · rw [nI_succ]; rfl
      · have h4 := b2.1
        rw [if_pos h4, if_pos b1, ← nI_succ, ← nI_succ]
        have hC' : CXc wa ta nd (sP (sP S' 88 0 (some nx)) 88 1 (some h)) := by
          obtain ⟨c1, c2, c3⟩ := hC
          refine ⟨?_, ?_, fun z hz => ?_⟩
          · show gI S' 88 3 = _; rw [a3 88 3 (by omega)]; exact c1
          · show gI S' 88 2 = _; rw [a3 88 2 (by omega)]; exact c2
          · rw [needG (S0 := S) (S := sP (sP S' 88 0 (some nx)) 88 1 (some h)) a3]; exact c3 z hz
        have hM' : CXm room ta nd R.2 := by
          obtain ⟨m1, m2, m3, m4⟩ := hM
          have r68 : gI R.2 68 = gI T 68 := by funext k; exact a4 68 k (by decide) (by decide) (by omega)
          have r18 : gI R.2 64 18 = gI T 64 18 := a4 64 18 (by decide) (by decide) (by omega)
          have rr : gI R.2 18 = gI T 18 := by funext k; exact a4 18 k (by decide) (by decide) (by omega)
          refine ⟨?_, ?_, ?_, ?_⟩
          · have := PRm.cg r68 r18 m1
            unfold PRm at this ⊢
            rw [rr]; exact this
          · rw [rope_cg r68 r18]; exact m2
          · rw [rope_cg r68 r18, rope_cg r68 r18]; exact m3
          · rw [a4 71 3 (by decide) (by decide) (by omega)]; exact m4
        have hE' : EQ wa (j + 1) nx h (sP (sP S' 88 0 (some nx)) 88 1 (some h)) R.2 := b2
        obtain ⟨i1, i2, i3, i4⟩ := ih n2 (j + 1) (sP (sP S' 88 0 (some nx)) 88 1 (some h)) R.2 nx h (by omega) (by omega) (by omega) (fun e => hhn e.symm) hC' hM' hE'
        refine ⟨⟨fun _ _ => a1, fun _ _ r er _ S2 e2 => ?_⟩, ⟨fun _ => a2, fun _ r er _ => ?_⟩, fun x k hx => ?_, i4⟩
        · rw [← er] at e2; rw [← e2]; exact i1
        · rw [← er]; exact i2
        · exact (i3 x k hx).trans (a3 x k (fun e => hx e.1))
theorem fillJ_L (h nx r : Nat) (v : Int64) : ∀ (n k : Nat) (S : HSt), k ≤ 11584 → 11584 - k < n → T_J7_fill_d0a16_6 h nx r n S v (nI k) (nI 11584) ∧ gI (L_J7_fill_d0a16_6 h nx r n S v (nI k) (nI 11584)).2.2.2 = gI S ∧ (∀ x, x ≠ r → gJ (L_J7_fill_d0a16_6 h nx r n S v (nI k) (nI 11584)).2.2.2 x = gJ S x) ∧ (∀ i, gJ (L_J7_fill_d0a16_6 h nx r n S v (nI k) (nI 11584)).2.2.2 r i = if k ≤ i ∧ i < 11584 then v else gJ S r i) := by
  intro n
  induction n with
  | zero => intro k S _ h; omega
  | succ n ih =>
    intro k S hk hn
    unfold T_J7_fill_d0a16_6 L_J7_fill_d0a16_6
    by_cases c : k = 11584
    · subst c
      have a1 : nI 11584 ≤ nI 11584 := by decide
      rw [if_pos a1]
      refine ⟨⟨fun q => absurd a1 q, fun q => absurd a1 q⟩, rfl, fun x _ => rfl, fun i => ?_⟩
      rw [if_neg (by omega)]; rfl
    · have a1 : ¬ nI 11584 ≤ nI k := by rw [ti_le, nI_ti (by omega), nI_ti (by omega)]; omega
      obtain ⟨i1, i2, i3, i4⟩ := ih (k + 1) (sJ S r k v) (by omega) (by omega)
      rw [nI_succ] at i1 i2 i3 i4
      rw [if_neg a1, bd_def, nI_clamp' (i := k) (by omega)]
      refine ⟨⟨fun _ => vp_in_nI (by omega) (by omega), fun _ S1 e1 => by rw [← e1]; exact i1⟩, i2, fun x hx => (i3 x hx).trans (by funext i; rw [gJ_sJ, if_neg hx]), fun i => ?_⟩
      rw [i4 i, gJ_sJ, if_pos rfl]
      by_cases d : k + 1 ≤ i ∧ i < 11584
      · rw [if_pos d, if_pos (by omega)]
      · rw [if_neg d]
        by_cases e : i = k
        · rw [if_pos e, if_pos (by omega)]
        · rw [if_neg e, if_neg (by omega)]
theorem fillJ_f (S : HSt) (h nx r : Nat) (hL : gL S r = 11584) : p_J7_fill_d0a16 S h nx r 0 ∧ gI (f_J7_fill_d0a16 S h nx r 0) = gI S ∧ (∀ x, x ≠ r → gJ (f_J7_fill_d0a16 S h nx r 0) x = gJ S x) ∧ (∀ i, i < 11584 → gJ (f_J7_fill_d0a16 S h nx r 0) r i = 0) := by
  have hF := FU_eq
  obtain ⟨a1, a2, a3, a4⟩ := fillJ_L h nx r 0 FU 0 S (by omega) (by omega)
  rw [show nI 0 = (0 : Int32) from rfl] at a1 a2 a3 a4
  unfold f_J7_fill_d0a16 p_J7_fill_d0a16
  simp only [bd_def]
  rw [hL]
  refine ⟨fun x e => by rw [← e]; exact a1, a2, a3, fun i hi => ?_⟩
  rw [a4 i, if_pos ⟨Nat.zero_le _, hi⟩]
theorem clr77 (v1 v2 : Int32) : ∀ (n k : Nat) (S : HSt), k ≤ 582096 → 582096 - k < n → T_X12_fewest_81 n S v1 v2 (nI k) ∧ (L_X12_fewest_81 n S v1 v2 (nI k)).1 = v1 ∧ (L_X12_fewest_81 n S v1 v2 (nI k)).2.1 = v2 ∧ (∀ i, gI (L_X12_fewest_81 n S v1 v2 (nI k)).2.2.2 77 i = if k ≤ i ∧ i < 582096 then 0 else gI S 77 i) ∧ (∀ x, x ≠ 77 → gI (L_X12_fewest_81 n S v1 v2 (nI k)).2.2.2 x = gI S x) := by
  intro n
  induction n with
  | zero => intro k S _ h; omega
  | succ n ih =>
    intro k S hk hn
    unfold T_X12_fewest_81 L_X12_fewest_81
    by_cases c : k = 582096
    · subst c
      have a1 : (582096 : Int32) ≤ nI 582096 := by decide
      rw [if_pos a1]
      refine ⟨⟨fun q => absurd a1 q, fun q => absurd a1 q⟩, rfl, rfl, fun i => ?_, fun x _ => rfl⟩
      rw [if_neg (by omega)]; rfl
    · have a1 : ¬ (582096 : Int32) ≤ nI k := by rw [ti_le, nI_ti (by omega), show (582096 : Int32).toInt = 582096 from by decide]; omega
      obtain ⟨i1, i2, i3, i5, i6⟩ := ih (k + 1) (sI S 77 k 0) (by omega) (by omega)
      rw [nI_succ] at i1 i2 i3 i5 i6
      rw [if_neg a1, bd_def, nI_clamp' (i := k) (by omega), nar0]
      refine ⟨⟨fun _ => vp_in_nI (by omega) (by omega), fun _ S1 e1 => by rw [← e1]; exact i1⟩, i2, i3, fun i => ?_, fun x hx => (i6 x hx).trans (gs_ne hx)⟩
      rw [i5 i, gs_eq]
      by_cases d : k + 1 ≤ i ∧ i < 582096
      · rw [if_pos d, if_pos (by omega)]
      · rw [if_neg d]
        by_cases e : i = k
        · rw [if_pos e, if_pos (by omega)]
        · rw [if_neg e, if_neg (by omega)]
