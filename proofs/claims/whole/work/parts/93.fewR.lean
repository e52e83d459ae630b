-- needs: 92.kfew
/-! ===== fewest: both sides ===== -/
theorem nil64 : (-1000000 : Int32).toInt64 = -1000000 := by decide
theorem same88 {S U : HSt} (h : ∀ x k, x ≠ 88 → gI U x k = gI S x k) : Same S U := by
  refine same_of_fr (W := [(88, 1000)]) (by decide) (fun a j h1 h2 => h a j (fun e => ?_))
  rw [e] at h2
  exact h2 (by simp)
theorem fallen_at (S : HSt) : f_X1_hasFallen S 22 = 0 ↔ gI S 22 6 = 0 ∧ 0 < (gI S 22 0).toInt := by
  show (F_X1_hasFallen S 22).1 = 0 ↔ _
  unfold F_X1_hasFallen
  rw [bd_def, pr_1]
  by_cases q : gI S 22 6 = 0
  · rw [if_pos q]
    by_cases q2 : 0 < gI S 22 0
    · rw [if_pos q2]; exact ⟨fun _ => ⟨q, by rw [ti_lt, ti0] at q2; exact q2⟩, fun _ => rfl⟩
    · rw [if_neg q2]; exact ⟨fun h => absurd h one_ne, fun h => absurd (by rw [ti_lt, ti0]; exact h.2) q2⟩
  · rw [if_neg q]; exact ⟨fun h => absurd h one_ne, fun h => absurd h.1 q⟩
theorem few_R {n h nx : Nat} {S : HSt} {a1 a2 : Int32} (hn : n < 512) (hI : Inv0 n S) (hRS : RS h nx S) (hhn : h ≠ nx) (hgo : fewGo S a1 a2) : p_X3_ticksTo S h nx 88 18 a1 a2 ∧ p_X12_fewest (f_X3_ticksTo S h nx 88 18 a1 a2).2 64 a1 a2 ∧ (f_X3_ticksTo S h nx 88 18 a1 a2).1.toInt64 = (f_X12_fewest (f_X3_ticksTo S h nx 88 18 a1 a2).2 64 a1 a2).1 ∧ Inv0 (n + 1) (f_X12_fewest (f_X3_ticksTo S h nx 88 18 a1 a2).2 64 a1 a2).2 ∧ (∀ x k, x ≠ 88 → gI (f_X3_ticksTo S h nx 88 18 a1 a2).2 x k = gI S x k) := by
  obtain ⟨g1, g2, g3⟩ := hgo
  have w1 := Classical.not_not.mp (fun q => g1 ((within_iff S).mpr q))
  have w2 := Classical.not_not.mp (fun q => g2 ((within_iff S).mpr q))
  rw [ti1, show (200 : Int32).toInt = 200 from rfl] at w1
  rw [ti0, show (12 : Int32).toInt = 12 from rfl] at w2
  obtain ⟨wa, hwa, rfl⟩ := nI_of_bw (x := a1) (n := 201) (by omega) (by omega) (by omega)
  obtain ⟨c, hc, rfl⟩ := nI_of_bw (x := a2) (n := 13) (by omega) (by omega) (by omega)
  rw [nI_ti (by omega)] at w1 w2
  obtain ⟨room, ta, nd, tn, x1, x2, x3, x4, x5, x6, x7, x8⟩ := px_of hn hI
  obtain ⟨⟨hW, hB, hH, hL, hLB⟩, hth, hbz, hH1, hH0⟩ := hI.2.2.2.2.1
  have hL' : LoopR (gI S 22) (gI S 71) := hL
  obtain ⟨l0, l1, l2, l3, l4, l5, l6⟩ := hL'
  obtain ⟨z0, hz0, ez⟩ := nI_of_bw (x := gI S 71 0) (n := 201) hLB.1.1 (by omega) (by omega)
  obtain ⟨p0, hp0, ep⟩ := nI_of_bw (x := gI S 71 1) (n := 16) hLB.2.1.1 (by have := hLB.2.1.2; omega) (by omega)
  have hzr : z0 ≤ room := by rw [ez, nI_ti (by omega)] at x8; omega
  have hkz : Bz (gI S 71 5) := hLB.2.2.2.2.2.1
  have h7 : ¬ gI S 64 7 = 0 := by rw [← hth]; exact g3
  have hfall : f_X1_hasFallen S 22 = 0 ↔ ¬ gI S 71 5 = 1 ∧ ¬ z0 = 0 := by
    rw [fallen_at, l6, l0, ez, nI_ti (by omega)]
    constructor
    · rintro ⟨a, b⟩; exact ⟨by rw [a]; decide, by omega⟩
    · rintro ⟨a, b⟩
      rcases hkz with h | h
      · exact ⟨h, by omega⟩
      · exact absurd h a
  -- what the whole says of a heap U of the class
  have fin : ∀ U : HSt, (f_X3_ticksTo S h nx 88 18 (nI wa) (nI c)).2 = U → (∀ x k, x ≠ 88 → gI U x k = gI S x k) → Inv0 (n + 1) (f_X12_fewest U 64 (nI wa) (nI c)).2 ∧ (∀ x k, x ≠ 88 → gI U x k = gI S x k) := fun U _ hU =>
    ⟨((hI.same (same88 hU)).same (same_of_fr (by decide) (v_X12_fewest U 64 (nI wa) (nI c)))).mono (Nat.le_succ n), hU⟩
  have mod : ∀ U : HSt, (∀ x k, x ≠ 88 → gI U x k = gI S x k) → ((z0 < wa → ¬ gI S 71 5 = 1 → ¬ z0 = 0 → T_X12_fewest_124 1000 (m9 U (nI wa) (nI c) (idx 0 p0 z0)) (nI wa) (nI c) (nI 0)) → p_X12_fewest U 64 (nI wa) (nI c)) ∧ (f_X12_fewest U 64 (nI wa) (nI c)).1 = (if z0 < wa then (if gI S 71 5 = 1 then (-1000000 : Int64) else (if z0 = 0 then -1000000 else (if (L_X12_fewest_124 1000 (m9 U (nI wa) (nI c) (idx 0 p0 z0)) (nI wa) (nI c) (nI 0)).1 = 1 then (L_X12_fewest_124 1000 (m9 U (nI wa) (nI c) (idx 0 p0 z0)) (nI wa) (nI c) (nI 0)).2.1 else -1000000))) else 0) := fun U hU => by
    have := few_m (V := U) (wa := wa) (c := c) (p0 := p0) (z0 := z0) ⟨by omega, by omega⟩ (by omega) (by rw [hU 64 7 (by decide)]; exact h7) (by rw [hU 71 0 (by decide)]; exact ez) (by rw [hU 71 1 (by decide)]; exact ep) (by omega) hp0
    rw [hU 71 5 (by decide)] at this
    exact this
  have nI0 : nI 0 = (0 : Int32) := rfl
  by_cases q1 : z0 < wa
  · have c1 : gI S (18 + 4) 0 < nI wa := by
      show gI S 22 0 < nI wa
      rw [l0, ez, ti_lt, nI_ti (by omega), nI_ti (by omega)]; omega
    by_cases q2 : f_X1_hasFallen S 22 = 0
    · obtain ⟨k1, k2⟩ := hfall.mp q2
      have q2' : f_X1_hasFallen S (18 + 4) = 0 := q2
      by_cases q3 : wa ≤ room
      · -- the search
        have c3 : nI wa ≤ f_X7_room S 18 := by rw [x7, ti_le, nI_ti (by omega), nI_ti (by omega)]; omega
        obtain ⟨s1, s2, s3, r9, s4, s5, s6, s7, s8, s9, s10⟩ := start_c (wa := wa) hRS hhn (by omega) (by rw [l3]; exact x5.2.2.2) (by rw [l1]; exact ep) (by rw [l0]; exact ez) hp0 ⟨by omega, q1⟩
        have hP : PX wa room ta nd tn := ⟨⟨by omega, q3, x1, x2⟩, x3, x4⟩
        have hC : CXc wa ta nd r9 := by
          refine ⟨s7, s6, fun z hz => ?_⟩
          have : f_X7_needOf r9 18 (nI z) = f_X7_needOf S 18 (nI z) := by
            show (F_X7_needOf r9 18 (nI z)).1 = (F_X7_needOf S 18 (nI z)).1
            unfold F_X7_needOf
            rw [pr_1, pr_1, s5 18 6 (by decide), s5 18 5 (by decide)]
          rw [this]; exact x6 z hz
        have hrun : ∀ V : HSt, (∀ x k, x ≠ 88 → gI V x k = gI S x k) → EQ wa 0 h nx r9 (m9 V (nI wa) (nI c) (idx 0 p0 z0)) ∧ CXm room ta nd (m9 V (nI wa) (nI c) (idx 0 p0 z0)) := fun V hV => by
          obtain ⟨e1, e2⟩ := start_m (i0 := idx 0 p0 z0) hV x5 (nI wa) (nI c)
          refine ⟨⟨s8, fun p g z a b d e => ?_, fun p g z a b d e => ?_, s10⟩, e1⟩
          · obtain ⟨-, rfl, rfl⟩ := (s9 p g z a b d).mp e
            exact ⟨by omega, q1, by omega⟩
          · rw [s9 p g z a b (by omega), e2 _ (idx_lt (by omega) a e).1]
            constructor
            · rintro ⟨rfl, rfl, rfl⟩; rfl
            · intro he
              obtain ⟨u1, u2, u3⟩ := idx_inj a hp0 e (by omega) he
              exact ⟨u2, u1, u3⟩
        obtain ⟨v1, v2⟩ := hrun S (fun _ _ _ => rfl)
        have run := fun V hV => fticks_L (show c ≤ 12 by omega) hP 1000 1000 0 r9 (m9 V (nI wa) (nI c) (idx 0 p0 z0)) h nx (by omega) (by omega) (by omega) hhn hC (hrun V hV).2 (hrun V hV).1
        have eT : f_X3_ticksTo S h nx 88 18 (nI wa) (nI c) = if (L_X3_ticksTo_97 18 22 1000 r9 h nx (nI wa) (nI c) (nI (0 + 1))).1 = 1 then pr (L_X3_ticksTo_97 18 22 1000 r9 h nx (nI wa) (nI c) (nI (0 + 1))).2.1 (L_X3_ticksTo_97 18 22 1000 r9 h nx (nI wa) (nI c) (nI (0 + 1))).2.2.2.2.2 else pr (-1000000 : Int32) (L_X3_ticksTo_97 18 22 1000 r9 h nx (nI wa) (nI c) (nI (0 + 1))).2.2.2.2.2 := by
          unfold f_X3_ticksTo
          rw [if_pos c1, if_pos q2', if_pos c3]
          simp only [bd_def]
          rw [show f_X3_add (sI (sI (sI (f_J7_fill_d0a16 (f_J7_fill_d0a16 S h nx h 0) h nx nx 0) 88 2 (gI (f_J7_fill_d0a16 (f_J7_fill_d0a16 S h nx h 0) h nx nx 0) (18 + 4) 3)) 88 3 (nI wa)) 88 4 0) h nx 88 h (f_X3_placeOf (sI (sI (sI (f_J7_fill_d0a16 (f_J7_fill_d0a16 S h nx h 0) h nx nx 0) 88 2 (gI (f_J7_fill_d0a16 (f_J7_fill_d0a16 S h nx h 0) h nx nx 0) (18 + 4) 3)) 88 3 (nI wa)) 88 4 0) (gI (sI (sI (sI (f_J7_fill_d0a16 (f_J7_fill_d0a16 S h nx h 0) h nx nx 0) 88 2 (gI (f_J7_fill_d0a16 (f_J7_fill_d0a16 S h nx h 0) h nx nx 0) (18 + 4) 3)) 88 3 (nI wa)) 88 4 0) (18 + 4) 1) 0) (gI (sI (sI (sI (f_J7_fill_d0a16 (f_J7_fill_d0a16 S h nx h 0) h nx nx 0) 88 2 (gI (f_J7_fill_d0a16 (f_J7_fill_d0a16 S h nx h 0) h nx nx 0) (18 + 4) 3)) 88 3 (nI wa)) 88 4 0) (18 + 4) 0) 1 = r9 from s4]
          rfl
        obtain ⟨t1, -, t3, -⟩ := run S (fun _ _ _ => rfl)
        have hU : ∀ x k, x ≠ 88 → gI (L_X3_ticksTo_97 18 22 1000 r9 h nx (nI wa) (nI c) (nI (0 + 1))).2.2.2.2.2 x k = gI S x k := fun x k hx => (t3 x k hx).trans (s5 x k hx)
        have eU : (f_X3_ticksTo S h nx 88 18 (nI wa) (nI c)).2 = (L_X3_ticksTo_97 18 22 1000 r9 h nx (nI wa) (nI c) (nI (0 + 1))).2.2.2.2.2 := by
          rw [eT]; split <;> rfl
        obtain ⟨-, y2, -, y4⟩ := run _ hU
        have hfin := fin _ eU hU
        obtain ⟨md1, md2⟩ := mod _ hU
        rw [if_pos q1, if_neg k1, if_neg k2] at md2
        refine ⟨⟨fun _ _ _ => s1, fun _ _ _ r er => ?_, fun _ _ _ r4 e4 r5 e5 S6 e6 S7 e7 S8 e8 => ?_, fun _ _ _ r4 e4 r5 e5 S6 e6 S7 e7 S8 e8 r e9 => ?_⟩, ?_, ?_, ?_⟩
        · rw [← er]; exact s2
        · rw [← e8, ← e7, ← e6, ← e5, ← e4]; exact s3
        · rw [← e8, ← e7, ← e6, ← e5, ← e4] at e9
          have e9' : r9 = r := s4.symm.trans e9
          rw [← e9']; exact t1
        · rw [eU]; exact md1 (fun _ _ _ => y2)
        · rw [eU, md2, eT]
          rcases y4 with ⟨y5, y6⟩ | ⟨y5, y6, y7⟩
          · rw [if_neg (by rw [y5]; decide), if_neg (by rw [y6]; decide), pr_1]; exact nil64
          · rw [if_pos y5, if_pos y6, pr_1]; exact y7
        · rw [eU]; exact hfin
      · -- more than the room
        have c3 : ¬ nI wa ≤ f_X7_room S 18 := by rw [x7, ti_le, nI_ti (by omega), nI_ti (by omega)]; omega
        have eT : f_X3_ticksTo S h nx 88 18 (nI wa) (nI c) = pr (-1000000 : Int32) S := by
          unfold f_X3_ticksTo
          rw [if_pos c1, if_pos q2', if_neg c3]
        have e1 : (f_X3_ticksTo S h nx 88 18 (nI wa) (nI c)).1 = -1000000 := by rw [eT, pr_1]
        have e2 : (f_X3_ticksTo S h nx 88 18 (nI wa) (nI c)).2 = S := by rw [eT, pr_2]
        obtain ⟨md1, md2⟩ := mod S (fun _ _ _ => rfl)
        obtain ⟨u1, u2⟩ := start_m (i0 := idx 0 p0 z0) (S := S) (V := S) (fun _ _ _ => rfl) x5 (nI wa) (nI c)
        obtain ⟨y1, y2⟩ := none_M (show c ≤ 12 by omega) (show room < wa by omega) (by omega) x2 (fun z hz => (x3 z hz).2) x4 1000 0 _ (by omega) (by omega) u1 (fun g p z hg hp hz h => by
          have he := (u2 _ (idx_lt (by omega) hp hz).1).mp h
          obtain ⟨-, -, u3⟩ := idx_inj hp hp0 hz (by omega) he
          omega)
        rw [if_pos q1, if_neg k1, if_neg k2, if_neg (by rw [y2]; decide)] at md2
        refine ⟨⟨fun _ _ q => absurd q c3, fun _ _ q => absurd q c3, fun _ _ q => absurd q c3, fun _ _ q => absurd q c3⟩, ?_, ?_, ?_⟩
        · rw [e2]; exact md1 (fun _ _ _ => y1)
        · rw [e1, e2, md2]; exact nil64
        · rw [e2]; exact fin S e2 (fun _ _ _ => rfl)
    · -- fallen
      have q2' : ¬ f_X1_hasFallen S (18 + 4) = 0 := q2
      have eT : f_X3_ticksTo S h nx 88 18 (nI wa) (nI c) = pr (-1000000 : Int32) S := by
        unfold f_X3_ticksTo
        rw [if_pos c1, if_neg q2']
      have e1 : (f_X3_ticksTo S h nx 88 18 (nI wa) (nI c)).1 = -1000000 := by rw [eT, pr_1]
      have e2 : (f_X3_ticksTo S h nx 88 18 (nI wa) (nI c)).2 = S := by rw [eT, pr_2]
      obtain ⟨md1, md2⟩ := mod S (fun _ _ _ => rfl)
      have hv : (f_X12_fewest S 64 (nI wa) (nI c)).1 = -1000000 := by
        rw [md2, if_pos q1]
        by_cases k1 : gI S 71 5 = 1
        · rw [if_pos k1]
        · rw [if_neg k1]
          by_cases k2 : z0 = 0
          · rw [if_pos k2]
          · exact absurd (hfall.mpr ⟨k1, k2⟩) q2
      refine ⟨⟨fun _ q => absurd q q2', fun _ q => absurd q q2', fun _ q => absurd q q2', fun _ q => absurd q q2'⟩, ?_, ?_, ?_⟩
      · rw [e2]; exact md1 (fun _ k1 k2 => absurd (hfall.mpr ⟨k1, k2⟩) q2)
      · rw [e1, e2, hv]; exact nil64
      · rw [e2]; exact fin S e2 (fun _ _ _ => rfl)
  · -- there already
    have c1 : ¬ gI S (18 + 4) 0 < nI wa := by
      show ¬ gI S 22 0 < nI wa
      rw [l0, ez, ti_lt, nI_ti (by omega), nI_ti (by omega)]; omega
    have eT : f_X3_ticksTo S h nx 88 18 (nI wa) (nI c) = pr (0 : Int32) S := by
      unfold f_X3_ticksTo
      rw [if_neg c1]
    have e1 : (f_X3_ticksTo S h nx 88 18 (nI wa) (nI c)).1 = 0 := by rw [eT, pr_1]
    have e2 : (f_X3_ticksTo S h nx 88 18 (nI wa) (nI c)).2 = S := by rw [eT, pr_2]
    obtain ⟨md1, md2⟩ := mod S (fun _ _ _ => rfl)
    refine ⟨⟨fun q => absurd q c1, fun q => absurd q c1, fun q => absurd q c1, fun q => absurd q c1⟩, ?_, ?_, ?_⟩
    · rw [e2]; exact md1 (fun q => absurd q q1)
    · rw [e1, e2, md2, if_neg q1]; rfl
    · rw [e2]; exact fin S e2 (fun _ _ _ => rfl)

/-- fewest, where the class has no search yet, or has one -/
theorem few_E {n : Nat} {S : HSt} {a1 a2 : Int32} (hI : Inv0 n S) (hE : ¬ fewGo S a1 a2) : p_X12_fewest S 64 a1 a2 ∧ f_X11_fewestE S a1 a2 = (f_X12_fewest S 64 a1 a2).1 ∧ Inv0 (n + 1) (f_X12_fewest S 64 a1 a2).2 := by
  have hth := hI.2.2.2.2.1.2.1
  have i1 : f_X12_in (sI S 64 0 0) a1.toInt64 (1 : Int64) (200 : Int64) = f_X11_within S a1 1 200 := by
    rw [show (1 : Int64) = (1 : Int32).toInt64 from rfl, show (200 : Int64) = (200 : Int32).toInt64 from rfl, in_within _ S]
  have i2 : f_X12_in (sI S 64 0 0) a2.toInt64 (0 : Int64) (12 : Int64) = f_X11_within S a2 0 12 := by
    rw [show (0 : Int64) = (0 : Int32).toInt64 from rfl, show (12 : Int64) = (12 : Int32).toInt64 from rfl, in_within _ S]
  have i3 : gI (sI S 64 0 0) 64 7 = gI S 18 2 := by rw [gs_o (by decide)]; exact hth.symm
  have no : ¬ f_X11_within S a1 1 200 = 0 → ¬ f_X11_within S a2 0 12 = 0 → ¬ gI S 18 2 = 0 → False := fun a b c => hE ⟨a, b, c⟩
  refine ⟨⟨?_, ?_, ?_⟩, ?_, (hI.same (same_of_fr (by decide) (v_X12_fewest S 64 a1 a2))).mono (Nat.le_succ n)⟩
  · intro S1 e1 h1 h2 h3
    rw [← e1, i1] at h1; rw [← e1, i2] at h2; rw [← e1, i3] at h3
    exact (no h1 h2 h3).elim
  · intro S1 e1 h1 h2 h3
    rw [← e1, i1] at h1; rw [← e1, i2] at h2; rw [← e1, i3] at h3
    exact (no h1 h2 h3).elim
  · intro S1 e1 h1 h2 h3
    rw [← e1, i1] at h1; rw [← e1, i2] at h2; rw [← e1, i3] at h3
    exact (no h1 h2 h3).elim
  · unfold f_X12_fewest f_X11_fewestE
    rw [bd_def, i1, i2, i3]
    by_cases q1 : f_X11_within S a1 1 200 = 0
    · rw [if_pos q1, if_pos q1, pr_1]
    · rw [if_neg q1, if_neg q1]
      by_cases q2 : f_X11_within S a2 0 12 = 0
      · rw [if_pos q2, if_pos q2, pr_1]
      · rw [if_neg q2, if_neg q2]
        by_cases q3 : gI S 18 2 = 0
        · rw [if_pos q3, pr_1]
        · exact (no q1 q2 q3).elim
theorem few_N {n : Nat} {S : HSt} {a1 a2 : Int32} (hn : n < 512) (hS : CS S) (hI : Inv0 n S) (hgo : fewGo S a1 a2) (h88 : gn S = 88) : p_X3_ticksTo (mkReach S) 89 90 88 18 a1 a2 ∧ p_X12_fewest (f_X3_ticksTo (mkReach S) 89 90 88 18 a1 a2).2 64 a1 a2 ∧ (f_X3_ticksTo (mkReach S) 89 90 88 18 a1 a2).1.toInt64 = (f_X12_fewest (f_X3_ticksTo (mkReach S) 89 90 88 18 a1 a2).2 64 a1 a2).1 ∧ Inv0 (n + 1) (f_X12_fewest (f_X3_ticksTo (mkReach S) 89 90 88 18 a1 a2).2 64 a1 a2).2 ∧ (∀ x k, x < 88 → gI (f_X3_ticksTo (mkReach S) 89 90 88 18 a1 a2).2 x k = gI S x k) := by
  obtain ⟨r1, r2, r3, r4, r5, r6⟩ := mr_cs hS h88
  have g : ∀ x, x < 88 → gI (mkReach S) x = gI S x := fun x hx => by
    by_cases q : x = 0
    · rw [q]; exact r5
    · exact ((r3.2 x (by omega)).2.2 q).2.1
  have hsame : Same S (mkReach S) := by
    refine ⟨fun a h1 h2 => g a (by omega), by rw [g 0 (by omega)], ⟨by rw [g 13 (by omega)], by rw [g 13 (by omega)], g 14 (by omega)⟩, ?_⟩
    refine ⟨⟨g 18 (by omega), g 20 (by omega), g 21 (by omega), g 22 (by omega)⟩, fun a h1 h2 => g a (by omega), ⟨by rw [g 62 (by omega)], g 63 (by omega)⟩, ?_⟩
    exact ⟨fun j _ => by rw [g 64 (by omega)], fun a h => g a (by omega)⟩
  have hw : ∀ a lo hi, f_X11_within (mkReach S) a lo hi = f_X11_within S a lo hi := fun a lo hi => rfl
  obtain ⟨z1, z2, z3, z4, z5⟩ := few_R hn (hI.same hsame) r1 (by decide) ⟨by rw [hw]; exact hgo.1, by rw [hw]; exact hgo.2.1, by rw [g 18 (by omega)]; exact hgo.2.2⟩
  exact ⟨z1, z2, z3, z4, fun x k hx => (z5 x k (by omega)).trans (by rw [g x hx])⟩
