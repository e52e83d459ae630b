-- needs: 56.told
/-! ===== told, all, score ===== -/
theorem run_told {K : Nat} (hK : K ≤ 20) (v2 v3 w1 w2 : Int32) (h3 : v3.toInt = (K : Int) - 1) (h1 : w1.toInt = (K : Int) - 1) : ∀ (n a m : Nat) (S T : HSt), a ≤ K → K - a < n → RG 36 m S T → FI S → m + 40 * (K - a) ≤ 2000 → (K : Int) ≤ (gI T 68 5).toInt → gI S 35 2 = gI T 64 29 → gI S 35 3 = gI T 64 30 → T_X6_run_57 18 n S v2 v3 (nI a) ∧ T_X12_told_63 n T w1 w2 (nI a) ∧ (∃ m', RG 36 m' (L_X6_run_57 18 n S v2 v3 (nI a)).2.2.2 (L_X12_told_63 n T w1 w2 (nI a)).2.2.2) ∧ gI (L_X6_run_57 18 n S v2 v3 (nI a)).2.2.2 35 2 = gI (L_X12_told_63 n T w1 w2 (nI a)).2.2.2 64 29 ∧ gI (L_X6_run_57 18 n S v2 v3 (nI a)).2.2.2 35 3 = gI (L_X12_told_63 n T w1 w2 (nI a)).2.2.2 64 30 ∧ (L_X12_told_63 n T w1 w2 (nI a)).2.1 = w2 ∧ (¬ gI S 35 7 = 0 → ¬ gI (L_X6_run_57 18 n S v2 v3 (nI a)).2.2.2 35 7 = 0) := by
  intro n
  induction n with
  | zero => intro a m S T _ h; omega
  | succ n ih =>
    intro a m S T ha hn hR hF hm hc e2 e3
    unfold T_X6_run_57 T_X12_told_63 L_X6_run_57 L_X12_told_63
    have q1 : v3 < nI a ↔ K ≤ a := by rw [ti_lt, h3, nI_ti (by omega)]; omega
    have q2 : w1 < nI a ↔ K ≤ a := by rw [ti_lt, h1, nI_ti (by omega)]; omega
    by_cases c : K ≤ a
    · rw [if_pos (q1.mpr c), if_pos (q2.mpr c)]
      exact ⟨⟨fun q => absurd (q1.mpr c) q, fun q => absurd (q1.mpr c) q⟩, ⟨fun q => absurd (q2.mpr c) q, fun q => absurd (q2.mpr c) q⟩, ⟨m, hR⟩, e2, e3, rfl, fun q => q⟩
    · have c1 : ¬ v3 < nI a := fun q => c (q1.mp q)
      have c2 : ¬ w1 < nI a := fun q => c (q2.mp q)
      rw [if_neg c1, if_neg c2]
      obtain ⟨s1, s2, s3, s4, s5, s6, kd, s7, s8, s9, s10, s11⟩ := step hR (i := a) (by omega) hF (by omega) (by omega)
      have f2 := v_X12_doAct T 64 (nI a)
      have h7 : ¬ gI S 35 7 = 0 → ¬ gI (f_X6_perform S 35 18 (nI a)) 35 7 = 0 := fun q => by
        by_cases k : kd = 4 ∨ kd = 5
        · obtain ⟨j, -, -, -, ho⟩ := s11 k
          rw [ho.2.2.2.2.2 q]; exact q
        · rw [(s10 k).2.1]; exact q
      generalize f_X6_perform S 35 18 (nI a) = S' at s3 s4 s5 s6 h7
      generalize f_X12_doAct T 64 (nI a) = T' at s3 s5 s6 f2
      rw [bd_def, bd_def]
      obtain ⟨i1, i2, i3, i4, i5, i6, i7⟩ := ih (a + 1) (m + 40) S' T' (by omega) (by omega) s3 s4 (by omega) (by rw [fr_addr f2 68 (by decide)]; exact hc) s5 s6
      rw [nI_succ] at i1 i2 i3 i4 i5 i6 i7
      exact ⟨⟨fun _ => s1, fun _ r er => by rw [← er]; exact i1⟩, ⟨fun _ => s2, fun _ r er => by rw [← er]; exact i2⟩, i3, i4, i5, i6, fun q => i7 (h7 q)⟩
/-- where a run of the class begins -/
noncomputable def cS7 (S : HSt) : HSt := sI (sJ (sJ (sI (sI (sI (f_X1_begin S 36) 35 2 (-1000000)) 35 3 (-1000000)) 35 4 0) 35 5 1) 35 6 1) 35 7 0
theorem cS7_x (S : HSt) {x : Nat} (h : x ≠ 35) : gI (cS7 S) x = gI (f_X1_begin S 36) x := by
  unfold cS7
  rw [gs_ne h, gI_sJ, gI_sJ, gs_ne h, gs_ne h, gs_ne h]
theorem cS7_35 (S : HSt) : gI (cS7 S) 35 2 = -1000000 ∧ gI (cS7 S) 35 3 = -1000000 ∧ gI (cS7 S) 35 4 = 0 ∧ gI (cS7 S) 35 7 = 0 ∧ gJ (cS7 S) 35 5 = 1 ∧ gJ (cS7 S) 35 6 = 1 := by
  unfold cS7
  refine ⟨?_, ?_, ?_, ?_, ?_, ?_⟩
  · rw [gs_o (by decide), gI_sJ, gI_sJ, gs_o (by decide), gs_o (by decide), gs_eq, if_pos rfl]
  · rw [gs_o (by decide), gI_sJ, gI_sJ, gs_o (by decide), gs_eq, if_pos rfl]
  · rw [gs_o (by decide), gI_sJ, gI_sJ, gs_eq, if_pos rfl]
  · rw [gs_eq, if_pos rfl]
  · rw [gJ_sI, gJ_sJ, if_pos rfl, if_neg (by decide), gJ_sJ, if_pos rfl, if_pos rfl]
  · rw [gJ_sI, gJ_sJ, if_pos rfl, if_pos rfl]
theorem cS7_F (S : HSt) : FI (cS7 S) := by
  obtain ⟨-, -, -, h7, h5, h6⟩ := cS7_35 S
  unfold FI
  rw [h7, h5, h6]
  exact ⟨Or.inl rfl, fun _ => ⟨by decide, by decide, by decide, by decide⟩⟩
theorem rg_start {n : Nat} {S T : HSt} (hI : Inv0 n S) (h7 : ¬ gI S 64 7 = 0) (h68 : gI T 68 = gI S 68) (h18 : gI T 64 18 = gI S 64 18) (h19 : gI T 64 19 = gI S 64 19) : RG 36 0 (cS7 S) (f_X12_first T 64) := by
  obtain ⟨w1, w2, w3⟩ := scn_W hI h68 h18 h19
  obtain ⟨l4, l5⟩ := len40 hI h7
  refine (rg_first (lp := 36) (S := S) (T := T) (by decide) (by decide) (by decide) w1 w2 w3 l4 l5).of ?_ ?_ ?_ ?_ rfl rfl rfl (fun _ _ => rfl)
  · exact cS7_x S (by decide)
  · exact cS7_x S (by decide)
  · exact cS7_x S (by decide)
  · exact cS7_x S (by decide)
/-- the run of the class is its loop; K acts -/
theorem run_v {n : Nat} {S : HSt} (hI : Inv0 n S) {a : Int32} {K : Nat} (hK : K ≤ 20) (ha : ((gI S 68 5).toInt = K ∧ (K : Int) ≤ a.toInt + 1) ∨ (a.toInt + 1 = K ∧ (K : Int) ≤ (gI S 68 5).toInt)) : ∃ x : Int32, x.toInt = (K : Int) - 1 ∧ f_X6_run S 35 18 a = (L_X6_run_57 18 1000 (cS7 S) a x 0).2.2.2 ∧ (T_X6_run_57 18 1000 (cS7 S) a x 0 → p_X6_run S 35 18 a) := by
  have hb := hI.2.2.2.2.1.1.2.1.1.2.2.2.2.2
  obtain ⟨b1, b2⟩ := hb
  have hmany : f_X10_howMany (cS7 S) 19 5 = gI S 68 5 := by
    refine (many_at (cS7 S) 19 (s := 5) (by decide)).trans ?_
    rw [show 19 + 1 = 20 from rfl, cS7_x S (by decide), fr_addr (v_X1_begin S 36) 20 (by decide)]
    exact hI.2.2.2.2.1.1.1.1 5 (by decide)
  have hs : (gI S 68 5 - 1).toInt = (gI S 68 5).toInt - 1 := by rw [ti_sub (by rw [ti1]; omega) (by rw [ti1]; omega), ti1]
  refine ⟨if (gI S 68 5 - 1) < a then (gI S 68 5 - 1) else a, ?_, ?_, ?_⟩
  · by_cases c : gI S 68 5 - 1 < a
    · rw [if_pos c, hs]
      rw [ti_lt, hs] at c
      rcases ha with h | h <;> omega
    · rw [if_neg c]
      rw [ti_lt, hs] at c
      rcases ha with h | h <;> omega
  · unfold f_X6_run
    simp only [bd_def]
    rw [show sI (sJ (sJ (sI (sI (sI (f_X1_begin S 36) 35 2 (-1000000)) 35 3 (-1000000)) 35 4 0) 35 5 1) 35 6 1) 35 7 0 = cS7 S from rfl, show 18 + 1 = 19 from rfl, hmany]
  · intro hT
    refine ⟨fun _ _ _ _ _ _ _ _ _ _ _ _ _ _ => p_many _ _ _, fun r1 e1 S2 e2 S3 e3 S4 e4 S5 e5 S6 e6 S7 e7 x ex => ?_⟩
    have e : S7 = cS7 S := by rw [← e7, ← e6, ← e5, ← e4, ← e3, ← e2, ← e1]; rfl
    rw [e] at ex ⊢
    rw [show 18 + 1 = 19 from rfl, hmany] at ex
    rw [← ex]
    exact hT
theorem k_told : K_told Inv0 := by
  intro n S a w hn hI
  have f1 := v_X11_told S 0 a w
  have f2 := v_X12_told (f_X11_told S 0 a w).2 64 a w
  have hinv : Inv0 (n + 1) (f_X12_told (f_X11_told S 0 a w).2 64 a w).2 := ((hI.same (same_of_fr (by decide) f1)).same (same_of_fr (by decide) f2)).mono (Nat.le_succ n)
  obtain ⟨hR, hth, hbz, -⟩ := hI.2.2.2.2.1
  have hp : ∀ (T : HSt), f_X12_in T w.toInt64 (0 : Int64) (7 : Int64) = f_X11_within S w 0 7 := fun T => by
    rw [show (0 : Int64) = (0 : Int32).toInt64 from rfl, show (7 : Int64) = (7 : Int32).toInt64 from rfl, in_within T S]
  have key : p_X11_told S 0 a w ∧ p_X12_told (f_X11_told S 0 a w).2 64 a w ∧ (f_X11_told S 0 a w).1 = (f_X12_told (f_X11_told S 0 a w).2 64 a w).1 := by
    have g64 : gI (f_X11_told S 0 a w).2 64 = gI S 64 := fr_addr f1 64 (by decide)
    have g68 : gI (f_X11_told S 0 a w).2 68 = gI S 68 := fr_addr f1 68 (by decide)
    obtain ⟨U, hU⟩ : ∃ U, (f_X11_told S 0 a w).2 = U := ⟨_, rfl⟩
    rw [hU] at g64 g68 ⊢
    have u7 : ∀ S1, sI U 64 0 0 = S1 → gI S1 64 7 = gI S 18 2 := fun S1 e => by rw [← e, gs_o (by decide), g64, hth]
    have u68 : gI (sI U 64 0 0) 68 = gI S 68 := by rw [gs_ne (by decide), g68]
    unfold p_X12_told f_X12_told
    simp only [bd_def, hp]
    rw [u7 _ rfl]
    by_cases c1 : gI S 18 2 = 0
    · refine ⟨⟨fun q => absurd c1 q, fun q => absurd c1 q, fun q => absurd c1 q⟩, ⟨fun _ e q => absurd ((u7 _ e).trans c1) q, fun _ e q => absurd ((u7 _ e).trans c1) q⟩, ?_⟩
      unfold f_X11_told
      rw [if_pos c1, if_pos c1, pr_1, pr_1]
    -- the run itself, of K acts
    have main : ¬ f_X11_within S w 0 7 = 0 → ∀ K : Nat, K ≤ 20 → a.toInt + 1 = K → (K : Int) ≤ (gI S 68 5).toInt → p_X6_run S 35 18 a ∧ T_X12_told_63 1000 (mT3 (f_X12_first (sI U 64 0 0) 64)) a w 0 ∧ (if w = (6 : Int32) then (gI (f_X6_run S 35 18 a) 35 2).toInt64 else (if w = (7 : Int32) then (gI (f_X6_run S 35 18 a) 35 3).toInt64 else (f_X1_tell (f_X6_run S 35 18 a) 36 w).toInt64)) = (if (6 : Int32) ≤ (L_X12_told_63 1000 (mT3 (f_X12_first (sI U 64 0 0) 64)) a w 0).2.1 then (if (L_X12_told_63 1000 (mT3 (f_X12_first (sI U 64 0 0) 64)) a w 0).2.1 = (6 : Int32) then (gI (L_X12_told_63 1000 (mT3 (f_X12_first (sI U 64 0 0) 64)) a w 0).2.2.2 64 29).toInt64 else (gI (L_X12_told_63 1000 (mT3 (f_X12_first (sI U 64 0 0) 64)) a w 0).2.2.2 64 30).toInt64) else (f_X12_of (L_X12_told_63 1000 (mT3 (f_X12_first (sI U 64 0 0) 64)) a w 0).2.2.2 64 (L_X12_told_63 1000 (mT3 (f_X12_first (sI U 64 0 0) 64)) a w 0).2.1).toInt64) := by
      intro cw K hK h1 h2
      obtain ⟨x, hx, er, hpr⟩ := run_v hI hK (Or.inr ⟨h1, h2⟩)
      have hR0 := rg_start hI (by rw [← hth]; exact c1) (T := sI U 64 0 0) u68 (by rw [gs_o (by decide), g64]) (by rw [gs_o (by decide), g64])
      have hf := v_X12_first (sI U 64 0 0) 64
      obtain ⟨s2, s3, -, -, -, -⟩ := cS7_35 S
      have hRm : RG 36 0 (cS7 S) (mT3 (f_X12_first (sI U 64 0 0) 64)) := by
        refine hR0.of rfl rfl rfl rfl ?_ ?_ ?_ (fun j hj => ?_)
        · unfold mT3; rw [gs_ne (by decide), gs_ne (by decide)]
        · unfold mT3; rw [gs_o (by decide), gs_o (by decide)]
        · unfold mT3; rw [gs_o (by decide), gs_o (by decide)]
        · show gI _ 64 (20 + j) = gI _ 64 (20 + j); unfold mT3; rw [gs_o (by omega), gs_o (by omega)]
      have t29 : gI (mT3 (f_X12_first (sI U 64 0 0) 64)) 64 29 = -1000000 := by unfold mT3; rw [gs_o (by decide), gs_eq, if_pos rfl]
      have t30 : gI (mT3 (f_X12_first (sI U 64 0 0) 64)) 64 30 = -1000000 := by unfold mT3; rw [gs_eq, if_pos rfl]
      have t68 : gI (mT3 (f_X12_first (sI U 64 0 0) 64)) 68 = gI S 68 := by unfold mT3; rw [gs_ne (by decide), gs_ne (by decide), fr_addr hf 68 (by decide), u68]
      obtain ⟨r1, r2, ⟨m', r3⟩, r4, r5, r6, -⟩ := run_told hK a x a w hx (by omega) 1000 0 0 (cS7 S) (mT3 (f_X12_first (sI U 64 0 0) 64)) (by omega) (by omega) hRm (cS7_F S) (by omega) (by rw [t68]; exact h2) (by rw [s2, t29]) (by rw [s3, t30])
      rw [show nI 0 = (0 : Int32) from rfl] at r1 r2 r3 r4 r5 r6
      refine ⟨hpr r1, r2, ?_⟩
      rw [er, r4, r5, r6]
      have hw := within_1 S cw
      rw [ti0, show (7 : Int32).toInt = 7 from rfl] at hw
      obtain ⟨k, hk, rfl⟩ := nI_of_bw (x := w) (n := 8) hw.1 (by omega) (by omega)
      have hL := r3.2.2.2.2.1
      have hz := r3.2.2.2.2.2.2.2.2.2.2.1
      generalize L_X6_run_57 18 1000 (cS7 S) a x 0 = A at hL
      generalize L_X12_told_63 1000 (mT3 (f_X12_first (sI U 64 0 0) 64)) a (nI k) 0 = B at hL hz
      have hob := of_at B.2.2.2 hz
      obtain ⟨l0, l1, l2, l3, l4, l5, l6⟩ := hL
      have hc : k = 0 ∨ k = 1 ∨ k = 2 ∨ k = 3 ∨ k = 4 ∨ k = 5 ∨ k = 6 ∨ k = 7 := by omega
      rcases hc with rfl | rfl | rfl | rfl | rfl | rfl | rfl | rfl
      · rw [if_neg (show ¬ nI 0 = 6 by decide), if_neg (show ¬ nI 0 = 7 by decide), if_neg (show ¬ (6 : Int32) ≤ nI 0 by decide), tell_0, hob 0 (by decide), l0]
      · rw [if_neg (show ¬ nI 1 = 6 by decide), if_neg (show ¬ nI 1 = 7 by decide), if_neg (show ¬ (6 : Int32) ≤ nI 1 by decide), tell_1, hob 1 (by decide), l1]
      · rw [if_neg (show ¬ nI 2 = 6 by decide), if_neg (show ¬ nI 2 = 7 by decide), if_neg (show ¬ (6 : Int32) ≤ nI 2 by decide), tell_2, hob 2 (by decide), l2]
      · rw [if_neg (show ¬ nI 3 = 6 by decide), if_neg (show ¬ nI 3 = 7 by decide), if_neg (show ¬ (6 : Int32) ≤ nI 3 by decide), tell_3, hob 3 (by decide), l3]
      · rw [if_neg (show ¬ nI 4 = 6 by decide), if_neg (show ¬ nI 4 = 7 by decide), if_neg (show ¬ (6 : Int32) ≤ nI 4 by decide), tell_4, hob 4 (by decide), l4]
      · rw [if_neg (show ¬ nI 5 = 6 by decide), if_neg (show ¬ nI 5 = 7 by decide), if_neg (show ¬ (6 : Int32) ≤ nI 5 by decide), tell_5, hob 5 (by decide), l6]
        have hz' : Bz (WL B.2.2.2 5) := hz
        rcases hz' with q | q <;> rw [q] <;> rfl
      · rw [if_pos (show nI 6 = 6 by decide), if_pos (show (6 : Int32) ≤ nI 6 by decide), if_pos (show nI 6 = 6 by decide)]
      · rw [if_neg (show ¬ nI 7 = 6 by decide), if_pos (show nI 7 = 7 by decide), if_pos (show (6 : Int32) ≤ nI 7 by decide), if_neg (show ¬ nI 7 = 6 by decide)]
    by_cases c2 : a = -1
    · have hh : ¬ f_X11_within S w 0 7 = 0 → _ := fun q => main q 0 (by omega) (by rw [c2]; decide) (by have := hI.2.2.2.2.1.1.2.1.1.2.2.2.2.2.1; omega)
      refine ⟨⟨fun _ _ q => (hh q).1, fun _ q => absurd c2 q, fun _ q => absurd c2 q⟩, ⟨fun S1 e _ _ q r5 e5 S6 e6 S7 e7 => ?_, fun _ _ _ q => absurd c2 q⟩, ?_⟩
      · rw [← e7, ← e6, ← e5, ← e]; exact (hh q).2.1
      · unfold f_X11_told
        rw [if_neg c1, if_neg c1, if_pos c2, if_pos c2]
        by_cases c3 : f_X11_within S w 0 7 = 0
        · rw [if_pos c3, if_pos c3, pr_1, pr_1]
        · rw [if_neg c3, if_neg c3, pr_1]
          refine Eq.trans ?_ (hh c3).2.2
          rw [bd_def]
          by_cases c4 : w = 6
          · rw [if_pos c4, if_pos c4, pr_1]
          · rw [if_neg c4, if_neg c4, bd_def, pr_1]
    · rcases act_case hI a with ⟨d1, d2⟩ | ⟨i, kd, hi, rfl, -, -, -, -, -, d1, d2⟩
      · have dm := d2 (sI U 64 0 0) u68
        refine ⟨⟨fun _ q => absurd q c2, fun _ _ => p_has _ _ _ _, fun _ _ q => absurd d1 q⟩, ⟨fun _ _ _ q => absurd q c2, fun S1 e _ _ q => by rw [← e] at q; exact absurd dm q⟩, ?_⟩
        unfold f_X11_told
        rw [if_neg c1, if_neg c1, if_neg c2, if_neg c2, if_pos d1, if_pos dm, pr_1, pr_1]
      · have dm := d2 (sI U 64 0 0) u68
        have hic : (i : Int) < (gI S 68 5).toInt := by
          have hb := hR.2.1.1.2.2.2.2.2
          have := Classical.not_not.mp (fun q => d2 S rfl ((isAct_iff S hb (nI i)).mpr q))
          rw [nI_ti (by omega)] at this
          exact this.2
        have hh : ¬ f_X11_within S w 0 7 = 0 → _ := fun q => main q (i + 1) (by omega) (by rw [nI_ti (by omega)]; omega) (by omega)
        refine ⟨⟨fun _ q => absurd q c2, fun _ _ => p_has _ _ _ _, fun _ _ _ q => (hh q).1⟩, ⟨fun _ _ _ q => absurd q c2, fun S1 e _ _ _ q r5 e5 S6 e6 S7 e7 => ?_⟩, ?_⟩
        · rw [← e7, ← e6, ← e5, ← e]; exact (hh q).2.1
        · unfold f_X11_told
          rw [if_neg c1, if_neg c1, if_neg c2, if_neg c2, if_neg d1, if_neg dm]
          by_cases c3 : f_X11_within S w 0 7 = 0
          · rw [if_pos c3, if_pos c3, pr_1, pr_1]
          · rw [if_neg c3, if_neg c3, pr_1]
            refine Eq.trans ?_ (hh c3).2.2
            rw [bd_def]
            by_cases c4 : w = 6
            · rw [if_pos c4, if_pos c4, pr_1]
            · rw [if_neg c4, if_neg c4, bd_def, pr_1]
  exact ⟨key.1, key.2.1, key.2.2, hinv⟩
