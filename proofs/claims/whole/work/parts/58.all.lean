-- needs: 57.runs
theorem five : (5 : Int32).toNatClampNeg = 5 := rfl
theorem isThrow_v {T : HSt} {i kd : Nat} (hi : i < 20) (h : gI T 68 (72 + 5 * i) = nI kd) (hk : 2 ≤ kd ∧ kd ≤ 6) : (f_X12_isThrow T 64 (nI i) = 0 ↔ ¬ (kd = 4 ∨ kd = 5)) ∧ p_X12_isThrow T 64 (nI i) := by
  have hd := (deedk (T := T) hi)
  have hdk : f_X12_deed T 64 (nI i) 0 = nI kd := by rw [hd.1, h]
  constructor
  · rw [thr_v, hdk]
    have hc : kd = 2 ∨ kd = 3 ∨ kd = 4 ∨ kd = 5 ∨ kd = 6 := by omega
    rcases hc with rfl | rfl | rfl | rfl | rfl
    · exact ⟨fun _ => by omega, fun _ => by decide⟩
    · exact ⟨fun _ => by omega, fun _ => by decide⟩
    · exact ⟨fun q => absurd q (by decide), fun q => absurd (Or.inl rfl) q⟩
    · exact ⟨fun q => absurd q (by decide), fun q => absurd (Or.inr rfl) q⟩
    · exact ⟨fun _ => by omega, fun _ => by decide⟩
  · exact ⟨hd.2, fun _ => hd.2⟩
theorem run_all {K : Nat} (hK : K ≤ 20) (v2 v3 w : Int32) (h3 : v3.toInt = (K : Int) - 1) : ∀ (n a m : Nat) (S T : HSt), a ≤ K → K - a < n → RG 36 m S T → FI S → m + 40 * (K - a) ≤ 2000 → (gI T 68 5).toInt = K → gI S 35 7 = 0 → T_X6_run_57 18 n S v2 v3 (nI a) ∧ T_X12_all_42 n T w (gJ S 35 5) (gJ S 35 6) (nI a) ∧ (((L_X12_all_42 n T w (gJ S 35 5) (gJ S 35 6) (nI a)).1 = 1 ∧ (L_X12_all_42 n T w (gJ S 35 5) (gJ S 35 6) (nI a)).2.1 = -1000000 ∧ ¬ gI (L_X6_run_57 18 n S v2 v3 (nI a)).2.2.2 35 7 = 0) ∨ (¬ (L_X12_all_42 n T w (gJ S 35 5) (gJ S 35 6) (nI a)).1 = 1 ∧ gI (L_X6_run_57 18 n S v2 v3 (nI a)).2.2.2 35 7 = 0 ∧ (L_X12_all_42 n T w (gJ S 35 5) (gJ S 35 6) (nI a)).2.2.1 = w ∧ (L_X12_all_42 n T w (gJ S 35 5) (gJ S 35 6) (nI a)).2.2.2.1 = gJ (L_X6_run_57 18 n S v2 v3 (nI a)).2.2.2 35 5 ∧ (L_X12_all_42 n T w (gJ S 35 5) (gJ S 35 6) (nI a)).2.2.2.2.1 = gJ (L_X6_run_57 18 n S v2 v3 (nI a)).2.2.2 35 6)) := by
  intro n
  induction n with
  | zero => intro a m S T _ h; omega
  | succ n ih =>
    intro a m S T ha hn hR hF hm hc h7
    have q1 : v3 < nI a ↔ K ≤ a := by rw [ti_lt, h3, nI_ti (by omega)]; omega
    have q2 : gI T 68 5 ≤ nI a ↔ K ≤ a := by rw [ti_le, hc, nI_ti (by omega)]; omega
    by_cases c : K ≤ a
    · unfold T_X6_run_57 T_X12_all_42 L_X6_run_57 L_X12_all_42
      rw [five, if_pos (q1.mpr c), if_pos (q2.mpr c)]
      have z := q2.mpr c
      exact ⟨⟨fun q => absurd (q1.mpr c) q, fun q => absurd (q1.mpr c) q⟩, ⟨fun q => absurd z q, fun q => absurd z q, fun q => absurd z q, fun q => absurd z q, fun q => absurd z q, fun q => absurd z q, fun q => absurd z q, fun q => absurd z q, fun q => absurd z q, fun q => absurd z q, fun q => absurd z q⟩, Or.inr ⟨fun q => absurd (show (0 : Int32) = 1 from q) (by decide), h7, rfl, rfl, rfl⟩⟩
    · have c1 : ¬ v3 < nI a := fun q => c (q1.mp q)
      have c2 : ¬ gI T 68 5 ≤ nI a := fun q => c (q2.mp q)
      obtain ⟨s1, s2, s3, s4, -, -, kd, s7, s8, s9, s10, s11⟩ := step hR (i := a) (by omega) hF (by omega) (by omega)
      obtain ⟨tv, tp⟩ := isThrow_v (T := T) (i := a) (by omega) s9 ⟨s7, s8⟩
      have hd0 := deedk (T := T) (i := a) (by omega)
      have hd1 := deed1 (T := T) (i := a) (by omega)
      by_cases k : kd = 4 ∨ kd = 5
      · have tn : ¬ f_X12_isThrow T 64 (nI a) = 0 := fun q => tv.mp q k
        obtain ⟨j, j1, j2, j3, ho1, ho2, ho3, ho4, ho5, ho6⟩ := s11 k
        clear s10 s11
        have e0 : f_X12_deed T 64 (nI a) 0 = nI kd := by rw [hd0.1, s9]
        have e1 : f_X12_deed T 64 (nI a) 1 = nI j := by rw [hd1.1, j3]
        have fo := v_X12_oddsOf T 64 (if nI kd = 5 then 1 else 0) (nI j)
        have o5 := ho5 h7 (f_X12_oddsOf T 64 (if nI kd = 5 then 1 else 0) (nI j)).2
        generalize hO : f_X12_oddsOf T 64 (if nI kd = 5 then 1 else 0) (nI j) = O at ho4 o5 fo
        obtain ⟨x1, x2, x3, x4, x5⟩ := o5
        -- the act again, from the model's heap behind the odds
        have hRO := hR.t28 fo
        have hOc : (a : Int) < (gI O.2 68 5).toInt := by rw [fr_addr fo 68 (by decide)]; omega
        have hm40 : m + 40 ≤ 2000 := by omega
        have ha20 : a < 20 := by omega
        have y := step hRO hm40 hF ha20 hOc
        have y2 := y.2.1
        have y3 := y.2.2.1
        have y5 := y.2.2.2.2.1
        have y6 := y.2.2.2.2.2.1
        clear y
        have f2 := v_X12_doAct O.2 64 (nI a)
        have cT : (gI (f_X12_doAct O.2 64 (nI a)) 68 5).toInt = K := by rw [fr_addr f2 68 (by decide), fr_addr fo 68 (by decide)]; exact hc
        -- the class's run from here, beside the model's acts
        have hw := run_told hK v2 v3 v3 w h3 h3 n (a + 1) (m + 40) (f_X6_perform S 35 18 (nI a)) (f_X12_doAct O.2 64 (nI a)) (by omega) (by omega) y3 s4 (by omega) (by omega) y5 y6
        have w1 := hw.1
        have w7 := hw.2.2.2.2.2.2
        clear hw y5 y6
        rw [nI_succ] at w1 w7
        generalize hS' : f_X6_perform S 35 18 (nI a) = S' at s3 s4 x1 x2 x3 y3 w1 w7
        unfold T_X6_run_57 T_X12_all_42 L_X6_run_57 L_X12_all_42
        rw [five, if_neg c1, if_neg c2, if_neg tn, e0, e1]
        simp only [bd_def]
        rw [hO, hS']
        by_cases d : lg_cmp (f_X12_partOf O.2 (gJ S 35 5 * O.1.toInt64) (gJ S 35 6 * (f_X12_allOdds O.2 64).toInt64) 1) (1000000000000 : Int64) ≤ 0
        · rw [if_pos d] at x3 ⊢
          obtain ⟨i1, i2, i3⟩ := ih (a + 1) (m + 40) S' (f_X12_doAct O.2 64 (nI a)) (by omega) (by omega) y3 s4 (by omega) cT x3
          rw [nI_succ] at i1 i2 i3
          rw [x1, x2] at i2 i3
          refine ⟨⟨fun _ => s1, fun _ r er => by rw [← er]; exact i1⟩, ⟨fun _ => tp, fun _ q => absurd q tn, fun _ q => absurd q tn, fun _ _ => hd0.2, fun _ _ _ _ => hd1.2, fun _ _ x ex => ?_, fun _ _ x ex r er _ _ => ?_, fun _ _ x ex r er x11 ex11 x12 ex12 => ?_, fun _ _ x ex r er x11 ex11 x12 ex12 _ _ => ?_, fun _ _ x ex r er x11 ex11 x12 ex12 x13 _ x14 _ _ => ?_, fun _ _ x ex r er x11 ex11 x12 ex12 x13 ex13 x14 ex14 _ r2 er2 => ?_⟩, i3⟩
          · rw [← ex]; exact ho3
          · rw [← ex, hO] at er; rw [← er]; exact ho4
          · rw [← ex, hO] at er; rw [← er] at ex11 ex12 ⊢; rw [← ex11, ← ex12]; exact x4
          · rw [← ex, hO] at er; rw [← er] at ex11 ex12 ⊢; rw [← ex11, ← ex12]; exact x5
          · rw [← ex, hO] at er; rw [← er]; exact y2
          · rw [← ex, hO] at er
            rw [← er] at ex11 ex12 ex13 ex14 er2
            rw [← ex11, ← ex12] at ex13 ex14
            rw [← er2, ← ex13, ← ex14]
            exact i2
        · rw [if_neg d] at x3 ⊢
          refine ⟨⟨fun _ => s1, fun _ r er => by rw [← er]; exact w1⟩, ⟨fun _ => tp, fun _ q => absurd q tn, fun _ q => absurd q tn, fun _ _ => hd0.2, fun _ _ _ _ => hd1.2, fun _ _ x ex => ?_, fun _ _ x ex r er _ _ => ?_, fun _ _ x ex r er x11 ex11 x12 ex12 => ?_, fun _ _ x ex r er x11 ex11 x12 ex12 _ _ => ?_, fun _ _ x ex r er x11 ex11 x12 ex12 x13 _ x14 _ _ => ?_, fun _ _ x ex r er x11 ex11 x12 ex12 x13 ex13 x14 ex14 q r2 er2 => ?_⟩, Or.inl ⟨rfl, rfl, w7 (by rw [x3]; decide)⟩⟩
          · rw [← ex]; exact ho3
          · rw [← ex, hO] at er; rw [← er]; exact ho4
          · rw [← ex, hO] at er; rw [← er] at ex11 ex12 ⊢; rw [← ex11, ← ex12]; exact x4
          · rw [← ex, hO] at er; rw [← er] at ex11 ex12 ⊢; rw [← ex11, ← ex12]; exact x5
          · rw [← ex, hO] at er; rw [← er]; exact y2
          · rw [← ex, hO] at er
            rw [← er] at ex11 ex12 ex14
            rw [← ex11, ← ex12] at ex14
            rw [← ex14] at q
            exact absurd q d
      · have tz : f_X12_isThrow T 64 (nI a) = 0 := tv.mpr k
        obtain ⟨z4, z7, zJ⟩ := s10 k
        clear s10 s11
        have f2 := v_X12_doAct T 64 (nI a)
        generalize hS' : f_X6_perform S 35 18 (nI a) = S' at s3 s4 z4 z7 zJ
        unfold T_X6_run_57 T_X12_all_42 L_X6_run_57 L_X12_all_42
        rw [five, if_neg c1, if_neg c2, if_pos tz, bd_def, bd_def, hS']
        obtain ⟨i1, i2, i3⟩ := ih (a + 1) (m + 40) S' (f_X12_doAct T 64 (nI a)) (by omega) (by omega) s3 s4 (by omega) (by rw [fr_addr f2 68 (by decide)]; exact hc) (by rw [z7]; exact h7)
        rw [nI_succ] at i1 i2 i3
        rw [zJ] at i2 i3
        refine ⟨⟨fun _ => s1, fun _ r er => by rw [← er]; exact i1⟩, ⟨fun _ => tp, fun _ _ => s2, fun _ _ r er => by rw [← er]; exact i2, fun _ q => absurd tz q, fun _ q => absurd tz q, fun _ q => absurd tz q, fun _ q => absurd tz q, fun _ q => absurd tz q, fun _ q => absurd tz q, fun _ q => absurd tz q, fun _ q => absurd tz q⟩, i3⟩
theorem acts_K {n : Nat} {S : HSt} (hI : Inv0 n S) : ∃ K : Nat, K ≤ 20 ∧ (gI S 68 5).toInt = K := by
  have hb := hI.2.2.2.2.1.1.2.1.1.2.2.2.2.2
  exact ⟨(gI S 68 5).toInt.toNat, by have := hb.1; have := hb.2; omega, by have := hb.1; omega⟩
theorem k_all : K_all Inv0 := by
  intro n S w hn hI
  have f1 := v_X11_all S 0 w
  have f2 := v_X12_all (f_X11_all S 0 w).2 64 w
  have hinv : Inv0 (n + 1) (f_X12_all (f_X11_all S 0 w).2 64 w).2 := ((hI.same (same_of_fr (by decide) f1)).same (same_of_fr (by decide) f2)).mono (Nat.le_succ n)
  obtain ⟨hR, hth, hbz, -⟩ := hI.2.2.2.2.1
  have hp : ∀ (T : HSt), f_X12_in T w.toInt64 (0 : Int64) (1 : Int64) = f_X11_within S w 0 1 := fun T => by
    rw [show (0 : Int64) = (0 : Int32).toInt64 from rfl, show (1 : Int64) = (1 : Int32).toInt64 from rfl, in_within T S]
  have key : p_X11_all S 0 w ∧ p_X12_all (f_X11_all S 0 w).2 64 w ∧ (f_X11_all S 0 w).1 = (f_X12_all (f_X11_all S 0 w).2 64 w).1 := by
    have g64 : gI (f_X11_all S 0 w).2 64 = gI S 64 := fr_addr f1 64 (by decide)
    have g68 : gI (f_X11_all S 0 w).2 68 = gI S 68 := fr_addr f1 68 (by decide)
    obtain ⟨U, hU⟩ : ∃ U, (f_X11_all S 0 w).2 = U := ⟨_, rfl⟩
    rw [hU] at g64 g68 ⊢
    have u7 : ∀ S1, sI U 64 0 0 = S1 → gI S1 64 7 = gI S 18 2 := fun S1 e => by rw [← e, gs_o (by decide), g64, hth]
    have u68 : gI (sI U 64 0 0) 68 = gI S 68 := by rw [gs_ne (by decide), g68]
    unfold p_X12_all f_X12_all
    simp only [bd_def, hp]
    rw [u7 _ rfl]
    by_cases c0 : f_X11_within S w 0 1 = 0
    · refine ⟨fun q => absurd c0 q, fun _ _ q => absurd c0 q, ?_⟩
      unfold f_X11_all
      rw [if_pos c0, if_pos c0, pr_1, pr_1]
    by_cases c1 : gI S 18 2 = 0
    · refine ⟨fun _ q => absurd c1 q, fun _ e _ q => absurd ((u7 _ e).trans c1) q, ?_⟩
      unfold f_X11_all
      rw [if_neg c0, if_neg c0, if_pos c1, if_pos c1, pr_1, pr_1]
    obtain ⟨K, hK, eK⟩ := acts_K hI
    obtain ⟨x, hx, er, hpr⟩ := run_v hI (a := 19) hK (Or.inl ⟨eK, by rw [show (19 : Int32).toInt = 19 from rfl]; omega⟩)
    have hR0 := rg_start hI (by rw [← hth]; exact c1) (T := sI U 64 0 0) u68 (by rw [gs_o (by decide), g64]) (by rw [gs_o (by decide), g64])
    have hf := v_X12_first (sI U 64 0 0) 64
    obtain ⟨-, -, -, s7, s5, s6⟩ := cS7_35 S
    obtain ⟨r1, r2, r3⟩ := run_all hK 19 x w hx 1000 0 0 (cS7 S) (f_X12_first (sI U 64 0 0) 64) (by omega) (by omega) hR0 (cS7_F S) (by omega) (by rw [fr_addr hf 68 (by decide), u68]; exact eK) s7
    rw [show nI 0 = (0 : Int32) from rfl, s5, s6] at r2 r3
    rw [show nI 0 = (0 : Int32) from rfl] at r1
    refine ⟨fun _ _ => hpr r1, fun S1 e _ _ r er => by rw [← er, ← e]; exact r2, ?_⟩
    rw [← er] at r3
    unfold f_X11_all
    rw [if_neg c0, if_neg c0, if_neg c1, if_neg c1, bd_def]
    rcases r3 with ⟨y1, y2, y3⟩ | ⟨y1, y2, y3, y4, y5⟩
    · rw [if_neg y3, if_pos y1, pr_1, pr_1, y2]
    · rw [if_pos y2, if_neg y1, bd_def, pr_1, pr_1, y3, y4, y5]
  exact ⟨key.1, key.2.1, key.2.2, hinv⟩
theorem counts_bw {T : HSt} (hB : WayB (gI T 68)) {e : Int32} (he : e = 0 ∨ e = 1) (b : Int32) : bw (f_X12_counts T 64 e b).1 (-99) 99 := by
  obtain ⟨-, -, -, -, -, ⟨-, h1, h2, h3⟩, -⟩ := hB
  have f := v_X12_oddsOf T 64 e b
  have f68 : gI (f_X12_oddsOf T 64 e b).2 68 = gI T 68 := fr_addr f 68 (by decide)
  unfold f_X12_counts
  simp only [bd_def]
  by_cases c : gI T 64 24 ≤ gI T 68 (68 : Int32).toNatClampNeg
  · rw [if_pos c, pr_1, f68]
    by_cases d : (2 : Int32) * (f_X12_oddsOf T 64 e b).1 < f_X12_allOdds (f_X12_oddsOf T 64 e b).2 64
    · rw [if_pos d, show (71 : Int32).toNatClampNeg = 71 from rfl]
      obtain ⟨a, b⟩ := h3
      unfold bw
      rw [ti_neg (by omega)]
      omega
    · rw [if_neg d]
      rcases he with rfl | rfl
      · rw [if_pos rfl, show ((68 : Int32) + 1).toNatClampNeg = 69 from rfl]
        exact ⟨by have := h1.1; omega, h1.2⟩
      · rw [if_neg one_ne, show ((68 : Int32) + 2).toNatClampNeg = 70 from rfl]
        exact ⟨by have := h2.1; omega, h2.2⟩
  · rw [if_neg c, pr_1]; exact ⟨by decide, by decide⟩
theorem run_score {K : Nat} (hK : K ≤ 20) (v2 v3 : Int32) (h3 : v3.toInt = (K : Int) - 1) : ∀ (n a m : Nat) (S T : HSt) (v1 : Int64), a ≤ K → K - a < n → RG 36 m S T → FI S → m + 40 * (K - a) ≤ 2000 → (gI T 68 5).toInt = K → v1.toInt = (gI S 35 4).toInt → bw (gI S 35 4) (-(99 * a)) (99 * a) → T_X6_run_57 18 n S v2 v3 (nI a) ∧ T_X12_score_24 n T v1 (nI a) ∧ (gI (L_X6_run_57 18 n S v2 v3 (nI a)).2.2.2 35 4).toInt64 = (L_X12_score_24 n T v1 (nI a)).1 := by
  intro n
  induction n with
  | zero => intro a m S T v1 _ h; omega
  | succ n ih =>
    intro a m S T v1 ha hn hR hF hm hc hv hb
    have q1 : v3 < nI a ↔ K ≤ a := by rw [ti_lt, h3, nI_ti (by omega)]; omega
    have q2 : gI T 68 5 ≤ nI a ↔ K ≤ a := by rw [ti_le, hc, nI_ti (by omega)]; omega
    by_cases c : K ≤ a
    · unfold T_X6_run_57 T_X12_score_24 L_X6_run_57 L_X12_score_24
      rw [five, if_pos (q1.mpr c), if_pos (q2.mpr c)]
      have z := q2.mpr c
      refine ⟨⟨fun q => absurd (q1.mpr c) q, fun q => absurd (q1.mpr c) q⟩, ⟨fun q => absurd z q, fun q => absurd z q, fun q => absurd z q, fun q => absurd z q, fun q => absurd z q, fun q => absurd z q⟩, ?_⟩
      show (gI S 35 4).toInt64 = v1
      rw [tj_eq, tj_32, hv]
    · have c1 : ¬ v3 < nI a := fun q => c (q1.mp q)
      have c2 : ¬ gI T 68 5 ≤ nI a := fun q => c (q2.mp q)
      obtain ⟨s1, s2, s3, s4, -, -, kd, s7, s8, s9, s10, s11⟩ := step hR (i := a) (by omega) hF (by omega) (by omega)
      obtain ⟨tv, tp⟩ := isThrow_v (T := T) (i := a) (by omega) s9 ⟨s7, s8⟩
      have hd0 := deedk (T := T) (i := a) (by omega)
      have hd1 := deed1 (T := T) (i := a) (by omega)
      obtain ⟨hb1, hb2⟩ := hb
      by_cases k : kd = 4 ∨ kd = 5
      · have tn : ¬ f_X12_isThrow T 64 (nI a) = 0 := fun q => tv.mp q k
        obtain ⟨j, j1, j2, j3, ho1, ho2, -⟩ := s11 k
        clear s10 s11
        have e0 : f_X12_deed T 64 (nI a) 0 = nI kd := by rw [hd0.1, s9]
        have e1 : f_X12_deed T 64 (nI a) 1 = nI j := by rw [hd1.1, j3]
        have fo := v_X12_counts T 64 (if nI kd = 5 then 1 else 0) (nI j)
        have cb := counts_bw (T := T) hR.2.1 (e := if nI kd = 5 then 1 else 0) (by rcases k with rfl | rfl; exact Or.inl (by decide); exact Or.inr (by decide)) (nI j)
        generalize hO : f_X12_counts T 64 (if nI kd = 5 then 1 else 0) (nI j) = O at ho1 fo cb
        obtain ⟨cb1, cb2⟩ := cb
        have hRO := hR.t28 fo
        have hOc : (a : Int) < (gI O.2 68 5).toInt := by rw [fr_addr fo 68 (by decide)]; omega
        have hm40 : m + 40 ≤ 2000 := by omega
        have ha20 : a < 20 := by omega
        have y := step hRO hm40 hF ha20 hOc
        have y2 := y.2.1
        have y3 := y.2.2.1
        have y5 := y.2.2.2.2.1
        have y6 := y.2.2.2.2.2.1
        clear y
        have f2 := v_X12_doAct O.2 64 (nI a)
        have cT : (gI (f_X12_doAct O.2 64 (nI a)) 68 5).toInt = K := by rw [fr_addr f2 68 (by decide), fr_addr fo 68 (by decide)]; exact hc
        have t4 : (gI S 35 4 + O.1).toInt = (gI S 35 4).toInt + O.1.toInt := ti_add (by omega) (by omega)
        generalize hS' : f_X6_perform S 35 18 (nI a) = S' at s3 s4 y3 ho1
        have tv1 : (v1 + O.1.toInt64).toInt = (gI S' 35 4).toInt := by
          rw [ho1, t4, tj_add (by rw [tj_32]; omega) (by rw [tj_32]; omega), tj_32, hv]
        unfold T_X6_run_57 T_X12_score_24 L_X6_run_57 L_X12_score_24
        rw [five, if_neg c1, if_neg c2]
        simp only [bd_def]
        rw [if_neg tn, if_neg tn, e0, e1, hO, hS']
        obtain ⟨i1, i2, i3⟩ := ih (a + 1) (m + 40) S' (f_X12_doAct O.2 64 (nI a)) (v1 + O.1.toInt64) (by omega) (by omega) y3 s4 (by omega) cT tv1 (by rw [ho1]; exact ⟨by rw [t4]; omega, by rw [t4]; omega⟩)
        rw [nI_succ] at i1 i2 i3
        refine ⟨⟨fun _ => s1, fun _ r er => by rw [← er]; exact i1⟩, ⟨fun _ => tp, fun _ _ => hd0.2, fun _ _ _ _ => hd1.2, fun _ _ x ex => ?_, fun _ x ex S1 eS _ _ => ?_, fun _ x ex S1 eS x2 ex2 r er => ?_⟩, i3⟩
        · rw [← ex]; exact ho2
        · rw [← eS]; exact y2
        · rw [← er, ← eS, ← ex2, ← ex]; exact i2
      · have tz : f_X12_isThrow T 64 (nI a) = 0 := tv.mpr k
        obtain ⟨z4, z7, zJ⟩ := s10 k
        clear s10 s11
        have f2 := v_X12_doAct T 64 (nI a)
        generalize hS' : f_X6_perform S 35 18 (nI a) = S' at s3 s4 z4 z7 zJ
        unfold T_X6_run_57 T_X12_score_24 L_X6_run_57 L_X12_score_24
        rw [five, if_neg c1, if_neg c2]
        simp only [bd_def]
        rw [if_pos tz, if_pos tz, hS']
        have tv0 : (v1 + 0).toInt = (gI S' 35 4).toInt := by
          rw [z4, tj_add (by rw [tj0]; omega) (by rw [tj0]; omega), tj0, hv]
          omega
        obtain ⟨i1, i2, i3⟩ := ih (a + 1) (m + 40) S' (f_X12_doAct T 64 (nI a)) (v1 + 0) (by omega) (by omega) s3 s4 (by omega) (by rw [fr_addr f2 68 (by decide)]; exact hc) tv0 (by rw [z4]; exact ⟨by omega, by omega⟩)
        rw [nI_succ] at i1 i2 i3
        refine ⟨⟨fun _ => s1, fun _ r er => by rw [← er]; exact i1⟩, ⟨fun _ => tp, fun _ q => absurd tz q, fun _ q => absurd tz q, fun _ q => absurd tz q, fun _ x ex S1 eS _ _ => ?_, fun _ x ex S1 eS x2 ex2 r er => ?_⟩, i3⟩
        · rw [← eS]; exact s2
        · rw [← er, ← eS, ← ex2, ← ex]; exact i2
theorem k_score : K_score Inv0 := by
  intro n S hn hI
  have f1 := v_X11_score S 0
  have f2 := v_X12_score (f_X11_score S 0).2 64
  have hinv : Inv0 (n + 1) (f_X12_score (f_X11_score S 0).2 64).2 := ((hI.same (same_of_fr (by decide) f1)).same (same_of_fr (by decide) f2)).mono (Nat.le_succ n)
  obtain ⟨hR, hth, hbz, -⟩ := hI.2.2.2.2.1
  have key : p_X11_score S 0 ∧ p_X12_score (f_X11_score S 0).2 64 ∧ (f_X11_score S 0).1 = (f_X12_score (f_X11_score S 0).2 64).1 := by
    have g64 : gI (f_X11_score S 0).2 64 = gI S 64 := fr_addr f1 64 (by decide)
    have g68 : gI (f_X11_score S 0).2 68 = gI S 68 := fr_addr f1 68 (by decide)
    obtain ⟨U, hU⟩ : ∃ U, (f_X11_score S 0).2 = U := ⟨_, rfl⟩
    rw [hU] at g64 g68 ⊢
    have u7 : ∀ S1, sI U 64 0 0 = S1 → gI S1 64 7 = gI S 18 2 := fun S1 e => by rw [← e, gs_o (by decide), g64, hth]
    have u68 : gI (sI U 64 0 0) 68 = gI S 68 := by rw [gs_ne (by decide), g68]
    unfold p_X12_score f_X12_score
    simp only [bd_def]
    rw [u7 _ rfl]
    by_cases c1 : gI S 18 2 = 0
    · refine ⟨fun q => absurd c1 q, fun _ e q => absurd ((u7 _ e).trans c1) q, ?_⟩
      unfold f_X11_score
      rw [if_pos c1, if_pos c1, pr_1, pr_1]
    obtain ⟨K, hK, eK⟩ := acts_K hI
    obtain ⟨x, hx, er, hpr⟩ := run_v hI (a := 19) hK (Or.inl ⟨eK, by rw [show (19 : Int32).toInt = 19 from rfl]; omega⟩)
    have hR0 := rg_start hI (by rw [← hth]; exact c1) (T := sI U 64 0 0) u68 (by rw [gs_o (by decide), g64]) (by rw [gs_o (by decide), g64])
    have hf := v_X12_first (sI U 64 0 0) 64
    obtain ⟨-, -, s4, -⟩ := cS7_35 S
    obtain ⟨r1, r2, r3⟩ := run_score hK 19 x hx 1000 0 0 (cS7 S) (f_X12_first (sI U 64 0 0) 64) 0 (by omega) (by omega) hR0 (cS7_F S) (by omega) (by rw [fr_addr hf 68 (by decide), u68]; exact eK) (by rw [s4]; rfl) (by rw [s4]; exact ⟨by decide, by decide⟩)
    rw [show nI 0 = (0 : Int32) from rfl] at r1 r2 r3
    refine ⟨fun _ => hpr r1, fun S1 e _ r er => by rw [← er, ← e]; exact r2, ?_⟩
    unfold f_X11_score
    rw [if_neg c1, if_neg c1, bd_def, pr_1, pr_1, er, r3]
  exact ⟨key.1, key.2.1, key.2.2, hinv⟩
