-- needs: 58.all
/-! ===== best ===== -/
def BB (m : Nat) (S T : HSt) : Prop := RG 36 m S T ∧ gI S 35 8 = gI T 64 31 ∧ gI S 35 9 = gI T 64 32 ∧ ((gI T 64 32 = 0 ∧ gI S 35 10 = 1) ∨ (0 < (gI T 64 32).toInt ∧ (gI T 64 32).toInt ≤ 84 ∧ gI S 35 10 = 12 * (2 * gI S 18 9 + 1)))
theorem RG.ofx {lp m : Nat} {S S' T T' : HSt} {W W' : List (Nat × Nat)} (f : Fr W S S') (f' : Fr W' T T') (c : ∀ x, x = 18 ∨ x = 20 ∨ x = 21 ∨ x = lp → ∀ q ∈ W, q.1 ≠ x) (c' : ∀ q ∈ W', q.1 = 64 ∧ (q.2 = 28 ∨ q.2 = 29 ∨ q.2 = 30 ∨ q.2 = 31 ∨ q.2 = 32 ∨ q.2 = 0)) (hR : RG lp m S T) : RG lp m S' T' := by
  refine hR.of (fr_addr f 18 (c 18 (by omega))) (fr_addr f 20 (c 20 (by omega))) (fr_addr f 21 (c 21 (by omega))) (fr_addr f lp (c lp (by omega))) (fr_addr f' 68 (fun q hq => by have := c' q hq; omega)) (f' 64 18 (fun q => by have := c' _ q; simp at this) (fun q => by have := c' _ q; simp at this)) (f' 64 19 (fun q => by have := c' _ q; simp at this) (fun q => by have := c' _ q; simp at this)) (fun j hj => f' 64 (20 + j) (fun q => by have := c' _ q; simp at this; omega) (fun q => by have := c' _ q; simp at this))
theorem weigh_L {j : Nat} (hj : j < 4) : ∀ (n k m : Nat) (S T : HSt), k ≤ 2 → 2 - k < n → BB m S T → m ≤ 2000 → (j : Int) < (gI T 68 2).toInt → T_X6_weighBoth_2 18 n S (nI j) (nI k) ∧ T_X12_lookBest_2 n T (nI j) (nI k) ∧ BB m (L_X6_weighBoth_2 18 n S (nI j) (nI k)).2.2 (L_X12_lookBest_2 n T (nI j) (nI k)).2.2 := by
  intro n
  induction n with
  | zero => intro k m S T _ h; omega
  | succ n ih =>
    intro k m S T hk hn hB hm hc
    unfold T_X6_weighBoth_2 T_X12_lookBest_2 L_X6_weighBoth_2 L_X12_lookBest_2
    have q1 : (1 : Int32) < nI k ↔ 2 ≤ k := by rw [ti_lt, nI_ti (by omega), ti1]; omega
    have q2 : (2 : Int32) ≤ nI k ↔ 2 ≤ k := by rw [ti_le, nI_ti (by omega), show (2 : Int32).toInt = 2 from rfl]; omega
    by_cases c : 2 ≤ k
    · rw [if_pos (q1.mpr c), if_pos (q2.mpr c)]
      exact ⟨⟨fun q => absurd (q1.mpr c) q, fun q => absurd (q1.mpr c) q⟩, ⟨fun q => absurd (q2.mpr c) q, fun q => absurd (q2.mpr c) q⟩, hB⟩
    · have c1 : ¬ (1 : Int32) < nI k := fun q => c (q1.mp q)
      have c2 : ¬ (2 : Int32) ≤ nI k := fun q => c (q2.mp q)
      rw [if_neg c1, if_neg c2]
      simp only [bd_def]
      obtain ⟨hR, b8, b9, b10⟩ := hB
      have hK := hR.lnk hm hj hc
      obtain ⟨pa, ⟨po, a2, a3, hTo⟩, -, -⟩ := aim_at hK (o := 37) (by decide) (by decide) (by decide) (nI k)
      have hbo := odds_bw (e := if nI k = 1 then 1 else 0) hK.1
      have fa := v_X9_aim S 37 18 36 (nI k) (nI j)
      have fo := v_X12_oddsOf T 64 (if nI k = 1 then 1 else 0) (nI j)
      generalize hA : f_X9_aim S 37 18 36 (nI k) (nI j) = A at a2 a3 fa
      generalize hO : f_X12_oddsOf T 64 (if nI k = 1 then 1 else 0) (nI j) = O at a2 hbo fo
      have A35 : ∀ x, gI A 35 x = gI S 35 x := fun x => congrFun (fr_addr fa 35 (by decide)) x
      have A36 : gI A 36 = gI S 36 := fr_addr fa 36 (by decide)
      have A18 : gI A 18 = gI S 18 := fr_addr fa 18 (by decide)
      have O32 : gI O.2 64 32 = gI T 64 32 := fo 64 32 (by decide) (by decide)
      have O31 : gI O.2 64 31 = gI T 64 31 := fo 64 31 (by decide) (by decide)
      have O24 : gI O.2 64 24 = gI T 64 24 := fo 64 24 (by decide) (by decide)
      have l4 : gI S 36 4 = gI T 64 24 := hR.2.2.2.2.1.2.2.2.2.1
      have hRA : RG 36 m A O.2 := (hR.t28 fo).of A18 (fr_addr fa 20 (by decide)) (fr_addr fa 21 (by decide)) A36 rfl rfl rfl (fun _ _ => rfl)
      -- behind the comparison
      obtain ⟨S1, hS1⟩ : ∃ S1, (if gI A 37 2 ≤ gI A 35 9 then A else sI (sI (sI A 35 8 (2 * gI A 36 4 + nI k)) 35 9 (gI (sI A 35 8 (2 * gI A 36 4 + nI k)) 37 2)) 35 10 (gI (sI (sI A 35 8 (2 * gI A 36 4 + nI k)) 35 9 (gI (sI A 35 8 (2 * gI A 36 4 + nI k)) 37 2)) 37 3)) = S1 := ⟨_, rfl⟩
      obtain ⟨T1, hT1⟩ : ∃ T1, (if O.1 ≤ gI O.2 64 32 then O.2 else sI (sI O.2 64 32 O.1) 64 31 (2 * gI (sI O.2 64 32 O.1) 64 24 + nI k)) = T1 := ⟨_, rfl⟩
      rw [hS1, hT1]
      have hc1 : (j : Int) < (gI T1 68 2).toInt := by
        rw [← hT1]
        by_cases d : O.1 ≤ gI O.2 64 32
        · rw [if_pos d, fr_addr fo 68 (by decide)]; exact hc
        · rw [if_neg d, gs_ne (by decide), gs_ne (by decide), fr_addr fo 68 (by decide)]; exact hc
      have hB1 : BB m S1 T1 := by
        rw [a2, A35 9, b9, ← O32] at hS1
        by_cases d : O.1 ≤ gI O.2 64 32
        · rw [if_pos d] at hS1 hT1
          rw [← hS1, ← hT1]
          refine ⟨hRA, ?_, ?_, ?_⟩
          · rw [A35, O31]; exact b8
          · rw [A35, O32]; exact b9
          · rw [A35, O32, A18]; exact b10
        · rw [if_neg d] at hS1 hT1
          rw [← hS1, ← hT1]
          refine ⟨hRA.of ?_ ?_ ?_ ?_ ?_ ?_ ?_ (fun x hx => ?_), ?_, ?_, Or.inr ⟨?_, ?_, ?_⟩⟩
          · rw [gs_ne (by decide), gs_ne (by decide), gs_ne (by decide)]
          · rw [gs_ne (by decide), gs_ne (by decide), gs_ne (by decide)]
          · rw [gs_ne (by decide), gs_ne (by decide), gs_ne (by decide)]
          · rw [gs_ne (by decide), gs_ne (by decide), gs_ne (by decide)]
          · rw [gs_ne (by decide), gs_ne (by decide)]
          · rw [gs_o (by decide), gs_o (by decide)]
          · rw [gs_o (by decide), gs_o (by decide)]
          · show gI _ 64 (20 + x) = gI _ 64 (20 + x); rw [gs_o (by omega), gs_o (by omega)]
          · rw [gs_o (by decide), gs_o (by decide), gs_eq, if_pos rfl, gs_eq, if_pos rfl, gs_o (by decide), A36, l4, O24]
          · rw [gs_o (by decide), gs_eq, if_pos rfl, gs_ne (by decide), a2, gs_o (by decide), gs_eq, if_pos rfl]
          · rw [gs_o (by decide), gs_eq, if_pos rfl]
            rw [ti_le, O32] at d
            rcases b10 with ⟨z, -⟩ | ⟨z, -⟩
            · rw [z, ti0] at d; omega
            · omega
          · rw [gs_o (by decide), gs_eq, if_pos rfl]; exact hbo.2
          · rw [gs_eq, if_pos rfl, gs_ne (by decide), gs_ne (by decide), a3, gs_ne (by decide), gs_ne (by decide), gs_ne (by decide), A18]
      obtain ⟨i1, i2, i3⟩ := ih (k + 1) m S1 T1 (by omega) (by omega) hB1 hm hc1
      rw [nI_succ] at i1 i2 i3
      refine ⟨⟨fun _ => pa, fun _ r er S2 eS => ?_⟩, ⟨fun _ x ex => ?_, fun _ x ex r er x5 e5 T2 eT => ?_⟩, i3⟩
      · rw [← er, hS1] at eS
        rw [← eS]; exact i1
      · rw [← ex]; exact po
      · rw [← ex, hO] at er
        rw [← er] at e5 eT
        rw [← e5, hT1] at eT
        rw [← eT]; exact i2
theorem weigh_at {j m : Nat} (hj : j < 4) {S T : HSt} (hB : BB m S T) (hm : m ≤ 2000) (hc : (j : Int) < (gI T 68 2).toInt) : p_X6_weighBoth S 35 18 (nI j) ∧ p_X12_lookBest T 64 (nI j) ∧ BB m (f_X6_weighBoth S 35 18 (nI j)) (f_X12_lookBest T 64 (nI j)) := by
  obtain ⟨h1, h2, h3⟩ := weigh_L hj 1000 0 m S T (by omega) (by omega) hB hm hc
  rw [show nI 0 = (0 : Int32) from rfl] at h1 h2 h3
  refine ⟨h1, h2, ?_⟩
  unfold f_X6_weighBoth f_X12_lookBest
  rw [bd_def, bd_def]
  exact h3
/-- the ticks of an act, each weighed -/
theorem bticks_L {i j t kd : Nat} (hi : i < 20) (hj : j < 4) (ht : t ≤ 40) (v3 w2 : Int32) {up lt tn : Int32} (hlt : bw lt 0 9) (htn : bw tn 0 15) : ∀ (n m k : Nat) (S T : HSt), BB m S T → m + (t - k) ≤ 2000 → k ≤ t → t - k < n → (j : Int) < (gI T 68 2).toInt → (∀ U : HSt, gI U 21 = gI S 21 → f_X10_kindOf U 19 (nI i) = nI kd) → gI T 68 (72 + 5 * i) = nI kd → (∀ U : HSt, ∀ f, f < 5 → gI U 21 = gI S 21 → f_X10_value U 19 5 (nI i) (nI f) = cl0 (gI T 68 (72 + 5 * i + f))) → (gI T 68 (72 + 5 * i + 1) = nI t ∧ gI T 68 (72 + 5 * i + 2) = up ∧ gI T 68 (72 + 5 * i + 3) = lt ∧ gI T 68 (72 + 5 * i + 4) = tn) → (cl0 up = up ∧ cl0 lt = lt ∧ cl0 tn = tn) → T_X6_seekBest_76 18 n S (nI j) v3 (nI i) (nI t) (nI k) ∧ T_X12_best_74 n T (nI j) w2 (nI i) (nI k) ∧ BB (m + (t - k)) (L_X6_seekBest_76 18 n S (nI j) v3 (nI i) (nI t) (nI k)).2.2.2.2.2 (L_X12_best_74 n T (nI j) w2 (nI i) (nI k)).2.2.2.2 ∧ ((L_X6_seekBest_76 18 n S (nI j) v3 (nI i) (nI t) (nI k)).1 = nI j ∧ (L_X6_seekBest_76 18 n S (nI j) v3 (nI i) (nI t) (nI k)).2.1 = v3 ∧ (L_X6_seekBest_76 18 n S (nI j) v3 (nI i) (nI t) (nI k)).2.2.1 = nI i) ∧ ((L_X12_best_74 n T (nI j) w2 (nI i) (nI k)).1 = nI j ∧ (L_X12_best_74 n T (nI j) w2 (nI i) (nI k)).2.1 = w2 ∧ (L_X12_best_74 n T (nI j) w2 (nI i) (nI k)).2.2.1 = nI i) := by
  intro n
  induction n with
  | zero => intro m k S T _ _ _ h; omega
  | succ n ih =>
    intro m k S T hB hm hk hn hc hkd hk68 hV hd hcl
    obtain ⟨d1, d2, d3, d4⟩ := hd
    have D0 := deedk (T := T) (i := i) hi
    have D1 := deed_at T (i := i) (k := 1) hi (by decide)
    have D2 := deed_at T (i := i) (k := 2) hi (by decide)
    have D3 := deed_at T (i := i) (k := 3) hi (by decide)
    have D4 := deed_at T (i := i) (k := 4) hi (by decide)
    rw [show nI 1 = (1 : Int32) from rfl] at D1
    rw [show nI 2 = (2 : Int32) from rfl] at D2
    rw [show nI 3 = (3 : Int32) from rfl] at D3
    rw [show nI 4 = (4 : Int32) from rfl] at D4
    have hR := hB.1
    have hf := hR.fallen
    have hV2 : f_X10_value S 19 5 (nI i) 2 = up := (hV S 2 (by decide) rfl).trans (by rw [d2, hcl.1])
    have hV3 : f_X10_value S 19 5 (nI i) 3 = lt := (hV S 3 (by decide) rfl).trans (by rw [d3, hcl.2.1])
    have hV4 : f_X10_value S 19 5 (nI i) 4 = tn := (hV S 4 (by decide) rfl).trans (by rw [d4, hcl.2.2])
    have hadv : f_X6_advance S 35 18 (nI i) = f_X1_advance S 36 18 (if nI kd = 3 then 1 else 0) up lt tn := by
      unfold f_X6_advance
      simp only [bd_def]
      rw [show 18 + 1 = 19 from rfl, hkd S rfl, hV2, hV3, hV4]
    unfold T_X6_seekBest_76 T_X12_best_74 L_X6_seekBest_76 L_X12_best_74
    rw [D0.1, hk68, D1.1, d1, D2.1, d2, D3.1, d3, D4.1, d4, hf]
    by_cases c : nI t ≤ nI k
    · rw [if_pos c, if_pos c]
      refine ⟨⟨fun q => absurd c q, fun q => absurd c q, fun q => absurd c q⟩, ⟨D1.2, fun q => absurd c q, fun q => absurd c q, fun q => absurd c q, fun q => absurd c q, fun q => absurd c q, fun q => absurd c q, fun q => absurd c q⟩, ⟨hB.1.mono (by omega), hB.2⟩, ⟨rfl, rfl, rfl⟩, rfl, rfl, rfl⟩
    · rw [if_neg c, if_neg c]
      have hkt : k < t := by
        rw [ti_le, nI_ti (by omega), nI_ti (by omega)] at c
        omega
      by_cases d : f_X12_isStill T 64 = 0
      · rw [if_pos d, if_pos d]
        simp only [bd_def]
        rw [hadv]
        have hR2 := rg_tick (lp := 36) (by decide) (by decide) (by decide) hR (by omega) (hR.opn d) (st := if nI kd = 3 then 1 else 0) (up := up) (tm := tn) hlt (Or.inl ⟨rfl, htn⟩)
        have f1 := v_X1_advance S 36 18 (if nI kd = 3 then 1 else 0) up lt tn
        have f2 := v_X12_doTick T 64 (if nI kd = 3 then 1 else 0) up lt tn
        generalize hS1 : f_X1_advance S 36 18 (if nI kd = 3 then 1 else 0) up lt tn = S1 at f1 hR2
        generalize hT1 : f_X12_doTick T 64 (if nI kd = 3 then 1 else 0) up lt tn = T1 at f2 hR2
        have hB1 : BB (m + 1) S1 T1 := by
          refine ⟨hR2, ?_, ?_, ?_⟩
          · rw [fr_addr f1 35 (by decide), f2 64 31 (by decide) (by decide)]; exact hB.2.1
          · rw [fr_addr f1 35 (by decide), f2 64 32 (by decide) (by decide)]; exact hB.2.2.1
          · rw [fr_addr f1 35 (by decide), fr_addr f1 18 (by decide), f2 64 32 (by decide) (by decide)]; exact hB.2.2.2
        have c68 : gI T1 68 = gI T 68 := fr_addr f2 68 (by decide)
        obtain ⟨w1, w2', w3⟩ := weigh_at hj hB1 (by omega) (by rw [c68]; exact hc)
        have g1 := v_X6_weighBoth S1 35 18 (nI j)
        have g2 := v_X12_lookBest T1 64 (nI j)
        generalize hS2 : f_X6_weighBoth S1 35 18 (nI j) = S2 at w3 g1
        generalize hT2 : f_X12_lookBest T1 64 (nI j) = T2 at w3 g2
        have a21 : gI S2 21 = gI S 21 := by rw [fr_addr g1 21 (by decide), fr_addr f1 21 (by decide)]
        have a68 : gI T2 68 = gI T 68 := by rw [fr_addr g2 68 (by decide), c68]
        obtain ⟨i1, i2, i3, i4, i5⟩ := ih (m + 1) (k + 1) S2 T2 w3 (by omega) (by omega) (by omega) (by rw [a68]; exact hc) (fun U hU => hkd U (hU.trans a21)) (by rw [a68]; exact hk68) (fun U f hf2 hU => by rw [a68]; exact hV U f hf2 (by rw [hU, a21])) (by rw [a68]; exact ⟨d1, d2, d3, d4⟩) hcl
        rw [nI_succ] at i1 i2 i3 i4 i5
        refine ⟨⟨fun _ _ => ⟨p_kind _ _ _, fun _ _ => p_val _ _ _ _ _, fun _ _ _ _ => p_val _ _ _ _ _, fun _ _ _ _ _ _ => p_val _ _ _ _ _⟩, fun _ _ r er => by rw [← er]; exact w1, fun _ _ r er r2 er2 => ?_⟩, ⟨D1.2, fun _ _ => D0.2, fun _ _ _ _ => D2.2, fun _ _ _ _ => D3.2, fun _ _ _ _ => D4.2, fun _ _ x hx => p_tick hR.prm _ _ _ _, fun _ _ x hx r er => ?_, fun _ _ x hx r er r2 er2 => ?_⟩, ?_, i4, i5⟩
        · rw [← er, hS2] at er2
          rw [← er2]; exact i1
        · rw [← hx, hT1] at er
          rw [← er]; exact w2'
        · rw [← hx, hT1] at er
          rw [← er, hT2] at er2
          rw [← er2]; exact i2
        · have : m + 1 + (t - (k + 1)) = m + (t - k) := by omega
          rw [← this]; exact i3
      · rw [if_neg d, if_neg d]
        refine ⟨⟨fun _ q => absurd q d, fun _ q => absurd q d, fun _ q => absurd q d⟩, ⟨D1.2, fun _ q => absurd q d, fun _ q => absurd q d, fun _ q => absurd q d, fun _ q => absurd q d, fun _ q => absurd q d, fun _ q => absurd q d, fun _ q => absurd q d⟩, ⟨hB.1.mono (by omega), hB.2⟩, ⟨rfl, rfl, rfl⟩, rfl, rfl, rfl⟩
theorem bacts_L {j K : Nat} (hj : j < 4) (hK : K ≤ 20) (v3 w2 : Int32) (h3 : v3.toInt = K) : ∀ (n a m : Nat) (S T : HSt), a ≤ K → K - a < n → BB m S T → m + 40 * (K - a) ≤ 2000 → (gI T 68 5).toInt = K → (j : Int) < (gI T 68 2).toInt → T_X6_seekBest_41 18 n S (nI j) v3 (nI a) ∧ T_X12_best_51 n T (nI j) w2 (nI a) ∧ (∃ m', m' ≤ 2000 ∧ BB m' (L_X6_seekBest_41 18 n S (nI j) v3 (nI a)).2.2.2 (L_X12_best_51 n T (nI j) w2 (nI a)).2.2.2) ∧ (L_X12_best_51 n T (nI j) w2 (nI a)).2.1 = w2 := by
  intro n
  induction n with
  | zero => intro a m S T _ h; omega
  | succ n ih =>
    intro a m S T ha hn hB hm hc hjc
    unfold T_X6_seekBest_41 T_X12_best_51 L_X6_seekBest_41 L_X12_best_51
    rw [five]
    have q1 : v3 ≤ nI a ↔ K ≤ a := by rw [ti_le, h3, nI_ti (by omega)]; omega
    have q2 : gI T 68 5 ≤ nI a ↔ K ≤ a := by rw [ti_le, hc, nI_ti (by omega)]; omega
    by_cases c : K ≤ a
    · rw [if_pos (q1.mpr c), if_pos (q2.mpr c)]
      have z1 := q1.mpr c
      have z2 := q2.mpr c
      exact ⟨⟨fun q => absurd z1 q, fun q => absurd z1 q, fun q => absurd z1 q, fun q => absurd z1 q⟩, ⟨fun q => absurd z2 q, fun q => absurd z2 q, fun q => absurd z2 q⟩, ⟨m, by omega, hB⟩, rfl⟩
    · have c1 : ¬ v3 ≤ nI a := fun q => c (q1.mp q)
      have c2 : ¬ gI T 68 5 ≤ nI a := fun q => c (q2.mp q)
      rw [if_neg c1, if_neg c2]
      have hR := hB.1
      have hR0 : RR m S T := hR
      obtain ⟨kd, k1, k2, k3, -, k4, kv⟩ := hR0.act (i := a) (by omega) (by omega)
      have hA := hR.2.1.2.2.2.2.2.2 a (by omega) (by omega)
      have ckd := k4 S rfl
      have ia := isA_isOf S S 19 (nI a) 1 ckd k1 k2
      have D0 := deedk (T := T) (i := a) (by omega)
      rw [D0.1, k3, show 18 + 1 = 19 from rfl, ia]
      have hkc : kd = 2 ∨ kd = 3 ∨ kd = 4 ∨ kd = 5 ∨ kd = 6 := by omega
      by_cases k : kd < 4
      · have i1 : ¬ f_X12_isOf S (nI kd) 1 = 0 := by
          rcases hkc with rfl | rfl | rfl | rfl | rfl
          · rw [show f_X12_isOf S (nI 2) 1 = 1 from rfl]; decide
          · rw [show f_X12_isOf S (nI 3) 1 = 1 from rfl]; decide
          · omega
          · omega
          · omega
        have i2 : ¬ (4 : Int32) ≤ nI kd := by rw [ti_le, nI_ti (by omega), show (4 : Int32).toInt = 4 from rfl]; omega
        rw [if_neg i1, if_neg i2]
        have kdv : ∀ q : Nat, q < 100 → gI T 68 (72 + 5 * a) = nI q → kd = q := fun q hq e => by
          rw [k3] at e
          refine Classical.byContradiction fun z => ?_
          have := congrArg Int32.toInt e
          rw [nI_ti (by omega), nI_ti (by omega)] at this
          omega
        obtain ⟨b1, b2, b3, b4⟩ : bw (gI T 68 (72 + 5 * a + 1)) 1 40 ∧ bw (gI T 68 (72 + 5 * a + 2)) 0 4 ∧ bw (gI T 68 (72 + 5 * a + 3)) 0 9 ∧ bw (gI T 68 (72 + 5 * a + 4)) 0 15 := by
          rcases hA with ⟨-, h⟩ | ⟨q | q, -⟩ | ⟨q, -⟩
          · exact h
          · have := kdv 4 (by omega) q; omega
          · have := kdv 5 (by omega) q; omega
          · have := kdv 6 (by omega) q; omega
        obtain ⟨t, ht, et⟩ := nI_of_bw (x := gI T 68 (72 + 5 * a + 1)) (n := 41) (by have := b1.1; omega) (by have := b1.2; omega) (by omega)
        have hv1 : f_X10_value S 19 5 (nI a) 1 = nI t := (kv S 1 (by decide) rfl).trans (by rw [et, cl0_of (nI_none (by omega))])
        obtain ⟨l1, l2, l3, ⟨l4, l5, l6⟩, l7, l8, l9⟩ := bticks_L (i := a) (j := j) (t := t) (kd := kd) (by omega) hj (by omega) v3 w2 b3 b4 1000 m 0 S T hB (by omega) (by omega) (by omega) hjc k4 k3 kv ⟨et, rfl, rfl, rfl⟩ ⟨cl0_bw b2 (by omega), cl0_bw b3 (by omega), cl0_bw b4 (by omega)⟩
        rw [show nI 0 = (0 : Int32) from rfl] at l1 l2 l3 l4 l5 l6 l7 l8 l9
        have f2 := vL_X12_best_74 1000 T (nI j) w2 (nI a) 0
        rw [hv1]
        simp only [bd_def]
        generalize hA2 : L_X6_seekBest_76 18 1000 S (nI j) v3 (nI a) (nI t) 0 = A at l3 l4 l5 l6
        generalize hM2 : L_X12_best_74 1000 T (nI j) w2 (nI a) 0 = M at l3 l7 l8 l9 f2
        rw [l4, l5, l6, l7, l8, l9]
        obtain ⟨i1', i2', i3', i4'⟩ := ih (a + 1) (m + 40) A.2.2.2.2.2 M.2.2.2.2 (by omega) (by omega) ⟨l3.1.mono (by omega), l3.2⟩ (by omega) (by rw [fr_addr f2 68 (by decide)]; exact hc) (by rw [fr_addr f2 68 (by decide)]; exact hjc)
        rw [nI_succ] at i1' i2' i3' i4'
        refine ⟨⟨fun _ => p_isA _ _ _ _, fun _ _ => p_val _ _ _ _ _, fun _ _ x ex => ?_, fun _ _ x ex r er => ?_⟩, ⟨fun _ => D0.2, fun _ _ => l2, fun _ _ r er => ?_⟩, i3', i4'⟩
        · rw [← ex]; exact l1
        · rw [← ex, hA2] at er
          rw [← er, l4, l5, l6]; exact i1'
        · rw [← er, l7, l8, l9]; exact i2'
      · have i1 : f_X12_isOf S (nI kd) 1 = 0 := by
          rcases hkc with rfl | rfl | rfl | rfl | rfl
          · omega
          · omega
          · rfl
          · rfl
          · rfl
        have i2 : (4 : Int32) ≤ nI kd := by rw [ti_le, nI_ti (by omega), show (4 : Int32).toInt = 4 from rfl]; omega
        rw [if_pos i1, if_pos i2]
        exact ⟨⟨fun _ => p_isA _ _ _ _, fun _ q => absurd i1 q, fun _ q => absurd i1 q, fun _ q => absurd i1 q⟩, ⟨fun _ => D0.2, fun _ q => absurd i2 q, fun _ q => absurd i2 q⟩, ⟨m, by omega, hB⟩, rfl⟩
theorem low_0 (S : HSt) (w : Int32) : p_X11_lowest S 0 1 w ∧ f_X11_lowest S 0 1 w = if w = 0 then 0 else 1 := by
  obtain ⟨h1, -, h3, g, g1, g2, g3⟩ := low_eq S S (a := 0) (b := 1) (by decide) (by decide) (by decide) w
  refine ⟨h1, ?_⟩
  rw [h3, g3]
  have eg : g = 1 := by
    rw [tj_eq]
    rw [show (1 : Int64).toInt = 1 from rfl] at g2 ⊢
    omega
  rw [eg]
  by_cases c : w = 0
  · rw [if_pos c]; rfl
  · rw [if_neg c]; rfl
/-- odds of 0, of whatever whole -/
theorem part_0 (T : HSt) {b : Int64} (hb : 0 < b.toInt) (hk : b.toInt < 2 ^ 48) (w : Int32) : p_X12_partOf T 0 b w ∧ f_X12_partOf T 0 b w = if w = 0 then 0 else 1 := by
  obtain ⟨i1, i2, i3, i4, -⟩ := cd_L T T 0 b 48 1000 0 0 b (by decide) (Int.le_of_lt hb) hk (by omega) (by omega)
  have h2 := (low_eq T T (a := 0) (b := b) (by decide) hb hk w).2.1
  refine ⟨h2, ?_⟩
  have e2 : f_X12_common T 0 b = (L_X12_common_6 1000 T 0 b 0 b).2.2.1 := rfl
  have e3 : (L_X12_common_6 1000 T 0 b 0 b).2.2.1 = b := by
    obtain ⟨-, -, -, -, j5⟩ := cd_L T T 0 b 48 999 0 b 0 (Int.le_of_lt hb) (by decide) (by decide) (by omega) (by omega)
    have j6 := j5 (by decide)
    have hz : (0 : Int64) - 0 / b * b = 0 := by
      rw [tj_eq, mod_64 (by decide) hb, tj0]
      exact Int.zero_emod _
    rw [show (1000 : Nat) = 999 + 1 from rfl]
    unfold L_X12_common_6
    have hne : ¬ lg_cmp b 0 = 0 := fun q => by
      rw [lgc_eq] at q
      rw [q] at hb
      exact absurd hb (by decide)
    rw [if_neg hne]
    simp only [bd_def]
    rw [hz]
    exact j6
  show (F_X12_partOf T 0 b w).1 = _
  unfold F_X12_partOf
  rw [bd_def, pr_1, e2, e3]
  have hb1 : b ≠ -1 := fun q => by rw [q] at hb; exact absurd hb (by decide)
  by_cases c : w = 0
  · rw [if_pos c, if_pos c, tj_eq, tj_div hb1, tj0]
    exact Int.zero_tdiv _
  · rw [if_neg c, if_neg c, tj_eq, tj_div hb1]
    exact Int.tdiv_self (by omega)
theorem k_best : K_best Inv0 := by
  intro n S b w hn hI
  have f1 := v_X11_best S 0 b w
  have f2 := v_X12_best (f_X11_best S 0 b w).2 64 b w
  have hinv : Inv0 (n + 1) (f_X12_best (f_X11_best S 0 b w).2 64 b w).2 := ((hI.same (same_of_fr (by decide) f1)).same (same_of_fr (by decide) f2)).mono (Nat.le_succ n)
  obtain ⟨hR, hth, hbz, -⟩ := hI.2.2.2.2.1
  have hp : ∀ (T : HSt), f_X12_in T w.toInt64 (0 : Int64) (2 : Int64) = f_X11_within S w 0 2 := fun T => by
    rw [show (0 : Int64) = (0 : Int32).toInt64 from rfl, show (2 : Int64) = (2 : Int32).toInt64 from rfl, in_within T S]
  have key : p_X11_best S 0 b w ∧ p_X12_best (f_X11_best S 0 b w).2 64 b w ∧ (f_X11_best S 0 b w).1 = (f_X12_best (f_X11_best S 0 b w).2 64 b w).1 := by
    have g64 : gI (f_X11_best S 0 b w).2 64 = gI S 64 := fr_addr f1 64 (by decide)
    have g68 : gI (f_X11_best S 0 b w).2 68 = gI S 68 := fr_addr f1 68 (by decide)
    obtain ⟨U, hU⟩ : ∃ U, (f_X11_best S 0 b w).2 = U := ⟨_, rfl⟩
    rw [hU] at g64 g68 ⊢
    have u68 : gI (sI U 64 0 0) 68 = gI S 68 := by rw [gs_ne (by decide), g68]
    unfold p_X12_best f_X12_best
    simp only [bd_def, hp]
    have hcv : f_X11_canThrow S 0 0 b = if f_X10_has S 19 2 b = 0 then 0 else 1 := by rw [can_v, if_neg (by rw [within_0 S (by decide) (by decide)]; decide)]
    rcases can_case hI 0 b with ⟨c, hc⟩ | ⟨j, hj, rfl, hjc, h7, c, hc⟩
    · have d1 : f_X10_has S 19 2 b = 0 := by
        refine Classical.byContradiction fun q => ?_
        rw [hcv, if_neg q] at c
        exact absurd c (by decide)
      have d2 : f_X12_isBeast (sI U 64 0 0) 64 b = 0 := by
        rcases hc (sI U 64 0 0) u68 with q | q
        · exact absurd q (by rw [show (0 : Int32).toInt64 = (0 : Int32).toInt64 from rfl, show (0 : Int64) = (0 : Int32).toInt64 from rfl, show (1 : Int64) = (1 : Int32).toInt64 from rfl, in_within _ S, within_0 S (by decide) (by decide)]; decide)
        · exact q
      refine ⟨⟨p_has _ _ _ _, fun q => absurd d1 q, fun q => absurd d1 q⟩, ⟨fun S1 e q => by rw [← e] at q; exact absurd d2 q, fun S1 e q => by rw [← e] at q; exact absurd d2 q, fun S1 e q => by rw [← e] at q; exact absurd d2 q, fun S1 e q => by rw [← e] at q; exact absurd d2 q⟩, ?_⟩
      unfold f_X11_best
      rw [if_pos d1, if_pos d2, pr_1, pr_1]
    · have d1 : ¬ f_X10_has S 19 2 (nI j) = 0 := fun q => by
        rw [hcv, if_pos q] at c
        exact c rfl
      have d2 : ¬ f_X12_isBeast (sI U 64 0 0) 64 (nI j) = 0 := (hc (sI U 64 0 0) u68).2
      by_cases c0 : f_X11_within S w 0 2 = 0
      · refine ⟨⟨p_has _ _ _ _, fun _ q => absurd c0 q, fun _ q => absurd c0 q⟩, ⟨fun S1 e _ q => absurd c0 q, fun S1 e _ q => absurd c0 q, fun S1 e _ q => absurd c0 q, fun S1 e _ q => absurd c0 q⟩, ?_⟩
        unfold f_X11_best
        rw [if_neg d1, if_neg d2, if_pos c0, if_pos c0, pr_1, pr_1]
      obtain ⟨K, hK, eK⟩ := acts_K hI
      obtain ⟨w1, w2, w3⟩ := scn_W hI (T := sI U 64 0 0) u68 (by rw [gs_o (by decide), g64]) (by rw [gs_o (by decide), g64])
      obtain ⟨l4, l5⟩ := len40 hI h7
      have hR0 := rg_first (lp := 36) (S := S) (T := sI U 64 0 0) (by decide) (by decide) (by decide) w1 w2 w3 l4 l5
      have hf := v_X12_first (sI U 64 0 0) 64
      have fb := v_X1_begin S 36
      generalize hS4 : sI (sI (sI (f_X1_begin S 36) 35 8 (-1000000)) 35 9 0) 35 10 1 = S4
      generalize hT6 : sI (sI (f_X12_first (sI U 64 0 0) 64) 64 31 (-1000000)) 64 32 0 = T6
      have hB0 : BB 0 S4 T6 := by
        rw [← hS4, ← hT6]
        refine ⟨hR0.of ?_ ?_ ?_ ?_ ?_ ?_ ?_ (fun x hx => ?_), ?_, ?_, Or.inl ⟨?_, ?_⟩⟩
        · rw [gs_ne (by decide), gs_ne (by decide), gs_ne (by decide)]
        · rw [gs_ne (by decide), gs_ne (by decide), gs_ne (by decide)]
        · rw [gs_ne (by decide), gs_ne (by decide), gs_ne (by decide)]
        · rw [gs_ne (by decide), gs_ne (by decide), gs_ne (by decide)]
        · rw [gs_ne (by decide), gs_ne (by decide)]
        · rw [gs_o (by decide), gs_o (by decide)]
        · rw [gs_o (by decide), gs_o (by decide)]
        · show gI _ 64 (20 + x) = gI _ 64 (20 + x); rw [gs_o (by omega), gs_o (by omega)]
        · rw [gs_o (by decide), gs_o (by decide), gs_eq, if_pos rfl, gs_o (by decide), gs_eq, if_pos rfl]
        · rw [gs_o (by decide), gs_eq, if_pos rfl, gs_eq, if_pos rfl]
        · rw [gs_eq, if_pos rfl]
        · rw [gs_eq, if_pos rfl]
      have t68 : gI T6 68 = gI S 68 := by rw [← hT6, gs_ne (by decide), gs_ne (by decide), fr_addr hf 68 (by decide), u68]
      have s20 : gI S4 20 = gI S 20 := by rw [← hS4, gs_ne (by decide), gs_ne (by decide), gs_ne (by decide), fr_addr fb 20 (by decide)]
      have s18 : gI S4 18 = gI S 18 := by rw [← hS4, gs_ne (by decide), gs_ne (by decide), gs_ne (by decide), fr_addr fb 18 (by decide)]
      obtain ⟨p1, p2, p3⟩ := weigh_at hj hB0 (by omega) (by rw [t68]; exact hjc)
      have g1 := v_X6_weighBoth S4 35 18 (nI j)
      have g2 := v_X12_lookBest T6 64 (nI j)
      generalize hS5 : f_X6_weighBoth S4 35 18 (nI j) = S5 at p3 g1
      generalize hT7 : f_X12_lookBest T6 64 (nI j) = T7 at p3 g2
      have hmany : f_X10_howMany S5 19 5 = gI S 68 5 := by
        refine (many_at S5 19 (s := 5) (by decide)).trans ?_
        rw [show 19 + 1 = 20 from rfl, fr_addr g1 20 (by decide), s20]
        exact hR.1.1 5 (by decide)
      obtain ⟨r1, r2, ⟨m', hm', r3⟩, r4⟩ := bacts_L hj hK (gI S 68 5) w eK 1000 0 0 S5 T7 (by omega) (by omega) p3 (by omega) (by rw [fr_addr g2 68 (by decide), t68]; exact eK) (by rw [fr_addr g2 68 (by decide), t68]; exact hjc)
      rw [show nI 0 = (0 : Int32) from rfl] at r1 r2 r3 r4
      have eB : f_X6_seekBest S 35 18 (nI j) = (L_X6_seekBest_41 18 1000 S5 (nI j) (gI S 68 5) 0).2.2.2 := by
        unfold f_X6_seekBest
        simp only [bd_def]
        rw [hS4, hS5, show 18 + 1 = 19 from rfl, hmany]
      generalize hA : (L_X6_seekBest_41 18 1000 S5 (nI j) (gI S 68 5) 0).2.2.2 = A at r3 eB
      generalize hM : L_X12_best_51 1000 T7 (nI j) w 0 = M at r3 r4
      obtain ⟨rg, b8, b9, b10⟩ := r3
      -- the whole
      obtain ⟨j0, hj0⟩ : ∃ q, q = gI A 18 9 := ⟨_, rfl⟩
      have hh := horse_at M.2.2.2 (k := 2) (rg.2.2.1.2.1) (by decide)
      have eh : f_X12_horseOf M.2.2.2 64 2 = gI A 18 9 := by
        refine hh.1.trans ?_
        obtain ⟨-, -, -, -, -, hz, hnz⟩ := rg.2.2.1
        by_cases cz : gI M.2.2.2 64 19 = -1000000
        · rw [if_pos cz]; exact (hz cz).2.2.symm
        · rw [if_neg cz]; exact (hnz cz).2.2.symm
      have sh3 : bw (gI A 18 9) 0 3 := by
        obtain ⟨-, hhb, -, -, -, hz, hnz⟩ := rg.2.2.1
        by_cases cz : gI M.2.2.2 64 19 = -1000000
        · rw [(hz cz).2.2]; exact ⟨by decide, by decide⟩
        · rw [(hnz cz).2.2]
          have := hhb.resolve_left cz
          exact (rg.2.1.2.2.1 (gI M.2.2.2 64 19).toNatClampNeg (by rw [ti_cl]; have := this.2; omega)).2.2.1
      have hwb := whole_bw sh3
      have hao : f_X12_allOdds M.2.2.2 64 = 12 * (2 * gI A 18 9 + 1) := by rw [allOdds_v, eh]
      -- both fractions
      have hfr : ∀ v : Int32, p_X11_lowest A (gI A 35 9).toInt64 (gI A 35 10).toInt64 v ∧ p_X12_partOf M.2.2.2 (gI M.2.2.2 64 32).toInt64 (f_X12_allOdds M.2.2.2 64).toInt64 v ∧ f_X11_lowest A (gI A 35 9).toInt64 (gI A 35 10).toInt64 v = f_X12_partOf M.2.2.2 (gI M.2.2.2 64 32).toInt64 (f_X12_allOdds M.2.2.2 64).toInt64 v := fun v => by
        rw [hao, b9]
        rcases b10 with ⟨z1, z2⟩ | ⟨z1, z2, z3⟩
        · rw [z1, z2]
          obtain ⟨y1, y2⟩ := low_0 A v
          obtain ⟨y3, y4⟩ := part_0 M.2.2.2 (b := (12 * (2 * gI A 18 9 + 1) : Int32).toInt64) (by rw [tj_32]; have := hwb.1; omega) (by rw [tj_32]; have := hwb.2; omega) v
          exact ⟨y1, y3, y2.trans y4.symm⟩
        · rw [z3]
          obtain ⟨y1, y2, y3, -⟩ := low_eq A M.2.2.2 (a := (gI M.2.2.2 64 32).toInt64) (b := (12 * (2 * gI A 18 9 + 1) : Int32).toInt64) (by rw [tj_32]; omega) (by rw [tj_32]; have := hwb.1; omega) (by rw [tj_32]; have := hwb.2; omega) v
          exact ⟨y1, y2, y3⟩
      rw [if_neg d2, if_neg c0, r4]
      refine ⟨⟨p_has _ _ _ _, fun _ _ => ?_, fun _ _ r er _ => ?_⟩, ⟨fun S1 e _ _ r4' e4 S5' e5 S6 e6 => ?_, fun S1 e _ _ r4' e4 S5' e5 S6 e6 r7 e7 => ?_, fun S1 e _ _ r4' e4 S5' e5 S6 e6 r7 e7 r8 e8 _ => ?_, fun S1 e _ _ r4' e4 S5' e5 S6 e6 r7 e7 r8 e8 _ => ?_⟩, ?_⟩
      · refine ⟨fun r1' e1 S2 e2 S3 e3 S4' e4 => ?_, fun _ _ _ _ _ _ _ _ _ _ => p_many _ _ _, fun r1' e1 S2 e2 S3 e3 S4' e4 r5 e5 x ex => ?_⟩
        · rw [← e3, ← e2, ← e1, hS4] at e4
          rw [← e4]; exact p1
        · rw [← e3, ← e2, ← e1, hS4] at e4
          rw [← e4, hS5] at e5
          rw [← e5, show 18 + 1 = 19 from rfl, hmany] at ex
          rw [← e5, ← ex]; exact r1
      · rw [eB] at er
        rw [← er]; exact (hfr _).1
      · rw [← e5, ← e4, ← e, hT6] at e6
        rw [← e6]; exact p2
      · rw [← e5, ← e4, ← e, hT6] at e6
        rw [← e6, hT7] at e7
        rw [← e7]; exact r2
      · rw [← e5, ← e4, ← e, hT6] at e6
        rw [← e6, hT7] at e7
        rw [← e7, hM] at e8
        rw [← e8]; exact hh.2
      · rw [← e5, ← e4, ← e, hT6] at e6
        rw [← e6, hT7] at e7
        rw [← e7, hM] at e8
        rw [← e8, r4]; exact (hfr _).2.1
      · unfold f_X11_best
        rw [if_neg d1, if_neg c0, bd_def, bd_def, pr_1, pr_1, eB, b8, (hfr _).2.2]
  exact ⟨key.1, key.2.1, key.2.2, hinv⟩
