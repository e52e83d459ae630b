-- needs: 48.rg 51.copy
/-! ===== film ===== -/
theorem item_at (S : HSt) {r x : Nat} (hr : r < 8) (h1 : ¬ gI S 12 r = -1) (h2 : bw (gI S 12 r) 0 40) (hx : (x : Int) < (gI S 12 r).toInt) : f_X5_itemAt S 1 (nI r) (nI x) = gI S (3 + r) x ∧ p_X5_itemAt S 1 (nI r) (nI x) := by
  have h40 := h2.2
  have hp : ¬ f_X5_hasPlaces S 1 (nI r) (nI x) 1 = 0 := fun q => (places_iff S hr (i := nI x) h1 h2).mp q (by rw [nI_ti (by omega)]; omega)
  refine ⟨?_, p_places _ _ _ _, fun _ => vp_in_nI (by omega) (by omega), fun _ => vp_in_nI (by omega) (by omega)⟩
  show (if f_X5_hasPlaces S 1 (nI r) (nI x) 1 = 0 then (0 : Int32) else gI S (3 + (nI r).toNatClampNeg) (nI x).toNatClampNeg) = _
  rw [if_neg hp, nI_clamp' (by omega), nI_clamp' (by omega)]
theorem hand_v : ∀ h, h < 9 → (nI h / (3 : Int32)) + 1 = (1 : Int32) + nI h / 3 ∧ bw ((4 : Int32) * (nI h - nI h / (3 : Int32) * (3 : Int32))) 0 9 := by
  intro h hh
  have hc : h = 0 ∨ h = 1 ∨ h = 2 ∨ h = 3 ∨ h = 4 ∨ h = 5 ∨ h = 6 ∨ h = 7 ∨ h = 8 := by omega
  rcases hc with rfl | rfl | rfl | rfl | rfl | rfl | rfl | rfl | rfl <;> exact ⟨by decide, by decide, by decide⟩
/-- one hand: k ticks seen -/
theorem hand_L {r i N h : Nat} (hr : r < 8) (hh : h < 9) (v4 : Int32) {G : Nat → Int32} (hN : i + N ≤ 40) : ∀ (n m k : Nat) (S T : HSt), RG 42 m S T → m + (N - k) ≤ 100000 → k ≤ N → N - k < n → (¬ gI S 12 r = -1 ∧ bw (gI S 12 r) 0 40 ∧ (i + N : Int) ≤ (gI S 12 r).toInt) → (∀ x, x < 40 → gI S (3 + r) x = gI T 67 (40 * r + x)) → T_X8_isHandOf_10 18 n S (nI h) (nI r) (nI i) (nI N) (nI k) ∧ T_X12_film_108 n T (nI r) (nI i) (nI N) v4 (nI h) 1 (nI k) ∧ (if (L_X8_isHandOf_10 18 n S (nI h) (nI r) (nI i) (nI N) (nI k)).1 = 1 then (L_X8_isHandOf_10 18 n S (nI h) (nI r) (nI i) (nI N) (nI k)).2.1 else 1) = (L_X12_film_108 n T (nI r) (nI i) (nI N) v4 (nI h) 1 (nI k)).2.2.2.2.2.1 ∧ ((L_X12_film_108 n T (nI r) (nI i) (nI N) v4 (nI h) 1 (nI k)).1 = nI r ∧ (L_X12_film_108 n T (nI r) (nI i) (nI N) v4 (nI h) 1 (nI k)).2.1 = nI i ∧ (L_X12_film_108 n T (nI r) (nI i) (nI N) v4 (nI h) 1 (nI k)).2.2.1 = nI N ∧ (L_X12_film_108 n T (nI r) (nI i) (nI N) v4 (nI h) 1 (nI k)).2.2.2.1 = v4 ∧ (L_X12_film_108 n T (nI r) (nI i) (nI N) v4 (nI h) 1 (nI k)).2.2.2.2.1 = nI h) := by
  intro n
  induction n with
  | zero => intro m k S T _ _ _ h; omega
  | succ n ih =>
    intro m k S T hR hm hk hn hpl hit
    obtain ⟨hv1, hv2⟩ := hand_v h hh
    unfold T_X8_isHandOf_10 T_X12_film_108 L_X8_isHandOf_10 L_X12_film_108
    by_cases c : nI N ≤ nI k
    · rw [if_pos c, if_pos c]
      exact ⟨⟨fun q => absurd c q, fun q => absurd c q⟩, ⟨fun q => absurd c q, fun q => absurd c q, fun q => absurd c q⟩, by rw [pr_1, if_neg (by decide)]; rfl, rfl, rfl, rfl, rfl, rfl⟩
    · rw [if_neg c, if_neg c, if_neg one_ne]
      have hkN : k < N := by
        rw [ti_le, nI_ti (by omega), nI_ti (by omega)] at c
        omega
      have hs := hR.fallen
      rw [hs]
      simp only [bd_def]
      rw [hv1]
      have hsb : f_X1_spinBy S 42 (1 + nI h / 3) = tnd (gI S 42 1) (1 + nI h / 3) (gI S 42 3) := rfl
      rw [hsb]
      -- both sides behind the tick
      obtain ⟨S1, hS1⟩ : ∃ S1, (if f_X12_isStill T 64 = 0 then f_X1_advance S 42 18 0 (1 + nI h / 3) (4 * (nI h - nI h / 3 * 3)) (tnd (gI S 42 1) (1 + nI h / 3) (gI S 42 3)) else S) = S1 := ⟨_, rfl⟩
      obtain ⟨T1, hT1⟩ : ∃ T1, (if f_X12_isStill T 64 = 0 then f_X12_doTick T 64 0 (1 + nI h / 3) (4 * (nI h - nI h / 3 * 3)) (-1000000) else T) = T1 := ⟨_, rfl⟩
      have hR1 : RG 42 (m + 1) S1 T1 := by
        by_cases d : f_X12_isStill T 64 = 0
        · rw [if_pos d] at hS1 hT1
          rw [← hS1, ← hT1]
          exact rg_tick (by decide) (by decide) (by decide) hR (by omega) (hR.opn d) hv2 (Or.inr ⟨rfl, rfl⟩)
        · rw [if_neg d] at hS1 hT1
          rw [← hS1, ← hT1]
          exact hR.mono (by omega)
      have hrow : ∀ x, x ≠ 42 → gI S1 x = gI S x := fun x hx => by
        rw [← hS1]
        by_cases d : f_X12_isStill T 64 = 0
        · rw [if_pos d]; exact fr_addr (v_X1_advance _ _ _ _ _ _ _) x (seven_ne (fun q => hx q.symm))
        · rw [if_neg d]
      have hrowT : gI T1 67 = gI T 67 := by
        rw [← hT1]
        by_cases d : f_X12_isStill T 64 = 0
        · rw [if_pos d]; exact fr_addr (v_X12_doTick _ _ _ _ _ _) 67 (by decide)
        · rw [if_neg d]
      rw [hS1, hT1]
      have hpl1 : ¬ gI S1 12 r = -1 ∧ bw (gI S1 12 r) 0 40 ∧ (i + N : Int) ≤ (gI S1 12 r).toInt := by rw [hrow 12 (by decide)]; exact hpl
      have hit1 : ∀ x, x < 40 → gI S1 (3 + r) x = gI T1 67 (40 * r + x) := fun x hx => by rw [hrow (3 + r) (by omega), hrowT]; exact hit x hx
      have eix : nI i + nI k = nI (i + k) := nI_add i k
      have eiy : ((40 : Int32) * nI r + nI i) + nI k = nI (40 * r + (i + k)) := by rw [show (40 : Int32) = nI 40 from rfl, pk_mul, nI_add, nI_add, Nat.add_assoc]
      obtain ⟨it1, it2⟩ := item_at S1 hr hpl1.1 hpl1.2.1 (x := i + k) (by have := hpl1.2.2; omega)
      rw [eix, eiy, it1, nI_clamp' (by omega), ← hit1 (i + k) (by omega), show gI T1 64 20 = gI S1 42 0 from hR1.2.2.2.2.1.1.symm]
      obtain ⟨i1, i2, i3, i4⟩ := ih (m + 1) (k + 1) S1 T1 hR1 (by omega) (by omega) (by omega) hpl1 hit1
      rw [nI_succ] at i1 i2 i3 i4
      refine ⟨⟨fun _ S2 e => ?_, fun _ S2 e q => ?_⟩, ⟨fun _ _ d => ?_, fun _ _ S2 e => ?_, fun _ _ S2 e x ex => ?_⟩, ?_⟩
      · rw [← e]; exact it2
      · rw [← e]; exact i1
      · exact p_tick hR.prm _ _ _ _
      · exact vp_in_nI (by omega) (by omega)
      · rw [← e] at ex ⊢
        rw [← ex, ← hit1 (i + k) (by omega), show gI T1 64 20 = gI S1 42 0 from hR1.2.2.2.2.1.1.symm]
        by_cases z : gI S1 42 0 = gI S1 (3 + r) (i + k)
        · rw [if_pos z]; exact i2
        · rw [if_neg z]
          match n, hn with
          | 0, hn => omega
          | n + 1, _ =>
            unfold T_X12_film_108
            exact ⟨fun _ q => absurd rfl q, fun _ q => absurd rfl q, fun _ q => absurd rfl q⟩
      · by_cases z : gI S1 42 0 = gI S1 (3 + r) (i + k)
        · rw [if_pos z, if_pos z]
          exact ⟨i3, i4⟩
        · rw [if_neg z, if_neg z]
          have e0 : L_X12_film_108 n T1 (nI r) (nI i) (nI N) v4 (nI h) 0 (nI k + 1) = (nI r, nI i, nI N, v4, nI h, 0, nI k + 1, T1) := by
            match n, hn with
            | 0, _ => rfl
            | n + 1, _ =>
              unfold L_X12_film_108
              by_cases y : nI N ≤ nI k + 1
              · rw [if_pos y]; rfl
              · rw [if_neg y, if_pos rfl]; rfl
          rw [e0, pr_1, if_pos rfl]
          exact ⟨rfl, rfl, rfl, rfl, rfl, rfl⟩
theorem or0 (x : Int32) : x ||| 0 = x := by
  have h : x.toBitVec ||| (0 : Int32).toBitVec = x.toBitVec := BitVec.or_zero
  exact Int32.toBitVec_inj.mp h
theorem hands_L {r i N : Nat} (hr : r < 8) (hN : i + N ≤ 40) : ∀ (n h : Nat) (S T : HSt) (v4 : Int32), h ≤ 9 → 9 - h < n → (WayR (gI S 20) (gI S 21) (gI T 68) ∧ WayB (gI T 68) ∧ HeldR (gI S 18) (gI T 68) (gI T 64 18) (gI T 64 19) ∧ bw (gI S 18 4) 40 400 ∧ bw (gI S 18 5) 0 9) → (¬ gI S 12 r = -1 ∧ bw (gI S 12 r) 0 40 ∧ (i + N : Int) ≤ (gI S 12 r).toInt) → (∀ x, x < 40 → gI S (3 + r) x = gI T 67 (40 * r + x)) → T_X11_film_77 n S (nI r) (nI i) (nI N) v4 (nI h) ∧ T_X12_film_91 n T (nI r) (nI i) (nI N) v4 (nI h) ∧ (L_X11_film_77 n S (nI r) (nI i) (nI N) v4 (nI h)).2.2.2.1 = (L_X12_film_91 n T (nI r) (nI i) (nI N) v4 (nI h)).2.2.2.1 := by
  intro n
  induction n with
  | zero => intro h S T v4 _ q; omega
  | succ n ih =>
    intro h S T v4 hh hn hW hpl hit
    unfold T_X11_film_77 T_X12_film_91 L_X11_film_77 L_X12_film_91
    by_cases c : (9 : Int32) ≤ nI h
    · rw [if_pos c, if_pos c]
      exact ⟨⟨fun q => absurd c q, fun q => absurd c q⟩, ⟨fun q => absurd c q, fun q => absurd c q⟩, rfl⟩
    · rw [if_neg c, if_neg c]
      have hh9 : h < 9 := by
        rw [ti_le, nI_ti (by omega), show (9 : Int32).toInt = 9 from rfl] at c
        omega
      simp only [bd_def]
      obtain ⟨w1, w2, w3, w4, w5⟩ := hW
      have hR := rg_first (lp := 42) (by decide) (by decide) (by decide) w1 w2 w3 w4 w5
      have fb := v_X1_begin S 42
      have ff := v_X12_first T 64
      obtain ⟨a1, a2, a3, a4, a5, a6, a7, a8⟩ := hand_L hr hh9 v4 (G := fun _ => 0) hN 1000 0 0 (f_X1_begin S 42) (f_X12_first T 64) hR (by omega) (by omega) (by omega) (by rw [fr_addr fb 12 (by decide)]; exact hpl) (fun x hx => by rw [fr_addr fb (3 + r) (seven_ne (by omega)), fr_addr ff 67 (by decide)]; exact hit x hx)
      rw [show nI 0 = (0 : Int32) from rfl] at a1 a2 a3 a4 a5 a6 a7 a8
      have fh := v_X8_isHandOf S 38 (nI h) 18 1 (nI r) (nI i) (nI N)
      have fm := vL_X12_film_108 1000 (f_X12_first T 64) (nI r) (nI i) (nI N) v4 (nI h) 1 0
      have e1 : (f_X8_isHandOf S 38 (nI h) 18 1 (nI r) (nI i) (nI N)).1 = (L_X12_film_108 1000 (f_X12_first T 64) (nI r) (nI i) (nI N) v4 (nI h) 1 0).2.2.2.2.2.1 := by
        rw [← a3]
        unfold f_X8_isHandOf
        simp only [bd_def]
        by_cases z : (L_X8_isHandOf_10 18 1000 (f_X1_begin S 42) (nI h) (nI r) (nI i) (nI N) 0).1 = 1
        · rw [if_pos z, if_pos z]; rfl
        · rw [if_neg z, if_neg z]; rfl
      generalize hH : f_X8_isHandOf S 38 (nI h) 18 1 (nI r) (nI i) (nI N) = H at fh e1
      generalize hM : L_X12_film_108 1000 (f_X12_first T 64) (nI r) (nI i) (nI N) v4 (nI h) 1 0 = M at a4 a5 a6 a7 a8 fm e1
      rw [e1, a4, a5, a6, a7, a8]
      have hx : (if M.2.2.2.2.2.1 = 0 then v4 else v4 ||| (1 : Int32) <<< (nI h &&& 31)) = v4 ||| (if M.2.2.2.2.2.1 = 0 then (0 : Int32) else (1 : Int32) <<< (nI h &&& 31)) := by
        by_cases z : M.2.2.2.2.2.1 = 0
        · rw [if_pos z, if_pos z, or0]
        · rw [if_neg z, if_neg z]
      rw [hx]
      have gT : ∀ x, x = 67 ∨ x = 68 → gI M.2.2.2.2.2.2.2 x = gI T x := fun x hx => by
        rcases hx with rfl | rfl
        · rw [fr_addr fm 67 (by decide), fr_addr ff 67 (by decide)]
        · rw [fr_addr fm 68 (by decide), fr_addr ff 68 (by decide)]
      have g18 : gI M.2.2.2.2.2.2.2 64 18 = gI T 64 18 := (fm 64 18 (by decide) (by decide)).trans (ff 64 18 (by decide) (by decide))
      have g19 : gI M.2.2.2.2.2.2.2 64 19 = gI T 64 19 := (fm 64 19 (by decide) (by decide)).trans (ff 64 19 (by decide) (by decide))
      have gS : ∀ x, x ≠ 42 → gI H.2 x = gI S x := fun x hx => fr_addr fh x (seven_ne (fun q => hx q.symm))
      obtain ⟨i1, i2, i3⟩ := ih (h + 1) H.2 M.2.2.2.2.2.2.2 (v4 ||| (if M.2.2.2.2.2.1 = 0 then (0 : Int32) else (1 : Int32) <<< (nI h &&& 31))) (by omega) (by omega) (by rw [gS 20 (by decide), gS 21 (by decide), gS 18 (by decide), gT 68 (Or.inr rfl), g18, g19]; exact ⟨w1, w2, w3, w4, w5⟩) (by rw [gS 12 (by decide)]; exact hpl) (fun x hx => by rw [gS (3 + r) (by omega), gT 67 (Or.inl rfl)]; exact hit x hx)
      rw [nI_succ] at i1 i2 i3
      refine ⟨⟨fun _ r e => ?_, fun _ r e x ex => ?_⟩, ⟨fun _ r e => ?_, fun _ r e r2 e2 x ex x2 ex2 => ?_⟩, i3⟩
      · rw [← e]; exact a1
      · rw [← e] at ex ⊢
        rw [e1, hx] at ex
        rw [← ex]
        exact i1
      · rw [← e]; exact a2
      · rw [← e] at e2
        rw [hM] at e2
        rw [← e2] at ex ex2 ⊢
        rw [a7, ← ex, a8] at ex2
        rw [a4, a5, a6, a8, ← ex2]
        exact i2
theorem k_film : K_film Inv0 := by
  intro n S a i k hn hI
  have f1 := v_X11_film S 0 a i k
  have f2 := v_X12_film (f_X11_film S 0 a i k).2 64 a i k
  have hst := hI.2.2.1.1
  obtain ⟨hR, hth, hbz, -⟩ := hI.2.2.2.2.1
  have hv : ∀ (T : HSt) (x : Int32), ¬ f_X12_isRow T x = 0 → vp_in x 8 := fun T x h => by
    have := Classical.not_not.mp (fun q => h ((isRowM_iff T x).mpr q))
    exact vp_in_iff.mpr ⟨this.1, this.2⟩
  have hp : ∀ T : HSt, f_X12_in T k.toInt64 (1 : Int64) (20 : Int64) = f_X11_within S k 1 20 := fun T => by
    rw [show (1 : Int64) = (1 : Int32).toInt64 from rfl, show (20 : Int64) = (20 : Int32).toInt64 from rfl, in_within T S]
  have key : p_X11_film S 0 a i k ∧ p_X12_film (f_X11_film S 0 a i k).2 64 a i k ∧ (f_X11_film S 0 a i k).1 = (f_X12_film (f_X11_film S 0 a i k).2 64 a i k).1 ∧ gI (f_X12_film (f_X11_film S 0 a i k).2 64 a i k).2 0 10 = gI (f_X12_film (f_X11_film S 0 a i k).2 64 a i k).2 64 1 := by
    have m0 : gI (f_X12_film (f_X11_film S 0 a i k).2 64 a i k).2 0 10 = gI (f_X11_film S 0 a i k).2 0 10 := congrFun (fr_addr f2 0 (by decide)) 10
    rw [m0]
    have g64 : gI (f_X11_film S 0 a i k).2 64 = gI S 64 := fr_addr f1 64 (by decide)
    have g65 : gI (f_X11_film S 0 a i k).2 65 = gI S 65 := fr_addr f1 65 (by decide)
    have g66 : gI (f_X11_film S 0 a i k).2 66 = gI S 66 := fr_addr f1 66 (by decide)
    have g67 : gI (f_X11_film S 0 a i k).2 67 = gI S 67 := fr_addr f1 67 (by decide)
    have g68 : gI (f_X11_film S 0 a i k).2 68 = gI S 68 := fr_addr f1 68 (by decide)
    by_cases c1 : 0 ≤ a.toInt ∧ a.toInt < 8
    · have d1 : ¬ f_X5_isRow S a = 0 := fun q => (isRow_iff S a).mp q c1
      have d2 : ∀ T, ¬ f_X12_isRow T a = 0 := fun T q => (isRowM_iff T a).mp q c1
      obtain ⟨r, hr, rfl⟩ := row_in d1
      by_cases c2 : f_X11_within S k 1 20 = 0
      · have e : f_X11_film S 0 (nI r) i k = pr (-9000000000000000001 : Int64) S := by
          unfold f_X11_film
          rw [if_neg d1, if_pos c2]
        rw [e]
        refine ⟨⟨fun _ q => absurd c2 q, fun _ q => absurd c2 q, fun _ q => absurd c2 q⟩, ⟨fun S1 _ _ q => absurd c2 (by rw [hp] at q; exact q), fun S1 _ _ q => absurd c2 (by rw [hp] at q; exact q), fun S1 _ _ q => absurd c2 (by rw [hp] at q; exact q)⟩, ?_⟩
        unfold f_X12_film
        rw [bd_def, if_neg (d2 _), hp, if_pos c2, pr_1, pr_1, pr_2, pr_2]
        exact ⟨rfl, hst⟩
      · by_cases c3 : gI S 64 7 = 0
        · have e : f_X11_film S 0 (nI r) i k = pr (-9000000000000000002 : Int64) S := by
            unfold f_X11_film
            rw [if_neg d1, if_neg c2, hth, if_pos c3]
          rw [e]
          have c3' : ∀ S1, sI (pr (-9000000000000000002 : Int64) S).2 64 0 0 = S1 → gI S1 64 7 = 0 := fun S1 e => by rw [← e, pr_2, gs_o (by decide)]; exact c3
          refine ⟨⟨fun _ _ q => absurd (hth.trans c3) q, fun _ _ q => absurd (hth.trans c3) q, fun _ _ q => absurd (hth.trans c3) q⟩, ⟨fun S1 e _ _ q => absurd (c3' S1 e) q, fun S1 e _ _ q => absurd (c3' S1 e) q, fun S1 e _ _ q => absurd (c3' S1 e) q⟩, ?_⟩
          unfold f_X12_film
          rw [bd_def, if_neg (d2 _), hp, if_neg c2, if_pos (c3' _ rfl), pr_1, pr_1, pr_2, pr_2]
          exact ⟨rfl, hst⟩
        · have hk := within_1 S c2
          rw [ti1, show (20 : Int32).toInt = 20 from rfl] at hk
          have c3c : ¬ gI S 18 2 = 0 := by rw [hth]; exact c3
          rcases row_case hI.1 hr with ⟨m1, m2, m3⟩ | ⟨m1, m2, m3, m4, m5, m6⟩
          · have mi : ¬ f_X5_isMissing S 1 (nI r) = 0 := by rw [miss_at S hr, if_pos m1]; exact one_ne
            have e : f_X11_film S 0 (nI r) i k = pr (f_X11_found S 0 1).1 (f_X11_found S 0 1).2 := by
              unfold f_X11_film
              rw [if_neg d1, if_neg c2, if_neg c3c, if_neg mi, bd_def]
            rw [e]
            have u5 : ∀ S1, sI (pr (f_X11_found S 0 1).1 (f_X11_found S 0 1).2).2 64 0 0 = S1 → ¬ (0 : Int32) ≤ gI S1 65 (nI r).toNatClampNeg := fun S1 e => by
              rw [← e, pr_2, found_2, gs_ne (by decide), gs_ne (by decide), nI_clamp' (by omega)]
              exact m3
            refine ⟨⟨fun _ _ _ => p_miss S _, fun _ _ _ q => absurd q mi, fun _ _ _ q => absurd q mi⟩, ⟨fun S1 _ _ _ _ => vp_in_nI hr (by omega), fun S1 e _ _ _ q => absurd q (u5 S1 e), fun S1 e _ _ _ q => absurd q (u5 S1 e)⟩, ?_⟩
            unfold f_X12_film
            rw [bd_def, if_neg (d2 _), hp, if_neg c2, if_neg (by rw [pr_2, found_2, gs_o (by decide), gs_ne (by decide)]; exact c3), if_neg (u5 _ rfl), bd_def, pr_1, pr_1, pr_2, pr_2, finding_2, found_2, gs_eq, if_pos rfl, gs_eq, if_pos rfl]
            exact ⟨found_eq _ _ _, rfl⟩
          · have mi : f_X5_isMissing S 1 (nI r) = 0 := by rw [miss_at S hr, if_neg m1]
            have hpl := placesN_iff S hr (i := i) (k := k) m1 (by rw [m4]; exact m5)
            have m52 := m5.2
            by_cases c4 : 0 ≤ i.toInt ∧ 0 ≤ k.toInt ∧ i.toInt + k.toInt ≤ (gI S 12 r).toInt
            · have np : ¬ f_X5_hasPlaces S 1 (nI r) i k = 0 := fun q => hpl.mp q c4
              rw [m4] at c4
              obtain ⟨i', hi', rfl⟩ := nI_of_bw (x := i) (n := 41) c4.1 (by omega) (by omega)
              obtain ⟨k', hk', rfl⟩ := nI_of_bw (x := k) (n := 21) (by omega) (by omega) (by omega)
              rw [nI_ti (by omega), nI_ti (by omega)] at c4
              obtain ⟨l4, l5⟩ := len40 hI c3
              -- the model's heap at the loop
              obtain ⟨U, hU⟩ : ∃ U, (f_X11_film S 0 (nI r) (nI i') (nI k')).2 = U := ⟨_, rfl⟩
              rw [hU] at g64 g65 g66 g67 g68
              obtain ⟨w1, w2, w3⟩ := scn_W hI (T := sI (sI U 64 0 0) 64 1 0) (by rw [gs_ne (by decide), gs_ne (by decide), g68]) (by rw [gs_o (by decide), gs_o (by decide), g64]) (by rw [gs_o (by decide), gs_o (by decide), g64])
              obtain ⟨t1, t2, t3⟩ := hands_L (r := r) (i := i') (N := k') hr (by omega) 1000 0 S (sI (sI U 64 0 0) 64 1 0) 0 (by omega) (by omega) ⟨w1, w2, w3, l4, l5⟩ ⟨m1, by rw [m4]; exact m5, by rw [m4]; omega⟩ (fun x hx => by rw [gs_ne (by decide), gs_ne (by decide), g67]; exact hI.1.2 r x hr hx)
              rw [show nI 0 = (0 : Int32) from rfl] at t1 t2 t3
              have e : f_X11_film S 0 (nI r) (nI i') (nI k') = pr (L_X11_film_77 1000 S (nI r) (nI i') (nI k') 0 0).2.2.2.1.toInt64 (sI (L_X11_film_77 1000 S (nI r) (nI i') (nI k') 0 0).2.2.2.2.2 0 10 0) := by
                unfold f_X11_film
                rw [if_neg d1, if_neg c2, if_neg c3c, if_pos mi, if_neg np, bd_def, bd_def, fine_1, fine_2]
              have bi : bw (nI i') 0 2147483647 := ⟨by rw [nI_ti (by omega)]; omega, by rw [nI_ti (by omega)]; omega⟩
              have bk : bw (nI k') 0 2147483647 := ⟨by rw [nI_ti (by omega)]; omega, by rw [nI_ti (by omega)]; omega⟩
              refine ⟨⟨fun _ _ _ => p_miss S _, fun _ _ _ _ => p_places _ _ _ _, fun _ _ _ _ _ => t1⟩, ⟨fun S1 _ _ _ _ => vp_in_nI hr (by omega), fun S1 e _ _ _ q _ => vp_in_nI hr (by omega), fun S1 e1 _ _ _ _ _ _ S9 e9 => ?_⟩, ?_⟩
              · rw [← e9, ← e1, hU]; exact t2
              · have eU : gI U 0 10 = 0 := by rw [← hU, e, pr_2, gs_eq, if_pos rfl]
                rw [hU]
                have em : f_X12_film U 64 (nI r) (nI i') (nI k') = pr (L_X12_film_91 1000 (sI (sI U 64 0 0) 64 1 0) (nI r) (nI i') (nI k') 0 0).2.2.2.1.toInt64 (L_X12_film_91 1000 (sI (sI U 64 0 0) 64 1 0) (nI r) (nI i') (nI k') 0 0).2.2.2.2.2 := by
                  unfold f_X12_film
                  rw [bd_def, if_neg (d2 _), hp, if_neg c2, if_neg (by rw [gs_o (by decide), g64]; exact c3), if_pos (by rw [gs_ne (by decide), g65, nI_clamp' (by omega)]; exact m2), if_neg (nI_pos (by omega)), if_pos (by rw [lsum_le bi bk, gs_ne (by decide), g66, nI_clamp' (by omega), nI_ti (by omega), nI_ti (by omega)]; omega), bd_def, bd_def]
                rw [em, e, pr_1, pr_1, pr_2, t3, eU]
                refine ⟨rfl, ?_⟩
                have fl := vL_X12_film_91 1000 (sI (sI U 64 0 0) 64 1 0) (nI r) (nI i') (nI k') 0 0
                rw [fl 64 1 (by decide) (by decide), gs_eq, if_pos rfl]
            · have np : f_X5_hasPlaces S 1 (nI r) i k = 0 := hpl.mpr c4
              have e : f_X11_film S 0 (nI r) i k = pr (f_X11_found S 0 2).1 (f_X11_found S 0 2).2 := by
                unfold f_X11_film
                rw [if_neg d1, if_neg c2, if_neg c3c, if_pos mi, if_pos np, bd_def]
              rw [e]
              rw [m4] at c4
              have u6 : ∀ S1, sI (pr (f_X11_found S 0 2).1 (f_X11_found S 0 2).2).2 64 0 0 = S1 → ¬ i < 0 → ¬ (lg_cmp (i.toInt64 + k.toInt64) (gI S1 66 (nI r).toNatClampNeg).toInt64 ≤ 0) := fun S1 e q z => by
                rw [← e, pr_2, found_2, gs_ne (by decide), gs_ne (by decide), nI_clamp' (by omega)] at z
                rw [ti_lt, ti0] at q
                rw [lsum_le ⟨by omega, by have := i_hi i; omega⟩ ⟨by omega, by have := i_hi k; omega⟩] at z
                exact c4 ⟨by omega, by omega, by omega⟩
              refine ⟨⟨fun _ _ _ => p_miss S _, fun _ _ _ _ => p_places _ _ _ _, fun _ _ _ _ q => absurd np q⟩, ⟨fun S1 _ _ _ _ => vp_in_nI hr (by omega), fun S1 e _ _ _ q _ => vp_in_nI hr (by omega), fun S1 e _ _ _ _ q z => absurd z (u6 S1 e q)⟩, ?_⟩
              unfold f_X12_film
              rw [bd_def, if_neg (d2 _), hp, if_neg c2, if_neg (by rw [pr_2, found_2, gs_o (by decide), gs_ne (by decide)]; exact c3), if_pos (by rw [pr_2, found_2, gs_ne (by decide), gs_ne (by decide), nI_clamp' (by omega)]; exact m2)]
              by_cases c5 : i < 0
              · rw [if_pos c5, bd_def, pr_1, pr_1, pr_2, pr_2, finding_2, found_2, gs_eq, if_pos rfl, gs_eq, if_pos rfl]
                exact ⟨found_eq _ _ _, rfl⟩
              · rw [if_neg c5, if_neg (u6 _ rfl c5), bd_def, pr_1, pr_1, pr_2, pr_2, finding_2, found_2, gs_eq, if_pos rfl, gs_eq, if_pos rfl]
                exact ⟨found_eq _ _ _, rfl⟩
    · have d1 : f_X5_isRow S a = 0 := (isRow_iff S a).mpr c1
      have d2 : ∀ T, f_X12_isRow T a = 0 := fun T => (isRowM_iff T a).mpr c1
      have e : f_X11_film S 0 a i k = pr (-9000000000000000001 : Int64) S := by
        unfold f_X11_film
        rw [if_pos d1]
      rw [e]
      refine ⟨⟨fun q => absurd d1 q, fun q => absurd d1 q, fun q => absurd d1 q⟩, ⟨fun S1 _ q => absurd (d2 S1) q, fun S1 _ q => absurd (d2 S1) q, fun S1 _ q => absurd (d2 S1) q⟩, ?_⟩
      unfold f_X12_film
      rw [bd_def, if_pos (d2 _), pr_1, pr_1, pr_2, pr_2]
      exact ⟨rfl, hst⟩
  exact ⟨key.1, key.2.1, key.2.2.1, (inv_stat f1 f2 (by decide) (by decide) key.2.2.2 hI).mono (Nat.le_succ n)⟩
