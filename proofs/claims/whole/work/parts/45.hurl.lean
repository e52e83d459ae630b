-- needs: 44.gcd
theorem horse_at (T : HSt) {k : Nat} (hr : gI T 64 19 = -1000000 ∨ bw (gI T 64 19) 0 2) (hk : k < 3) : f_X12_horseOf T 64 (nI k) = (if gI T 64 19 = -1000000 then 0 else gI T 68 (15 + 3 * (gI T 64 19).toNatClampNeg + k)) ∧ p_X12_horseOf T 64 (nI k) := by
  by_cases c : gI T 64 19 = -1000000
  · refine ⟨?_, fun q => absurd c q⟩
    show (if gI T 64 19 = -1000000 then (0 : Int32) else _) = _
    rw [if_pos c, if_pos c]
  · obtain ⟨j, hj, e⟩ := nI_of_bw (x := gI T 64 19) (n := 3) (hr.resolve_left c).1 (by have := (hr.resolve_left c).2; omega) (by omega)
    have hx : ((15 : Int32) + (3 : Int32) * nI j) + nI k = nI (15 + 3 * j + k) := by
      rw [show (15 : Int32) = nI 15 from rfl, show (3 : Int32) = nI 3 from rfl, pk_mul, nI_add, nI_add]
    constructor
    · show (if gI T 64 19 = -1000000 then (0 : Int32) else gI T 68 (((15 : Int32) + (3 : Int32) * gI T 64 19) + nI k).toNatClampNeg) = _
      rw [if_neg c, if_neg c, e, hx, nI_clamp' (by omega), nI_clamp' (by omega)]
    · intro _
      show vp_in (((15 : Int32) + (3 : Int32) * gI T 64 19) + nI k) 172
      rw [e, hx]
      exact vp_in_nI (by omega) (by omega)
theorem lnkG {S T : HSt} {sc lp i : Nat} (hW : WayR (gI S (sc + 2)) (gI S (sc + 3)) (gI T 68)) (hB : WayB (gI T 68)) (hH : HeldR (gI S sc) (gI T 68) (gI T 64 18) (gI T 64 19)) (hL : LoopR (gI S lp) (WL T)) (hb0 : bw (WL T 0) 0 200) (hb1 : bw (WL T 1) 0 15) (hb4 : bw (WL T 4) 0 2000) (hb5 : Bz (WL T 5)) (hi : i < 4) (hc : (i : Int) < (gI T 68 2).toInt) : TLnk S T sc lp i (gI T 68 (24 + 5 * i)) (gI T 68 (24 + 5 * i + 1)) (gI T 68 (24 + 5 * i + 2)) (gI T 68 (24 + 5 * i + 3)) (gI T 68 (24 + 5 * i + 4)) (gI S sc 7) (gI S sc 8) (gI S sc 9) (WL T 0) (WL T 1) (WL T 4) (WL T 5) := by
  obtain ⟨hr, hh, -, -, -, hz, hnz⟩ := hH
  obtain ⟨-, -, hB3, hB4, -⟩ := hB
  obtain ⟨g0, g1, g2, g3, g4, g5⟩ := hB4 i hi
  have V : ∀ f, f < 5 → gI S (sc + 3) ((6 + i) * 5 + f) = gI T 68 (24 + 5 * i + f) := fun f hf => hW.2.2.2.1 i f hi hf
  have hk : ∀ k, k < 3 → f_X12_horseOf T 64 (nI k) = gI S sc (7 + k) ∧ p_X12_horseOf T 64 (nI k) ∧ (∃ m : Nat, m < 3 ∧ (gI S sc (7 + k) = 0 ∨ gI S sc (7 + k) = gI T 68 (15 + 3 * m + k))) := fun k hk3 => by
    obtain ⟨a1, a2⟩ := horse_at T hh hk3
    refine ⟨?_, a2, ?_⟩
    · rw [a1]
      have hkc : k = 0 ∨ k = 1 ∨ k = 2 := by omega
      by_cases c : gI T 64 19 = -1000000
      · rw [if_pos c]
        obtain ⟨u1, u2, u3⟩ := hz c
        rcases hkc with rfl | rfl | rfl
        · exact u1.symm
        · exact u2.symm
        · exact u3.symm
      · rw [if_neg c]
        obtain ⟨u1, u2, u3⟩ := hnz c
        rcases hkc with rfl | rfl | rfl
        · exact u1.symm
        · exact u2.symm
        · exact u3.symm
    · have hkc : k = 0 ∨ k = 1 ∨ k = 2 := by omega
      by_cases c : gI T 64 19 = -1000000
      · obtain ⟨u1, u2, u3⟩ := hz c
        refine ⟨0, by omega, Or.inl ?_⟩
        rcases hkc with rfl | rfl | rfl
        · exact u1
        · exact u2
        · exact u3
      · obtain ⟨u1, u2, u3⟩ := hnz c
        have hm : (gI T 64 19).toNatClampNeg < 3 := by rw [ti_cl]; have := (hh.resolve_left c).2; omega
        refine ⟨(gI T 64 19).toNatClampNeg, hm, Or.inr ?_⟩
        rcases hkc with rfl | rfl | rfl
        · exact u1
        · exact u2
        · exact u3
  obtain ⟨x0, y0, m0, n0, z0⟩ := hk 0 (by decide)
  obtain ⟨x1, y1, m1, n1, z1⟩ := hk 1 (by decide)
  obtain ⟨x2, y2, m2, n2, z2⟩ := hk 2 (by decide)
  have q0 : bw (gI S sc 7) 0 20 := by
    rcases z0 with z | z
    · rw [show gI S sc 7 = 0 from z]; exact ⟨by decide, by decide⟩
    · rw [show gI S sc 7 = _ from z]; exact (hB3 m0 n0).1
  have q1 : bw (gI S sc 8) 0 99 := by
    rcases z1 with z | z
    · rw [show gI S sc 8 = 0 from z]; exact ⟨by decide, by decide⟩
    · rw [show gI S sc 8 = _ from z]; exact (hB3 m1 n1).2.1
  have q2 : bw (gI S sc 9) 0 3 := by
    rcases z2 with z | z
    · rw [show gI S sc 9 = 0 from z]; exact ⟨by decide, by decide⟩
    · rw [show gI S sc 9 = _ from z]; exact (hB3 m2 n2).2.2.1
  exact ⟨⟨hi, ⟨rfl, rfl, rfl, rfl, rfl⟩, ⟨x0, x1, x2⟩, ⟨y0, y1, y2⟩, ⟨rfl, rfl, rfl, rfl⟩, ⟨g0, g1, g2, ⟨g5 hc, g3.2⟩, g4⟩, ⟨q0, q1, q2⟩, hb0, hb1, hb4, hb5⟩, ⟨V 0 (by decide), V 1 (by decide), V 2 (by decide), V 3 (by decide), V 4 (by decide)⟩, ⟨rfl, rfl, rfl⟩, ⟨hL.1, hL.2.1, hL.2.2.2.2.1, hL.2.2.2.2.2.2⟩⟩
/-- at the live loop -/
theorem lnk {n : Nat} {S U : HSt} (hn : n < 512) (hI : Inv0 n S) (h68 : gI U 68 = gI S 68) (h71 : gI U 71 = gI S 71) (h18 : gI U 64 18 = gI S 64 18) (h19 : gI U 64 19 = gI S 64 19) {i : Nat} (hi : i < 4) (hc : (i : Int) < (gI S 68 2).toInt) : TLnk S (f_X12_layLive U 64) 18 22 i (gI (f_X12_layLive U 64) 68 (24 + 5 * i)) (gI (f_X12_layLive U 64) 68 (24 + 5 * i + 1)) (gI (f_X12_layLive U 64) 68 (24 + 5 * i + 2)) (gI (f_X12_layLive U 64) 68 (24 + 5 * i + 3)) (gI (f_X12_layLive U 64) 68 (24 + 5 * i + 4)) (gI S 18 7) (gI S 18 8) (gI S 18 9) (WL (f_X12_layLive U 64) 0) (WL (f_X12_layLive U 64) 1) (WL (f_X12_layLive U 64) 4) (WL (f_X12_layLive U 64) 5) := by
  obtain ⟨-, hL, hB, e68, hl⟩ := laid hI h68 h71 h18
  obtain ⟨⟨hW, hWB, hH, -, -⟩, -⟩ := hI.2.2.2.2.1
  have f := v_X12_layLive U 64
  have e18 : gI (f_X12_layLive U 64) 64 18 = gI S 64 18 := (f 64 18 (by decide) (by decide)).trans h18
  have e19 : gI (f_X12_layLive U 64) 64 19 = gI S 64 19 := (f 64 19 (by decide) (by decide)).trans h19
  have hlen : (gI S 18 4).toInt ≤ 400 := by
    rw [hH.2.2.1]
    have h3 : (gI S 64 18).toNatClampNeg < 3 := by rw [ti_cl]; have := hH.1.1; have := hH.1.2; omega
    exact (hWB.2.1 _ h3).1.2
  refine lnkG (by rw [e68]; exact hW) (by rw [e68]; exact hWB) (by rw [e68, e18, e19]; exact hH) hL ⟨hB.1.1, ?_⟩ hB.2.1 ⟨hB.2.2.2.2.1.1, ?_⟩ hB.2.2.2.2.2.1 hi (by rw [e68]; exact hc)
  · have := hB.1.2; omega
  · have := hB.2.2.2.2.1.2; omega
theorem beast_iff (T : HSt) (hb : bw (gI T 68 2) 0 4) (a : Int32) : f_X12_isBeast T 64 a = 0 ↔ ¬ (0 ≤ a.toInt ∧ a.toInt < (gI T 68 2).toInt) := by
  obtain ⟨h1, h2⟩ := hb
  have hs : (gI T 68 2 - (1 : Int32)).toInt = (gI T 68 2).toInt - 1 := ti_sub (by rw [ti1]; omega) (by rw [ti1]; omega)
  show f_X12_in T a.toInt64 (0 : Int64) (gI T 68 2 - (1 : Int32)).toInt64 = 0 ↔ _
  rw [show (0 : Int64) = (0 : Int32).toInt64 from rfl, in_within T T, within_iff, hs, ti0]
  omega
theorem can_v (S : HSt) (a b : Int32) : f_X11_canThrow S 0 a b = if f_X11_within S a 0 1 = 0 then 0 else if f_X10_has S 19 2 b = 0 then 0 else 1 := rfl
theorem can_case {n : Nat} {S : HSt} (hI : Inv0 n S) (a b : Int32) : (f_X11_canThrow S 0 a b = 0 ∧ ∀ T : HSt, gI T 68 = gI S 68 → f_X12_in T a.toInt64 (0 : Int64) (1 : Int64) = 0 ∨ f_X12_isBeast T 64 b = 0) ∨ (∃ i, i < 4 ∧ b = nI i ∧ (i : Int) < (gI S 68 2).toInt ∧ ¬ gI S 64 7 = 0 ∧ ¬ f_X11_canThrow S 0 a b = 0 ∧ ∀ T : HSt, gI T 68 = gI S 68 → ¬ f_X12_in T a.toInt64 (0 : Int64) (1 : Int64) = 0 ∧ ¬ f_X12_isBeast T 64 b = 0) := by
  obtain ⟨⟨hW, hB, -⟩, -, hbz, -, hz⟩ := hI.2.2.2.2.1
  have hc : gI S 20 2 = gI S 68 2 := hW.1 2 (by decide)
  have hb : bw (gI S 68 2) 0 4 := hB.1.2.2.1
  have hp : ∀ T : HSt, f_X12_in T a.toInt64 (0 : Int64) (1 : Int64) = f_X11_within S a 0 1 := fun T => by
    rw [show (0 : Int64) = (0 : Int32).toInt64 from rfl, show (1 : Int64) = (1 : Int32).toInt64 from rfl, in_within T S]
  have h1 : f_X10_has S 19 2 b = 0 ↔ ¬ (0 ≤ b.toInt ∧ b.toInt < (gI S 68 2).toInt) := by
    rw [← hc]
    exact has_iff S 19 (s := 2) (by decide) b
  rw [can_v]
  by_cases c1 : f_X11_within S a 0 1 = 0
  · left
    rw [if_pos c1]
    exact ⟨rfl, fun T _ => Or.inl (by rw [hp]; exact c1)⟩
  · rw [if_neg c1]
    by_cases c : 0 ≤ b.toInt ∧ b.toInt < (gI S 68 2).toInt
    · right
      rw [if_neg (fun q => h1.mp q c)]
      obtain ⟨i, hi, rfl⟩ := nI_of_bw (n := 4) c.1 (by have := hb.2; omega) (by omega)
      refine ⟨i, hi, rfl, by have := c.2; rw [nI_ti (by omega)] at this; exact this, fun q => ?_, by decide, fun T hT => ⟨by rw [hp]; exact c1, fun q => ?_⟩⟩
      · have := hz q 2 (by decide)
        rw [this, ti0] at c
        omega
      · rw [beast_iff T (by rw [hT]; exact hb), hT] at q
        exact q c
    · left
      rw [if_pos (h1.mpr c)]
      exact ⟨rfl, fun T hT => Or.inr (by rw [beast_iff T (by rw [hT]; exact hb), hT]; exact c)⟩
theorem k_hurl : K_hurl Inv0 := by
  intro n S a b hn hI
  have f1 := v_X11_hurl S 0 a b
  have f2 := v_X12_hurl (f_X11_hurl S 0 a b).2 64 a b
  obtain ⟨hR, hth, hbz, -⟩ := hI.2.2.2.2.1
  have g68 : gI (f_X11_hurl S 0 a b).2 68 = gI S 68 := fr_addr f1 68 (by decide)
  have g71 : gI (f_X11_hurl S 0 a b).2 71 = gI S 71 := fr_addr f1 71 (by decide)
  have g64 : gI (f_X11_hurl S 0 a b).2 64 = gI S 64 := fr_addr f1 64 (by decide)
  have key : p_X11_hurl S 0 a b ∧ p_X12_hurl (f_X11_hurl S 0 a b).2 64 a b ∧ (f_X11_hurl S 0 a b).1 = (f_X12_hurl (f_X11_hurl S 0 a b).2 64 a b).1 ∧ LoopR (gI (f_X12_hurl (f_X11_hurl S 0 a b).2 64 a b).2 22) (gI (f_X12_hurl (f_X11_hurl S 0 a b).2 64 a b).2 71) ∧ LoopB (n + 1) (gI S 18 4) (gI S 18 5) (gI (f_X12_hurl (f_X11_hurl S 0 a b).2 64 a b).2 71) := by
    have h22 : gI (f_X12_hurl (f_X11_hurl S 0 a b).2 64 a b).2 22 = gI (f_X11_hurl S 0 a b).2 22 := fr_addr f2 22 (by decide)
    rw [h22]
    generalize hU : (f_X11_hurl S 0 a b).2 = U at g68 g71 g64
    have hU22 : gI U 22 = gI (f_X11_hurl S 0 a b).2 22 := by rw [hU]
    have s68 : gI (sI U 64 0 0) 68 = gI S 68 := by rw [gs_ne (by decide), g68]
    have s71 : gI (sI U 64 0 0) 71 = gI S 71 := by rw [gs_ne (by decide), g71]
    have s18 : gI (sI U 64 0 0) 64 18 = gI S 64 18 := by rw [gs_o (by decide), g64]
    have s19 : gI (sI U 64 0 0) 64 19 = gI S 64 19 := by rw [gs_o (by decide), g64]
    obtain ⟨hP, hL, hB, -, hl⟩ := laid hI (U := sI U 64 0 0) s68 s71 s18
    have hB0 : LoopB (n + 1) (gI S 18 4) (gI S 18 5) (gI S 71) := (hB.cg (fun j hj => (hl j hj).symm)).mono (Nat.le_succ n)
    have hL0 : LoopR (gI S 22) (gI S 71) := hR.2.2.2.1
    rcases can_case hI a b with ⟨c, hc⟩ | ⟨i, hi, rfl, hic, h7, c, hc⟩
    · have hm := hc (sI U 64 0 0) s68
      refine ⟨⟨fun _ => p_has S 19 _ _, fun q => absurd c q⟩, ⟨?_, ?_⟩, ?_⟩
      · intro S1 e1 q1 q2
        rw [← e1] at q1 q2
        rcases hm with hm | hm
        · exact absurd hm q1
        · exact absurd hm q2
      · intro S1 e1 q1 q2
        rw [← e1] at q1 q2
        rcases hm with hm | hm
        · exact absurd hm q1
        · exact absurd hm q2
      · have e1 : (f_X11_hurl S 0 a b).1 = -9000000000000000001 ∧ (f_X11_hurl S 0 a b).2 = S := by
          unfold f_X11_hurl
          rw [if_pos c, pr_1, pr_2]
          exact ⟨rfl, rfl⟩
        have e2 : (f_X12_hurl U 64 a b).1 = -9000000000000000001 ∧ (f_X12_hurl U 64 a b).2 = sI U 64 0 0 := by
          unfold f_X12_hurl
          rw [bd_def]
          rcases hm with hm | hm
          · rw [if_pos hm, pr_1, pr_2]; exact ⟨rfl, rfl⟩
          · by_cases q : f_X12_in (sI U 64 0 0) a.toInt64 (0 : Int64) (1 : Int64) = 0
            · rw [if_pos q, pr_1, pr_2]; exact ⟨rfl, rfl⟩
            · rw [if_neg q, if_pos hm, pr_1, pr_2]; exact ⟨rfl, rfl⟩
        rw [hU22, e1.1, e1.2, e2.1, e2.2, s71]
        exact ⟨rfl, hL0, hB0⟩
    · obtain ⟨hm1, hm2⟩ := hc (sI U 64 0 0) s68
      have hK := lnk hn hI (U := sI U 64 0 0) s68 s71 s18 s19 hi hic
      obtain ⟨pa, -, pm, hmiss⟩ := aim_at hK (o := 34) (by decide) (by decide) (by decide) a
      generalize hT2 : f_X12_layLive (sI U 64 0 0) 64 = T2 at hP hL hB hl hK pm hmiss
      have hw1 : WL T2 1 = gI T2 64 21 := rfl
      rw [hw1] at pm hmiss
      obtain ⟨-, m1, m2, m3⟩ := missBy_at hK.1 (if a = 1 then 1 else 0) (gI T2 64 21)
      have f3 := v_X12_missBy T2 64 (if a = 1 then 1 else 0) (nI i) (gI T2 64 21)
      have fa := v_X9_aim S 34 18 22 a (nI i)
      have a22 : gI (f_X9_aim S 34 18 22 a (nI i)) 22 = gI S 22 := fr_addr fa 22 (by decide)
      generalize hM : f_X12_missBy T2 64 (if a = 1 then 1 else 0) (nI i) (gI T2 64 21) = M at pm hmiss f3
      have M23 : gI M.2 64 23 = gI T2 64 23 := f3 64 23 (by decide) (by decide)
      have M24 : gI M.2 64 24 = gI T2 64 24 := f3 64 24 (by decide) (by decide)
      obtain ⟨d0, d1, d2, d3, d4, d5, d6⟩ := shut_at M.2
      obtain ⟨kq, kp⟩ := keep_at (f_X12_shut M.2 64) (Or.inl d5)
      refine ⟨⟨fun _ => p_has S 19 _ _, fun _ => pa⟩, ⟨?_, ?_⟩, ?_⟩
      · intro S1 e1 _ _ r4 e4 x6 e6
        rw [← e1, hT2] at e4
        rw [← e4, ← e6]
        exact pm
      · intro S1 e1 _ _ r4 e4 x6 e6 r7 e7 x8 e8 r9 e9
        rw [← e1, hT2] at e4
        rw [← e4, ← e6, hM] at e7
        rw [← e9, ← e7]
        exact kq
      · have e1 : (f_X11_hurl S 0 a (nI i)).1 = (if gI (f_X9_aim S 34 18 22 a (nI i)) 34 0 ≤ 0 then (-(gI (f_X9_aim S 34 18 22 a (nI i)) 34 1) - 1).toInt64 else (gI (f_X9_aim S 34 18 22 a (nI i)) 34 0).toInt64) ∧ (f_X11_hurl S 0 a (nI i)).2 = f_X1_fallToHand (f_X9_aim S 34 18 22 a (nI i)) 22 := by
          unfold f_X11_hurl
          rw [if_neg c, bd_def, bd_def, bd_def, pr_1, pr_2]
          have ff := v_X1_fallToHand (f_X9_aim S 34 18 22 a (nI i)) 22
          rw [fr_addr ff 34 (by decide)]
          exact ⟨rfl, rfl⟩
        have e2 : (f_X12_hurl U 64 a (nI i)).1 = M.1.toInt64 ∧ (f_X12_hurl U 64 a (nI i)).2 = f_X12_keepLive (f_X12_shut M.2 64) 64 := by
          unfold f_X12_hurl
          simp only [bd_def]
          rw [if_neg hm1, if_neg hm2, hT2, hM, pr_1, pr_2]
          exact ⟨rfl, rfl⟩
        obtain ⟨b0, b1, b2, b3, b4, b5, b6⟩ := fall_at (f_X9_aim S 34 18 22 a (nI i)) 22
        have l3 : gI S 22 3 = gI T2 64 23 := hL.2.2.2.1
        have l4 : gI S 22 4 = gI T2 64 24 := hL.2.2.2.2.1
        rw [a22] at b3 b4
        rw [hU22, e1.1, e1.2, e2.1, e2.2]
        refine ⟨?_, ?_, ?_⟩
        · rcases hmiss with ⟨w1, w2, w3⟩ | ⟨w1, w2, w3, -⟩
          · rw [w2, if_neg (by rw [ti_le, ti0]; omega)]
          · rw [w2, if_pos (by decide), ← w3]
        · refine LoopR.cg kp ⟨?_, ?_, ?_, ?_, ?_, ?_, ?_⟩
          · rw [b0, d0]
          · rw [b1, d1]
          · rw [b2, d2]
          · rw [b3, d3, l3, M23]
          · rw [b4, d4, l4, M24]
          · rw [b5, d6]
          · rw [b6, d5]
        · obtain ⟨q1, q2⟩ := len40 hI h7
          have z4 : bw (gI T2 64 23) 0 (15 * n) := hB.2.2.2.1
          have z5 : bw (gI T2 64 24) 0 n := hB.2.2.2.2.1
          refine LoopB.cg kp (fresh_B q1 q2 d0 d1 d2 ?_ ?_ d5)
          · rw [d3, M23]
            obtain ⟨g1, g2⟩ := z4
            exact ⟨g1, by omega⟩
          · rw [d4, M24]
            obtain ⟨g1, g2⟩ := z5
            unfold bw
            rw [ti_add (by rw [ti1]; omega) (by rw [ti1]; omega), ti1]
            omega
  exact ⟨key.1, key.2.1, key.2.2.1, inv_loop (Nat.le_succ n) f1 f2 (by decide) (by decide) key.2.2.2.1 key.2.2.2.2 hI⟩
