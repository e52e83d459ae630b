-- needs: 42.aim2
def TLnk (S T : HSt) (sc lp i : Nat) (far pace wide gait duck lag near sh size spin tick kk : Int32) : Prop := TMod T i far pace wide gait duck lag near sh size spin tick kk ∧ (gI S (sc + 3) ((6 + i) * 5) = far ∧ gI S (sc + 3) ((6 + i) * 5 + 1) = pace ∧ gI S (sc + 3) ((6 + i) * 5 + 2) = wide ∧ gI S (sc + 3) ((6 + i) * 5 + 3) = gait ∧ gI S (sc + 3) ((6 + i) * 5 + 4) = duck) ∧ (gI S sc 7 = lag ∧ gI S sc 8 = near ∧ gI S sc 9 = sh) ∧ (gI S lp 0 = size ∧ gI S lp 1 = spin ∧ gI S lp 4 = tick ∧ gI S lp 6 = kk)
theorem fallen_v {U : HSt} {lp : Nat} {size kk : Int32} (h0 : gI U lp 0 = size) (h6 : gI U lp 6 = kk) (hs : bw size 0 200) : f_X1_hasFallen U lp = stF size kk := by
  show (if gI U lp 6 = 0 then (if 0 < gI U lp 0 then (0 : Int32) else 1) else 1) = _
  unfold stF
  rw [h0, h6]
  by_cases c : kk = 0
  · rw [if_pos c, if_pos c]
    by_cases d : 0 < size
    · rw [if_pos d, if_neg (fun q => by rw [q] at d; exact absurd d (by decide))]
    · rw [if_neg d, if_pos (by rw [ti_lt, ti0] at d; rw [ti_eq, ti0]; have := hs.1; omega)]
  · rw [if_neg c, if_neg c]
theorem oddsOf_at {T : HSt} {i : Nat} {far pace wide gait duck lag near sh size spin tick kk : Int32} (h : TMod T i far pace wide gait duck lag near sh size spin tick kk) {S : HSt} {o : Nat} {e : Int32} (hC : CTos S o e (tD far lag near tick) pace wide gait duck sh) : p_X9_sumAt S o size spin ∧ p_X12_oddsOf T 64 e (nI i) ∧ (stF size kk = 0 → f_X9_sumAt S o size spin = (f_X12_oddsOf T 64 e (nI i)).1) ∧ (¬ stF size kk = 0 → (f_X12_oddsOf T 64 e (nI i)).1 = 0) ∧ TMod (f_X12_oddsOf T 64 e (nI i)).2 i far pace wide gait duck lag near sh size spin tick kk := by
  have h' := h
  obtain ⟨-, -, ⟨-, -, b2⟩, ⟨-, -, q2⟩, ⟨-, c1, -, -⟩, -, ⟨-, -, l2⟩, -, z1, -, -⟩ := h'
  have tn : (-sh).toInt = -sh.toInt := ti_neg (by have := l2.1; omega)
  obtain ⟨i1, i2, i3, i4, i5⟩ := sum_L (i := i) (size := size) (spin := spin) (kk := kk) hC 1000 T 0 0 (-sh) (spin - sh) h (by rw [tn]; omega) (by rw [tn]; have := l2.1; omega) (by rw [tn]; have := l2.2; omega) (by rw [Int32.sub_eq_add_neg]) (fun _ => rfl)
  refine ⟨fun x hx => ?_, ⟨q2, fun x hx y hy => ?_⟩, fun z => ?_, fun z => ?_, ?_⟩
  · rw [← hx, hC.2.1]; exact i1
  · rw [← hy, ← hx, b2, c1]; exact i2
  · show (F_X9_sumAt S o size spin).1 = _
    unfold F_X9_sumAt f_X12_oddsOf
    simp only [bd_def]
    rw [pr_1, pr_1, hC.2.1, b2, c1]
    exact i3 z
  · unfold f_X12_oddsOf
    simp only [bd_def]
    rw [pr_1, b2, c1]
    exact i4 z
  · unfold f_X12_oddsOf
    simp only [bd_def]
    rw [pr_2, b2, c1]
    exact i5
theorem aim_at {S T : HSt} {o sc lp i : Nat} {far pace wide gait duck lag near sh size spin tick kk : Int32} (h : TLnk S T sc lp i far pace wide gait duck lag near sh size spin tick kk) (h1 : o ≠ sc) (h2 : o ≠ sc + 3) (h3 : o ≠ lp) (a3 : Int32) : p_X9_aim S o sc lp a3 (nI i) ∧ (p_X12_oddsOf T 64 (if a3 = 1 then 1 else 0) (nI i) ∧ gI (f_X9_aim S o sc lp a3 (nI i)) o 2 = (f_X12_oddsOf T 64 (if a3 = 1 then 1 else 0) (nI i)).1 ∧ gI (f_X9_aim S o sc lp a3 (nI i)) o 3 = 12 * (2 * sh + 1) ∧ TMod (f_X12_oddsOf T 64 (if a3 = 1 then 1 else 0) (nI i)).2 i far pace wide gait duck lag near sh size spin tick kk) ∧ p_X12_missBy T 64 (if a3 = 1 then 1 else 0) (nI i) spin ∧ ((0 < (f_X12_missBy T 64 (if a3 = 1 then 1 else 0) (nI i) spin).1.toInt ∧ gI (f_X9_aim S o sc lp a3 (nI i)) o 0 = (f_X12_missBy T 64 (if a3 = 1 then 1 else 0) (nI i) spin).1 ∧ gI (f_X9_aim S o sc lp a3 (nI i)) o 1 = 0) ∨ ((f_X12_missBy T 64 (if a3 = 1 then 1 else 0) (nI i) spin).1.toInt < 0 ∧ gI (f_X9_aim S o sc lp a3 (nI i)) o 0 = 0 ∧ (f_X12_missBy T 64 (if a3 = 1 then 1 else 0) (nI i) spin).1 = -(gI (f_X9_aim S o sc lp a3 (nI i)) o 1) - 1 ∧ bw (gI (f_X9_aim S o sc lp a3 (nI i)) o 1) 0 1000)) := by
  obtain ⟨hT, ⟨v0, v1, v2, v3, v4⟩, ⟨s7, s8, s9⟩, ⟨p0, p1, p4, p6⟩⟩ := h
  have hT' := hT
  obtain ⟨hi, -, -, -, -, ⟨b0, b1, b2, b3, -⟩, ⟨l0, l1, l2⟩, z0, z1, z2, -⟩ := hT'
  have hD := tD_bw b0 l0 l1 z2
  obtain ⟨⟨e4, e5, e6, e7, e8, e9, e10⟩, e3, eo, ep⟩ := face_at (S := S) h1 h2 hi (gI S lp 4) a3
  generalize hX : f_X9_face S o sc (gI S lp 4) a3 (nI i) = X at e4 e5 e6 e7 e8 e9 e10 e3 eo
  rw [v0, s7, s8, p4] at e6
  rw [v1] at e7
  rw [v2] at e8
  rw [v3] at e9
  rw [v4] at e10
  rw [s9] at e5 e3
  have g4 : ∀ j, j ≠ 0 → j ≠ 1 → j ≠ 2 → gI (sI (sI (sI X o 2 0) o 1 0) o 0 999) o j = gI X o j := fun j j0 j1 j2 => by rw [gs_o j0, gs_o j1, gs_o j2]
  have g4o : ∀ a, a ≠ o → gI (sI (sI (sI X o 2 0) o 1 0) o 0 999) a = gI S a := fun a ha => by rw [gs_ne ha, gs_ne ha, gs_ne ha, eo a ha]
  have g4z : gI (sI (sI (sI X o 2 0) o 1 0) o 0 999) o 0 = 999 ∧ gI (sI (sI (sI X o 2 0) o 1 0) o 0 999) o 1 = 0 ∧ gI (sI (sI (sI X o 2 0) o 1 0) o 0 999) o 2 = 0 := ⟨by rw [gs_eq, if_pos rfl], by rw [gs_o (by decide), gs_eq, if_pos rfl], by rw [gs_o (by decide), gs_o (by decide), gs_eq, if_pos rfl]⟩
  generalize hY : sI (sI (sI X o 2 0) o 1 0) o 0 999 = Y at g4 g4o g4z
  have hl : gI Y lp = gI S lp := g4o lp (Ne.symm h3)
  have hC : CTos Y o (if a3 = 1 then 1 else 0) (tD far lag near tick) pace wide gait duck sh := ⟨by rw [g4 4 (by decide) (by decide) (by decide)]; exact e4, by rw [g4 5 (by decide) (by decide) (by decide)]; exact e5, by rw [g4 6 (by decide) (by decide) (by decide)]; exact e6, by rw [g4 7 (by decide) (by decide) (by decide)]; exact e7, by rw [g4 8 (by decide) (by decide) (by decide)]; exact e8, by rw [g4 9 (by decide) (by decide) (by decide)]; exact e9, by rw [g4 10 (by decide) (by decide) (by decide)]; exact e10⟩
  obtain ⟨o1, o2, o3, o4, o5⟩ := oddsOf_at hT hC
  obtain ⟨m0, m1, m2, m3⟩ := missBy_at hT (if a3 = 1 then 1 else 0) spin
  rw [stF_v hT] at m1 m2 m3
  have hf : f_X1_hasFallen Y lp = stF size kk := fallen_v (by rw [hl]; exact p0) (by rw [hl]; exact p6) z0
  have y0 : gI Y lp 0 = size := by rw [hl]; exact p0
  have y1 : gI Y lp 1 = spin := by rw [hl]; exact p1
  refine ⟨⟨ep, fun r hr A hA B hB C hC2 _ => ?_, fun r hr A hA B hB C hC2 _ D hD2 => p_fl _ _ _⟩, ?_⟩
  · rw [← hC2, ← hB, ← hA, ← hr, hX, hY, y0, y1]
    exact o1
  have hU : f_X9_aim S o sc lp a3 (nI i) = if stF size kk = 0 then sI (sI (sI Y o 2 (f_X9_sumAt Y o size spin)) o 1 (if f_X9_flightBy (sI Y o 2 (f_X9_sumAt Y o size spin)) o spin = 0 then 0 else (if (0 : Int32) < size - f_X9_sizeFor (sI Y o 2 (f_X9_sumAt Y o size spin)) o (f_X9_flightBy (sI Y o 2 (f_X9_sumAt Y o size spin)) o spin) then size - f_X9_sizeFor (sI Y o 2 (f_X9_sumAt Y o size spin)) o (f_X9_flightBy (sI Y o 2 (f_X9_sumAt Y o size spin)) o spin) else 0))) o 0 (if f_X9_flightBy (sI Y o 2 (f_X9_sumAt Y o size spin)) o spin = 0 then 500 else (if (0 : Int32) < -(size - f_X9_sizeFor (sI Y o 2 (f_X9_sumAt Y o size spin)) o (f_X9_flightBy (sI Y o 2 (f_X9_sumAt Y o size spin)) o spin)) then -(size - f_X9_sizeFor (sI Y o 2 (f_X9_sumAt Y o size spin)) o (f_X9_flightBy (sI Y o 2 (f_X9_sumAt Y o size spin)) o spin)) else 0)) else Y := by
    unfold f_X9_aim
    simp only [bd_def]
    rw [hX, hY, hf]
    simp only [gs_ne (Ne.symm h3), y0, y1]
  rw [hU]
  clear hU
  by_cases c : stF size kk = 0
  · rw [if_pos c]
    generalize f_X9_sumAt Y o size spin = q at o3
    rw [fl_v, sz_v, gs_o (show 6 ≠ 2 by decide), gs_o (show 7 ≠ 2 by decide), gs_o (show 4 ≠ 2 by decide), gs_o (show 8 ≠ 2 by decide), hC.2.2.1, hC.2.2.2.1, hC.1, hC.2.2.2.2.1]
    have ha : spin = if 0 ≤ spin then spin else 0 := by rw [if_pos (by rw [ti_le, ti0]; exact z1.1)]
    have hfl := fl_eq (D := tD far lag near tick) (P := pace) (s := spin) (a := spin) hD ⟨b1.1, by have := b1.2; omega⟩ ⟨by have := z1.1; omega, by have := z1.2; omega⟩ ha
    refine ⟨⟨o2, ?_, ?_, o5⟩, m0, ?_⟩
    · rw [gs_o (by decide), gs_o (by decide), gs_eq, if_pos rfl]
      exact o3 c
    · rw [gs_o (by decide), gs_o (by decide), gs_o (by decide), g4 3 (by decide) (by decide) (by decide)]
      exact e3
    · rw [gs_eq, if_pos rfl, gs_o (by decide), gs_eq, if_pos rfl]
      rcases hfl with ⟨u1, u2, u3⟩ | ⟨u1, u2⟩
      · have hne : ¬ cFl (tD far lag near tick) pace spin = 0 := fun z => by rw [← u2, z, ti0] at u3; omega
        rw [if_neg hne, if_neg hne, (m3 c u1).1, ← u2, ← ov_sz]
        have hob := ov_bw (e := (if a3 = 1 then 1 else 0)) b2 (mFl_bw u1) z0
        rw [← u2] at hob
        generalize ovF (if a3 = 1 then 1 else 0) wide (cFl (tD far lag near tick) pace spin) size = w at hob
        obtain ⟨w1, w2⟩ := hob
        have tn : (-w).toInt = -w.toInt := ti_neg (by omega)
        by_cases d : 0 ≤ w
        · have d' := d
          rw [ti_le, ti0] at d'
          right
          rw [if_pos d, if_neg (show ¬ 0 < -w by rw [ti_lt, ti0, tn]; omega)]
          have hw : (if 0 < w then w else 0) = w := by
            by_cases y : 0 < w
            · rw [if_pos y]
            · rw [if_neg y, ti_eq, ti0]; rw [ti_lt, ti0] at y; omega
          rw [hw]
          refine ⟨?_, rfl, rfl, d', w2⟩
          rw [ti_sub (by rw [tn, ti1]; omega) (by rw [tn, ti1]; omega), tn, ti1]
          omega
        · have d' := d
          rw [ti_le, ti0] at d'
          left
          rw [if_neg d, if_pos (show 0 < -w by rw [ti_lt, ti0, tn]; omega), if_neg (show ¬ 0 < w by rw [ti_lt, ti0]; omega)]
          exact ⟨by rw [tn]; omega, rfl, rfl⟩
      · rw [if_pos u2, if_pos u2, (m2 c u1).1]
        exact Or.inl ⟨by decide, rfl, rfl⟩
  · rw [if_neg c]
    refine ⟨⟨o2, ?_, ?_, o5⟩, m0, ?_⟩
    · rw [o4 c]; exact g4z.2.2
    · rw [g4 3 (by decide) (by decide) (by decide)]
      exact e3
    · rw [(m1 c).1, g4z.1, g4z.2.1]
      exact Or.inl ⟨by decide, rfl, rfl⟩
