-- needs: 27.tick
/-- only the live scene changes -/
theorem inv_scn {n m : Nat} {W W2 : List (Nat × Nat)} {S S1 T : HSt} (hnm : n ≤ m) (h : Fr W S S1) (h2 : Fr W2 S1 T)
    (c1 : (W.all (fun q => !((decide (3 ≤ q.1) && decide (q.1 ≤ 12)) || (decide (65 ≤ q.1) && decide (q.1 ≤ 67)))) && W.all (fun q => !(decide (q.1 = 14) || decide (q.1 = 70) || decide (q = (13, 2)) || decide (q = (13, 1000)) || decide (q = (64, 9)) || decide (q = (64, 1000)))) && W.all (fun q => !(decide (q = (0, 10)) || decide (q = (0, 1000)) || decide (q = (13, 7)) || decide (q = (13, 1000)) || decide (q = (64, 1)) || decide (q = (64, 10)) || decide (q = (64, 1000)))) && W.all (fun q => !(decide (q.1 = 62) || decide (q.1 = 63) || decide (q.1 = 87) || decide (q = (64, 51)) || decide (q = (64, 1000)))) && W.all (fun q => !((decide (24 ≤ q.1) && decide (q.1 ≤ 33)) || (decide (82 ≤ q.1) && decide (q.1 ≤ 86)) || decide (q = (64, 7)) || decide (q = (64, 1000))))) = true)
    (c2 : (W2.all (fun q => !((decide (3 ≤ q.1) && decide (q.1 ≤ 12)) || (decide (65 ≤ q.1) && decide (q.1 ≤ 67)))) && W2.all (fun q => !(decide (q.1 = 14) || decide (q.1 = 70) || decide (q = (13, 2)) || decide (q = (13, 1000)) || decide (q = (64, 9)) || decide (q = (64, 1000)))) && W2.all (fun q => !(decide (q = (0, 10)) || decide (q = (0, 1000)) || decide (q = (13, 7)) || decide (q = (13, 1000)) || decide (q = (64, 1)) || decide (q = (64, 10)) || decide (q = (64, 1000)))) && W2.all (fun q => !(decide (q.1 = 62) || decide (q.1 = 63) || decide (q.1 = 87) || decide (q = (64, 51)) || decide (q = (64, 1000)))) && W2.all (fun q => !((decide (24 ≤ q.1) && decide (q.1 ≤ 33)) || (decide (82 ≤ q.1) && decide (q.1 ≤ 86)) || decide (q = (64, 7)) || decide (q = (64, 1000))))) = true)
    (hs : IScn m T) (hI : Inv0 n S) : Inv0 m T := by
  simp only [Bool.and_eq_true] at c1 c2
  obtain ⟨⟨⟨⟨a1, a2⟩, a3⟩, a4⟩, a6⟩ := c1
  obtain ⟨⟨⟨⟨b1, b2⟩, b3⟩, b4⟩, b6⟩ := c2
  obtain ⟨i1, i2, i3, i4, i5, i6⟩ := hI
  exact ⟨fr_row b1 h2 (fr_row a1 h i1), fr_tape b2 h2 (fr_tape a2 h i2), fr_stat b3 h2 (fr_stat a3 h i3), fr_tr b4 h2 (fr_tr a4 h i4), hs, (fr_img b6 h2 (fr_img a6 h i6)).mono hnm⟩
theorem gather_at (S : HSt) (o : Nat) : gI (f_X1_gather S o) o 0 = 20 ∧ gI (f_X1_gather S o) o 1 = 0 ∧ gI (f_X1_gather S o) o 2 = 0 ∧ gI (f_X1_gather S o) o 3 = gI S o 3 / 2 ∧ gI (f_X1_gather S o) o 4 = gI S o 4 + 1 ∧ gI (f_X1_gather S o) o 5 = -1000000 ∧ gI (f_X1_gather S o) o 6 = 0 := by
  unfold f_X1_gather f_X1_fallToHand
  simp only [bd_def, gI_sI, if_true, if_false, reduceIte, Nat.reduceEqDiff, and_self]
theorem fall_at (S : HSt) (o : Nat) : gI (f_X1_fallToHand S o) o 0 = 20 ∧ gI (f_X1_fallToHand S o) o 1 = 0 ∧ gI (f_X1_fallToHand S o) o 2 = 0 ∧ gI (f_X1_fallToHand S o) o 3 = gI S o 3 ∧ gI (f_X1_fallToHand S o) o 4 = gI S o 4 + 1 ∧ gI (f_X1_fallToHand S o) o 5 = -1000000 ∧ gI (f_X1_fallToHand S o) o 6 = 0 := by
  unfold f_X1_fallToHand
  simp only [bd_def, gI_sI, if_true, if_false, reduceIte, Nat.reduceEqDiff, and_self]
theorem begin_at (S : HSt) (o : Nat) : gI (f_X1_begin S o) o 0 = 20 ∧ gI (f_X1_begin S o) o 1 = 0 ∧ gI (f_X1_begin S o) o 2 = 0 ∧ gI (f_X1_begin S o) o 3 = 0 ∧ gI (f_X1_begin S o) o 4 = 0 ∧ gI (f_X1_begin S o) o 5 = -1000000 ∧ gI (f_X1_begin S o) o 6 = 0 := by
  unfold f_X1_begin f_X1_fallToHand
  simp only [bd_def, gI_sI, if_true, if_false, reduceIte, Nat.reduceEqDiff, and_self]
theorem close_at (T : HSt) : WL (f_X12_doClose T 64) 0 = 20 ∧ WL (f_X12_doClose T 64) 1 = 0 ∧ WL (f_X12_doClose T 64) 2 = 0 ∧ WL (f_X12_doClose T 64) 3 = gI T 64 23 / 2 ∧ WL (f_X12_doClose T 64) 4 = gI T 64 24 + 1 ∧ WL (f_X12_doClose T 64) 5 = 0 ∧ WL (f_X12_doClose T 64) 6 = -1000000 := by
  unfold WL f_X12_doClose f_X12_shut
  simp only [bd_def, gI_sI, if_true, if_false, reduceIte, Nat.reduceEqDiff, Nat.reduceAdd, and_self]
theorem shut_at (T : HSt) : WL (f_X12_shut T 64) 0 = 20 ∧ WL (f_X12_shut T 64) 1 = 0 ∧ WL (f_X12_shut T 64) 2 = 0 ∧ WL (f_X12_shut T 64) 3 = gI T 64 23 ∧ WL (f_X12_shut T 64) 4 = gI T 64 24 + 1 ∧ WL (f_X12_shut T 64) 5 = 0 ∧ WL (f_X12_shut T 64) 6 = -1000000 := by
  unfold WL f_X12_shut
  simp only [bd_def, gI_sI, if_true, if_false, reduceIte, Nat.reduceEqDiff, Nat.reduceAdd, and_self]
theorem first_at (T : HSt) : WL (f_X12_first T 64) 0 = 20 ∧ WL (f_X12_first T 64) 1 = 0 ∧ WL (f_X12_first T 64) 2 = 0 ∧ WL (f_X12_first T 64) 3 = 0 ∧ WL (f_X12_first T 64) 4 = 0 ∧ WL (f_X12_first T 64) 5 = 0 ∧ WL (f_X12_first T 64) 6 = -1000000 := by
  unfold WL f_X12_first
  simp only [bd_def, gI_sI, if_true, if_false, reduceIte, Nat.reduceEqDiff, Nat.reduceAdd, and_self]
/-- a loop fresh from the hand -/
theorem fresh_B {n : Nat} {len stiff : Int32} {L : Nat → Int32} (hl : bw len 40 400) (hs : bw stiff 0 9) (h0 : L 0 = 20) (h1 : L 1 = 0) (h2 : L 2 = 0) (h3 : bw (L 3) 0 (15 * n)) (h4 : bw (L 4) 0 n) (h5 : L 5 = 0) : LoopB n len stiff L := by
  obtain ⟨l1, l2⟩ := hl
  obtain ⟨s1, s2⟩ := hs
  refine ⟨?_, ?_, ?_, h3, h4, ?_, ?_⟩
  · rw [h0, show (20 : Int32).toInt = 20 from rfl]; omega
  · rw [h1]; exact ⟨by decide, by decide⟩
  · rw [h2]; exact ⟨by decide, by decide⟩
  · rw [h5]; exact Or.inl rfl
  · rw [h5, h2, ti0]
    exact ⟨fun q => absurd q (by decide), fun q => by omega⟩
/-- the rope in hand, when a way is there -/
theorem len40 {n : Nat} {S : HSt} (hI : Inv0 n S) (ht : ¬ gI S 64 7 = 0) : bw (gI S 18 4) 40 400 ∧ bw (gI S 18 5) 0 9 := by
  obtain ⟨⟨-, hB, ⟨hr, -, h4, h5, -⟩, -⟩, -, hbz, hH, -⟩ := hI.2.2.2.2.1
  have h1 : gI S 64 7 = 1 := by rcases hbz with q | q; exact absurd q ht; exact q
  obtain ⟨r, hr2, e⟩ := nI_of_bw (n := 3) hr.1 (by have := hr.2; omega) (by omega)
  have hb := hB.2.1 r hr2
  have hlt := (hH h1).1
  rw [e, nI_ti (by omega)] at hlt
  rw [h4, h5, e, nI_clamp' (by omega)]
  exact ⟨⟨hb.2.2.2 hlt, hb.1.2⟩, hb.2.1⟩
theorem half_ti {x : Int32} (h : 0 ≤ x.toInt) : (x / (2 : Int32)).toInt = x.toInt / 2 := by
  rw [ti_div (by decide), show (2 : Int32).toInt = 2 from rfl, Int.tdiv_eq_ediv_of_nonneg h]
theorem k_close : K_close Inv0 := by
  intro n S hn hI
  have f1 := v_X11_close S 0
  have f2 := v_X12_close (f_X11_close S 0).2 64
  obtain ⟨hR, hth, hbz, -⟩ := hI.2.2.2.2.1
  have g68 : gI (f_X11_close S 0).2 68 = gI S 68 := fr_addr f1 68 (by decide)
  have g71 : gI (f_X11_close S 0).2 71 = gI S 71 := fr_addr f1 71 (by decide)
  have g64 : gI (f_X11_close S 0).2 64 = gI S 64 := fr_addr f1 64 (by decide)
  have key : p_X12_close (f_X11_close S 0).2 64 ∧ (f_X11_close S 0).1 = (f_X12_close (f_X11_close S 0).2 64).1 ∧ LoopR (gI (f_X12_close (f_X11_close S 0).2 64).2 22) (gI (f_X12_close (f_X11_close S 0).2 64).2 71) ∧ LoopB (n + 1) (gI S 18 4) (gI S 18 5) (gI (f_X12_close (f_X11_close S 0).2 64).2 71) := by
    have h22 : gI (f_X12_close (f_X11_close S 0).2 64).2 22 = gI (f_X11_close S 0).2 22 := fr_addr f2 22 (by decide)
    rw [h22]
    generalize hU : (f_X11_close S 0).2 = U at g68 g71 g64
    have hU22 : gI U 22 = gI (f_X11_close S 0).2 22 := by rw [hU]
    obtain ⟨hP, hL, hB, -, hl⟩ := laid hI (U := sI U 64 0 0) g68 g71 (by rw [← g64]; rfl)
    have hB0 : LoopB (n + 1) (gI S 18 4) (gI S 18 5) (gI S 71) := (hB.cg (fun j hj => (hl j hj).symm)).mono (Nat.le_succ n)
    have hL0 : LoopR (gI S 22) (gI S 71) := hR.2.2.2.1
    generalize hT2 : f_X12_layLive (sI U 64 0 0) 64 = T2 at hP hL hB hl
    obtain ⟨d0, d1, d2, d3, d4, d5, d6⟩ := close_at T2
    obtain ⟨e0, e1, e2, e3, e4, e5, e6⟩ := gather_at S 22
    have l3 : gI S 22 3 = gI T2 64 23 := hL.2.2.2.1
    have l4 : gI S 22 4 = gI T2 64 24 := hL.2.2.2.2.1
    obtain ⟨-, kp⟩ := keep_at (f_X12_doClose T2 64) (Or.inl d5)
    refine ⟨?_, ?_⟩
    · intro S1 s1 _ r3 e3 r4 e4
      rw [← s1, hT2] at e3
      rw [← e4, ← e3]
      exact (keep_at _ (Or.inl d5)).1
    · unfold f_X12_close
      unfold f_X11_close at hU22 ⊢
      simp only [bd_def] at hU22 ⊢
      rw [hT2, show gI (sI U 64 0 0) 64 7 = gI S 64 7 by rw [← g64]; rfl]
      rw [hth] at hU22 ⊢
      by_cases c : gI S 64 7 = 0
      · rw [if_pos c] at hU22 ⊢
        rw [if_pos c, hU22]
        exact ⟨rfl, by show LoopR (gI S 22) (gI U 71); rw [g71]; exact hL0, by show LoopB _ _ _ (gI U 71); rw [g71]; exact hB0⟩
      · rw [if_neg c] at hU22 ⊢
        rw [if_neg c]
        rw [pr_1, pr_1, pr_2]
        rw [pr_2] at hU22
        have fk := v_X12_keepLive (f_X12_doClose T2 64) 64
        refine ⟨?_, ?_, ?_⟩
        · rw [fk 64 24 (by decide) (by decide)]
          refine congrArg Int32.toInt64 ?_
          rw [e4, l4]
          exact d4.symm
        · rw [hU22]
          refine LoopR.cg kp ⟨?_, ?_, ?_, ?_, ?_, ?_, ?_⟩
          · rw [e0, d0]
          · rw [e1, d1]
          · rw [e2, d2]
          · rw [e3, d3, l3]
          · rw [e4, d4, l4]
          · rw [e5, d6]
          · rw [e6, d5]
        · obtain ⟨q1, q2⟩ := len40 hI c
          have z4 : bw (gI T2 64 23) 0 (15 * n) := hB.2.2.2.1
          have z5 : bw (gI T2 64 24) 0 n := hB.2.2.2.2.1
          refine LoopB.cg kp (fresh_B q1 q2 d0 d1 d2 ?_ ?_ d5)
          · rw [d3]
            obtain ⟨g1, g2⟩ := z4
            unfold bw
            rw [half_ti g1]
            omega
          · rw [d4]
            obtain ⟨g1, g2⟩ := z5
            unfold bw
            rw [ti_add (by rw [ti1]; omega) (by rw [ti1]; omega), ti1]
            omega
  exact ⟨key.1, key.2.1, inv_loop (Nat.le_succ n) f1 f2 (by decide) (by decide) key.2.2.1 key.2.2.2 hI⟩
