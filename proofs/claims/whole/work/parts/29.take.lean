-- needs: 28.close
theorem val_s (S : HSt) {o a : Nat} (h : ¬ o + 2 = a) (j : Nat) (v x y z : Int32) : f_X10_value (sI S a j v) o x y z = f_X10_value S o x y z := by
  have e : ∀ i, gI (sI S a j v) (o + 2) i = gI S (o + 2) i := fun i => by rw [gI_sI, if_neg h]
  show (F_X10_value (sI S a j v) o x y z).1 = (F_X10_value S o x y z).1
  unfold F_X10_value
  simp only [e]
  repeat' split
  all_goals rfl
/-- what is taken up: the scene's numbers -/
theorem takeUp_at (S : HSt) (a b : Int32) : gI (f_X7_takeUp S 18 a b) 18 4 = f_X10_value S 19 0 a 0 ∧ gI (f_X7_takeUp S 18 a b) 18 5 = f_X10_value S 19 0 a 1 ∧ gI (f_X7_takeUp S 18 a b) 18 6 = f_X10_value S 19 0 a 2 ∧ gI (f_X7_takeUp S 18 a b) 18 7 = f_X10_value S 19 1 b 0 ∧ gI (f_X7_takeUp S 18 a b) 18 8 = f_X10_value S 19 1 b 1 ∧ gI (f_X7_takeUp S 18 a b) 18 9 = f_X10_value S 19 1 b 2 ∧ gI (f_X7_takeUp S 18 a b) 18 2 = gI S 18 2 := by
  unfold f_X7_takeUp f_X1_begin f_X1_fallToHand
  have h : ¬ (18 + 1) + 2 = 18 := by decide
  simp only [bd_def, gI_sI, val_s _ h, Nat.reduceAdd, if_true, if_false, reduceIte, Nat.reduceEqDiff, and_self]
theorem takeUp_loop (S : HSt) (a b : Int32) : gI (f_X7_takeUp S 18 a b) 22 0 = 20 ∧ gI (f_X7_takeUp S 18 a b) 22 1 = 0 ∧ gI (f_X7_takeUp S 18 a b) 22 2 = 0 ∧ gI (f_X7_takeUp S 18 a b) 22 3 = 0 ∧ gI (f_X7_takeUp S 18 a b) 22 4 = 0 ∧ gI (f_X7_takeUp S 18 a b) 22 5 = -1000000 ∧ gI (f_X7_takeUp S 18 a b) 22 6 = 0 := by
  unfold f_X7_takeUp f_X1_begin f_X1_fallToHand
  simp only [bd_def, gI_sI, Nat.reduceAdd, if_true, if_false, reduceIte, Nat.reduceEqDiff, and_self]
theorem p_takeUp (S : HSt) (o : Nat) (a b : Int32) : p_X7_takeUp S o a b := ⟨p_val _ _ _ _ _, fun _ _ => p_val _ _ _ _ _, fun _ _ _ _ => p_val _ _ _ _ _, fun _ _ _ _ _ _ => p_val _ _ _ _ _, fun _ _ _ _ _ _ _ _ => p_val _ _ _ _ _, fun _ _ _ _ _ _ _ _ _ _ => p_val _ _ _ _ _⟩
/-- the new scene is the model's, when rope a and horse b are taken up -/
theorem take_R {n : Nat} {S T : HSt} {W : Nat → Int32} {C V O : Nat → Int32} {a b : Int32} (hW : WayR C V W) (hB : WayB W) (ha : 0 ≤ a.toInt ∧ a.toInt < (W 0).toInt) (hb : b = -1000000 ∨ (0 ≤ b.toInt ∧ b.toInt < (W 1).toInt)) (hV : gI S 21 = V) (hO : O 4 = f_X10_value S 19 0 a 0 ∧ O 5 = f_X10_value S 19 0 a 1 ∧ O 6 = f_X10_value S 19 0 a 2 ∧ O 7 = f_X10_value S 19 1 b 0 ∧ O 8 = f_X10_value S 19 1 b 1 ∧ O 9 = f_X10_value S 19 1 b 2) : HeldR O W a b ∧ HeldB W a b ∧ bw (W (6 + 3 * a.toNatClampNeg)) 40 400 ∧ bw (W (6 + 3 * a.toNatClampNeg + 1)) 0 9 := by
  obtain ⟨o4, o5, o6, o7, o8, o9⟩ := hO
  have hw0 := hB.1.1
  have hw1 := hB.1.2.1
  obtain ⟨r, hr, rfl⟩ := nI_of_bw (n := 3) ha.1 (by have := hw0.2; omega) (by omega)
  have hrt : ((r : Nat) : Int) < (W 0).toInt := by have := ha.2; rw [nI_ti (by omega)] at this; exact this
  have hrb := hB.2.1 r hr
  rw [nI_clamp' (by omega)]
  have v0 : ∀ f, f < 3 → f_X10_value S 19 (0 : Int32) (nI r) (nI f) = W (6 + 3 * r + f) := fun f hf => by
    have := val_at S 19 (s := 0) (i := r) (f := f) (by decide) hr (by omega)
    rw [show (0 : Int32) = nI 0 from rfl, this, show gI S (19 + 2) = V from hV]
    exact hW.2.1 r f hr hf
  refine ⟨⟨⟨by rw [nI_ti (by omega)]; omega, by rw [nI_ti (by omega)]; omega⟩, ?_, ?_, ?_, ?_, ?_, ?_⟩, ⟨by rw [nI_ti (by omega)]; exact hrt, ?_⟩, ⟨hrb.2.2.2 hrt, hrb.1.2⟩, hrb.2.1⟩
  · rcases hb with q | q
    · exact Or.inl q
    · exact Or.inr ⟨q.1, by have := hw1.2; omega⟩
  · rw [o4, nI_clamp' (by omega)]; exact v0 0 (by decide)
  · rw [o5, nI_clamp' (by omega)]; exact v0 1 (by decide)
  · rw [o6, nI_clamp' (by omega)]; exact v0 2 (by decide)
  · intro q
    have hn : b.toInt < 0 ∨ (rom_ 1 : Int) ≤ b.toInt := Or.inl (by rw [q]; decide)
    rw [o7, o8, o9]
    exact ⟨val_out S 19 (s := 1) (by decide) hn, val_out S 19 (s := 1) (by decide) hn, val_out S 19 (s := 1) (by decide) hn⟩
  · intro q
    rcases hb with z | z
    · exact absurd z q
    · obtain ⟨h, hh, rfl⟩ := nI_of_bw (n := 3) z.1 (by have := hw1.2; omega) (by omega)
      have v1 : ∀ f, f < 3 → f_X10_value S 19 (1 : Int32) (nI h) (nI f) = W (15 + 3 * h + f) := fun f hf => by
        have := val_at S 19 (s := 1) (i := h) (f := f) (by decide) hh (by omega)
        rw [show (1 : Int32) = nI 1 from rfl, this, show gI S (19 + 2) = V from hV]
        exact hW.2.2.1 h f hh hf
      rw [o7, o8, o9, nI_clamp' (by omega)]
      exact ⟨v1 0 (by decide), v1 1 (by decide), v1 2 (by decide)⟩
  · intro q
    rcases hb with z | z
    · exact absurd z q
    · exact z.2
theorem in_lt (T : HSt) {w a : Int32} (hw : bw w 0 20) : f_X12_in T a.toInt64 (0 : Int64) (w - (1 : Int32)).toInt64 = 0 ↔ ¬ (0 ≤ a.toInt ∧ a.toInt < w.toInt) := by
  obtain ⟨h1, h2⟩ := hw
  have hs : (w - (1 : Int32)).toInt = w.toInt - 1 := ti_sub (by rw [ti1]; omega) (by rw [ti1]; omega)
  rw [show (0 : Int64) = (0 : Int32).toInt64 from rfl, in_within T T, within_iff, hs, ti0]
  omega
theorem k_take : K_take Inv0 := by
  intro n S a b hn hI
  have f1 := v_X11_take S 0 a b
  have f2 := v_X12_take (f_X11_take S 0 a b).2 64 a b
  obtain ⟨⟨hW, hB, hH, hL, hLB⟩, hth, hbz, hH1, hH0⟩ := hI.2.2.2.2.1
  have hw0 : bw (gI S 68 0) 0 20 := ⟨hB.1.1.1, by have := hB.1.1.2; omega⟩
  have hw1 : bw (gI S 68 1) 0 20 := ⟨hB.1.2.1.1, by have := hB.1.2.1.2; omega⟩
  have hc0 : f_X10_has S 19 (0 : Int32) a = 0 ↔ ¬ (0 ≤ a.toInt ∧ a.toInt < (gI S 68 0).toInt) := by
    rw [← show gI S 20 0 = gI S 68 0 from hW.1 0 (by decide)]
    exact has_iff S 19 (s := 0) (by decide) a
  have hc1 : f_X10_has S 19 (1 : Int32) b = 0 ↔ ¬ (0 ≤ b.toInt ∧ b.toInt < (gI S 68 1).toInt) := by
    rw [← show gI S 20 1 = gI S 68 1 from hW.1 1 (by decide)]
    exact has_iff S 19 (s := 1) (by decide) b
  have g68 : gI (f_X11_take S 0 a b).2 68 = gI S 68 := fr_addr f1 68 (by decide)
  have g71 : gI (f_X11_take S 0 a b).2 71 = gI S 71 := fr_addr f1 71 (by decide)
  have g64 : gI (f_X11_take S 0 a b).2 64 = gI S 64 := fr_addr f1 64 (by decide)
  have g20 : gI (f_X11_take S 0 a b).2 20 = gI S 20 := fr_addr f1 20 (by decide)
  have g21 : gI (f_X11_take S 0 a b).2 21 = gI S 21 := fr_addr f1 21 (by decide)
  have hpk : ∀ r, p_X12_keepLive (f_X12_first r 64) 64 := fun r => (keep_at _ (Or.inl (first_at r).2.2.2.2.2.1)).1
  have keyT : ∀ U : HSt, gI U 68 = gI S 68 → gI U 64 = gI S 64 → (0 ≤ a.toInt ∧ a.toInt < (gI S 68 0).toInt) → (b = -1000000 ∨ (0 ≤ b.toInt ∧ b.toInt < (gI S 68 1).toInt)) → gI U 20 = gI S 20 → gI U 21 = gI S 21 → gI U 18 = gI (f_X7_takeUp S 18 a b) 18 → gI U 22 = gI (f_X7_takeUp S 18 a b) 22 → IScn (n + 1) (f_X12_keepLive (f_X12_first (sI (sI (sI U 64 0 0) 64 18 a) 64 19 b) 64) 64) := by
    intro U u68 u64 ha hb u20 u21 u18 u22
    obtain ⟨t4, t5, t6, t7, t8, t9, t2⟩ := takeUp_at S a b
    obtain ⟨l0, l1, l2, l3, l4, l5, l6⟩ := takeUp_loop S a b
    obtain ⟨q1, q2, q3, q4⟩ := take_R (n := n) (T := U) (S := S) (O := gI (f_X7_takeUp S 18 a b) 18) hW hB ha hb rfl ⟨t4, t5, t6, t7, t8, t9⟩
    obtain ⟨d0, d1, d2, d3, d4, d5, d6⟩ := first_at (sI (sI (sI U 64 0 0) 64 18 a) 64 19 b)
    have fk := v_X12_keepLive (f_X12_first (sI (sI (sI U 64 0 0) 64 18 a) 64 19 b) 64) 64
    have ff := v_X12_first (sI (sI (sI U 64 0 0) 64 18 a) 64 19 b) 64
    obtain ⟨-, kp⟩ := keep_at (f_X12_first (sI (sI (sI U 64 0 0) 64 18 a) 64 19 b) 64) (Or.inl d5)
    generalize f_X12_first (sI (sI (sI U 64 0 0) 64 18 a) 64 19 b) 64 = F at *
    generalize f_X12_keepLive F 64 = T at *
    have r : ∀ x, ¬ x = 64 → ¬ x = 71 → gI T x = gI U x := fun x h1 h2 => by
      rw [fr_addr fk x (by intro q hq; simp at hq; rw [hq]; exact fun z => h2 z.symm), fr_addr ff x (fun q hq z => h1 (z ▸ (show ∀ q ∈ ([(64, 20), (64, 21), (64, 22), (64, 23), (64, 24), (64, 25), (64, 26)] : List (Nat × Nat)), q.1 = 64 by decide) q hq))]
      funext j
      rw [gI_sI, if_neg h1, gI_sI, if_neg h1, gI_sI, if_neg h1]
    have k18 : gI T 64 18 = a := by
      rw [fk 64 18 (by decide) (by decide), ff 64 18 (by decide) (by decide)]
      simp only [gI_sI, if_true, if_false, reduceIte, Nat.reduceEqDiff]
    have k19 : gI T 64 19 = b := by
      rw [fk 64 19 (by decide) (by decide), ff 64 19 (by decide) (by decide)]
      simp only [gI_sI, if_true, if_false, reduceIte, Nat.reduceEqDiff]
    have k7 : gI T 64 7 = gI S 64 7 := by
      rw [fk 64 7 (by decide) (by decide), ff 64 7 (by decide) (by decide), ← u64]
      simp only [gI_sI, if_true, if_false, reduceIte, Nat.reduceEqDiff]
    refine ⟨⟨?_, ?_, ?_, ?_, ?_⟩, ?_, ?_, ?_, ?_⟩
    · show WayR (gI T 20) (gI T 21) (gI T 68)
      rw [r 20 (by decide) (by decide), r 21 (by decide) (by decide), r 68 (by decide) (by decide), u20, u21, u68]; exact hW
    · rw [r 68 (by decide) (by decide), u68]; exact hB
    · rw [r 18 (by decide) (by decide), r 68 (by decide) (by decide), u68, u18, k18, k19]; exact q1
    · show LoopR (gI T 22) (gI T 71)
      rw [r 22 (by decide) (by decide), u22]
      refine LoopR.cg kp ⟨?_, ?_, ?_, ?_, ?_, ?_, ?_⟩
      · rw [l0, d0]
      · rw [l1, d1]
      · rw [l2, d2]
      · rw [l3, d3]
      · rw [l4, d4]
      · rw [l5, d6]
      · rw [l6, d5]
    · rw [r 68 (by decide) (by decide), u68, k18]
      refine LoopB.cg kp (fresh_B q3 q4 d0 d1 d2 ?_ ?_ d5)
      · rw [d3]; exact ⟨by decide, by rw [ti0]; omega⟩
      · rw [d4]; exact ⟨by decide, by rw [ti0]; omega⟩
    · rw [r 18 (by decide) (by decide), u18, t2, k7]; exact hth
    · rw [k7]; exact hbz
    · rw [r 68 (by decide) (by decide), u68, k18, k19]; exact fun _ => q2
    · rw [k7, r 68 (by decide) (by decide), u68]; exact hH0
  have key : (f_X11_take S 0 a b).1 = (f_X12_take (f_X11_take S 0 a b).2 64 a b).1 ∧ IScn (n + 1) (f_X12_take (f_X11_take S 0 a b).2 64 a b).2 := by
    have hbad : gI (f_X11_take S 0 a b).2 18 = gI S 18 → gI (f_X11_take S 0 a b).2 22 = gI S 22 → IScn (n + 1) (sI (f_X11_take S 0 a b).2 64 0 0) := fun u18 u22 => by
      refine IScn.mono (Nat.le_succ n) (hI.2.2.2.2.1.of (fun j _ _ _ => congrFun u18 j) g20 g21 u22 g68 g71 ?_ ?_ ?_)
      · rw [← g64]; rfl
      · rw [← g64]; rfl
      · rw [← g64]; rfl
    generalize hU : (f_X11_take S 0 a b).2 = U at g68 g71 g64 g20 g21 hbad
    have hU18 : gI U 18 = gI (f_X11_take S 0 a b).2 18 := by rw [hU]
    have hU22 : gI U 22 = gI (f_X11_take S 0 a b).2 22 := by rw [hU]
    have i0 := in_lt (sI U 64 0 0) (w := gI U 68 0) (a := a) (by rw [g68]; exact hw0)
    have i1 := in_lt (sI U 64 0 0) (w := gI U 68 1) (a := b) (by rw [g68]; exact hw1)
    unfold f_X12_take
    unfold f_X11_take at hU18 hU22 ⊢
    simp only [bd_def] at hU18 hU22 ⊢
    rw [show gI (sI U 64 0 0) 68 (0 : Int32).toNatClampNeg = gI U 68 0 from rfl, show gI (sI U 64 0 0) 68 (1 : Int32).toNatClampNeg = gI U 68 1 from rfl]
    by_cases c0 : 0 ≤ a.toInt ∧ a.toInt < (gI S 68 0).toInt
    · have d0 : ¬ f_X10_has S 19 (0 : Int32) a = 0 := fun q => hc0.mp q c0
      rw [if_neg d0] at hU18 hU22 ⊢
      rw [if_neg (fun q => i0.mp q (by rw [g68]; exact c0))]
      by_cases c1 : b = -1000000
      · rw [if_pos c1] at hU18 hU22 ⊢
        rw [if_pos c1]
        exact ⟨rfl, keyT U g68 g64 c0 (Or.inl c1) g20 g21 hU18 hU22⟩
      · rw [if_neg c1] at hU18 hU22 ⊢
        rw [if_neg c1]
        by_cases c2 : 0 ≤ b.toInt ∧ b.toInt < (gI S 68 1).toInt
        · have d1 : ¬ f_X10_has S 19 (1 : Int32) b = 0 := fun q => hc1.mp q c2
          rw [if_neg d1] at hU18 hU22 ⊢
          rw [if_neg (fun q => i1.mp q (by rw [g68]; exact c2))]
          exact ⟨rfl, keyT U g68 g64 c0 (Or.inr c2) g20 g21 hU18 hU22⟩
        · rw [if_pos (hc1.mpr c2)] at hU18 hU22 ⊢
          rw [if_pos (i1.mpr (by rw [g68]; exact c2))]
          exact ⟨rfl, hbad hU18 hU22⟩
    · rw [if_pos (hc0.mpr c0)] at hU18 hU22 ⊢
      rw [if_pos (i0.mpr (by rw [g68]; exact c0))]
      exact ⟨rfl, hbad hU18 hU22⟩
  refine ⟨⟨p_has S 19 _ _, fun _ _ => p_takeUp S 18 a b, fun _ _ => p_has S 19 _ _, fun _ _ _ => p_takeUp S 18 a b⟩, ⟨?_, ?_⟩, key.1, inv_scn (Nat.le_succ n) f1 f2 (by decide) (by decide) key.2 hI⟩
  · intro S1 _ _ _ S4 _ S5 _ r6 e6
    rw [← e6]; exact hpk _
  · intro S1 _ _ _ _ S9 _ S10 _ r11 e11
    rw [← e11]; exact hpk _
