-- needs: 25.tick2
/-! ===== the live loop: laid out, kept ===== -/
theorem lay_at (T : HSt) (h5 : Bz (gI T 71 5)) : ∀ j, j < 7 → WL (f_X12_layLive T 64) j = gI T 71 j := by
  intro j hj
  have hc : j = 0 ∨ j = 1 ∨ j = 2 ∨ j = 3 ∨ j = 4 ∨ j = 5 ∨ j = 6 := by omega
  unfold WL f_X12_layLive
  have e0 : (0 : Int32).toNatClampNeg = 0 := rfl
  have e1 : (1 : Int32).toNatClampNeg = 1 := rfl
  have e2 : (2 : Int32).toNatClampNeg = 2 := rfl
  have e3 : (3 : Int32).toNatClampNeg = 3 := rfl
  have e4 : (4 : Int32).toNatClampNeg = 4 := rfl
  have e5 : (5 : Int32).toNatClampNeg = 5 := rfl
  have e6 : (6 : Int32).toNatClampNeg = 6 := rfl
  rcases hc with rfl | rfl | rfl | rfl | rfl | rfl | rfl <;> simp only [bd_def, e0, e1, e2, e3, e4, e5, e6, gI_sI, if_true, if_false, reduceIte, Nat.reduceEqDiff, Nat.reduceAdd]
  rcases h5 with q | q <;> rw [q] <;> decide
theorem of_at (T : HSt) (h5 : Bz (gI T 64 25)) : ∀ j, j < 7 → f_X12_of T 64 (nI j) = WL T j := by
  intro j hj
  have hc : j = 0 ∨ j = 1 ∨ j = 2 ∨ j = 3 ∨ j = 4 ∨ j = 5 ∨ j = 6 := by omega
  show (F_X12_of T 64 (nI j)).1 = _
  unfold WL F_X12_of
  rcases hc with rfl | rfl | rfl | rfl | rfl | rfl | rfl
  · rw [if_pos (by decide)]; rfl
  · rw [if_neg (by decide), if_pos (by decide)]; rfl
  · rw [if_neg (by decide), if_neg (by decide), if_pos (by decide)]; rfl
  · rw [if_neg (by decide), if_neg (by decide), if_neg (by decide), if_pos (by decide)]; rfl
  · rw [if_neg (by decide), if_neg (by decide), if_neg (by decide), if_neg (by decide), if_pos (by decide)]; rfl
  · rw [if_neg (by decide), if_neg (by decide), if_neg (by decide), if_neg (by decide), if_neg (by decide), if_pos (by decide), bd_def]
    show (if gI T 64 25 = 0 then (0 : Int32) else 1) = gI T 64 25
    rcases h5 with q | q <;> rw [q] <;> decide
  · rw [if_neg (by decide), if_neg (by decide), if_neg (by decide), if_neg (by decide), if_neg (by decide), if_neg (by decide)]; rfl
theorem of_s (T : HSt) (i : Nat) (v x : Int32) : f_X12_of (sI T 71 i v) 64 x = f_X12_of T 64 x := by
  have e : ∀ j, gI (sI T 71 i v) 64 j = gI T 64 j := fun j => by rw [gI_sI, if_neg (by decide)]
  show (F_X12_of (sI T 71 i v) 64 x).1 = (F_X12_of T 64 x).1
  unfold F_X12_of
  simp only [e, bd_def]
  repeat' split
  all_goals rfl
theorem keep_L : ∀ (n : Nat) (T : HSt) (k : Nat), k ≤ 7 → 7 - k < n → T_X12_keepLive_2 n T (nI k) ∧ ∀ j, j < 7 → gI (L_X12_keepLive_2 n T (nI k)).2 71 j = if k ≤ j then f_X12_of T 64 (nI j) else gI T 71 j := by
  intro n
  induction n with
  | zero => intro T k _ h; omega
  | succ n ih =>
    intro T k hk hn
    unfold T_X12_keepLive_2 L_X12_keepLive_2
    by_cases h7 : k = 7
    · subst h7
      refine ⟨⟨fun q => absurd (nI_le (a := 7) (b := 7) (by omega) (by omega)) q, fun q => absurd (nI_le (a := 7) (b := 7) (by omega) (by omega)) q⟩, fun j hj => ?_⟩
      rw [if_pos (show (7 : Int32) ≤ nI 7 from nI_le (a := 7) (b := 7) (by omega) (by omega)), if_neg (by omega)]
      rfl
    · have hlt : ¬ (7 : Int32) ≤ nI k := nI_ge (a := k) (b := 7) (by omega) (by omega)
      obtain ⟨t1, t2⟩ := ih (sI T 71 k (f_X12_of T 64 (nI k))) (k + 1) (by omega) (by omega)
      refine ⟨⟨fun _ => vp_in_nI (by omega) (by omega), fun _ S1 e1 => ?_⟩, fun j hj => ?_⟩
      · rw [← e1, nI_clamp' (by omega), ← nI_succ]
        exact t1
      · rw [if_neg hlt, bd_def, nI_clamp' (by omega), ← nI_succ, t2 j hj, of_s]
        by_cases hkj : k ≤ j
        · rw [if_pos hkj]
          by_cases hkj2 : k + 1 ≤ j
          · rw [if_pos hkj2]
          · rw [if_neg hkj2, gI_sI, if_pos rfl, if_pos (by omega), show j = k by omega]
        · rw [if_neg hkj, if_neg (by omega), gI_sI, if_pos rfl, if_neg (by omega)]
theorem keep_at (T : HSt) (h5 : Bz (gI T 64 25)) : p_X12_keepLive T 64 ∧ ∀ j, j < 7 → gI (f_X12_keepLive T 64) 71 j = WL T j := by
  obtain ⟨t1, t2⟩ := keep_L 1000 T 0 (by omega) (by omega)
  refine ⟨t1, fun j hj => ?_⟩
  show gI (L_X12_keepLive_2 1000 T (0 : Int32)).2 71 j = _
  rw [show (0 : Int32) = nI 0 from rfl, t2 j hj, if_pos (Nat.zero_le _), of_at T h5 j hj]
theorem LoopR.cg {O L L' : Nat → Int32} (h : ∀ j, j < 7 → L' j = L j) (hR : LoopR O L) : LoopR O L' := by
  unfold LoopR
  rw [h 0 (by decide), h 1 (by decide), h 2 (by decide), h 3 (by decide), h 4 (by decide), h 5 (by decide), h 6 (by decide)]
  exact hR
theorem LoopB.cg {n : Nat} {a b : Int32} {L L' : Nat → Int32} (h : ∀ j, j < 7 → L' j = L j) (hR : LoopB n a b L) : LoopB n a b L' := by
  unfold LoopB
  rw [h 0 (by decide), h 1 (by decide), h 2 (by decide), h 3 (by decide), h 4 (by decide), h 5 (by decide)]
  exact hR
/-- only the live loop changes -/
theorem inv_loop {n m : Nat} {W W2 : List (Nat × Nat)} {S S1 T : HSt} (hnm : n ≤ m) (h : Fr W S S1) (h2 : Fr W2 S1 T)
    (c1 : (W.all (fun q => !((decide (3 ≤ q.1) && decide (q.1 ≤ 12)) || (decide (65 ≤ q.1) && decide (q.1 ≤ 67)))) && W.all (fun q => !(decide (q.1 = 14) || decide (q.1 = 70) || decide (q = (13, 2)) || decide (q = (13, 1000)) || decide (q = (64, 9)) || decide (q = (64, 1000)))) && W.all (fun q => !(decide (q = (0, 10)) || decide (q = (0, 1000)) || decide (q = (13, 7)) || decide (q = (13, 1000)) || decide (q = (64, 1)) || decide (q = (64, 10)) || decide (q = (64, 1000)))) && W.all (fun q => !(decide (q.1 = 62) || decide (q.1 = 63) || decide (q.1 = 87) || decide (q = (64, 51)) || decide (q = (64, 1000)))) && W.all (fun q => !(decide (q.1 = 18) || decide (q.1 = 20) || decide (q.1 = 21) || decide (q.1 = 68) || decide (q = (64, 7)) || decide (q = (64, 18)) || decide (q = (64, 19)) || decide (q = (64, 1000)))) && W.all (fun q => !((decide (24 ≤ q.1) && decide (q.1 ≤ 33)) || (decide (82 ≤ q.1) && decide (q.1 ≤ 86)) || decide (q = (64, 7)) || decide (q = (64, 1000))))) = true)
    (c2 : (W2.all (fun q => !((decide (3 ≤ q.1) && decide (q.1 ≤ 12)) || (decide (65 ≤ q.1) && decide (q.1 ≤ 67)))) && W2.all (fun q => !(decide (q.1 = 14) || decide (q.1 = 70) || decide (q = (13, 2)) || decide (q = (13, 1000)) || decide (q = (64, 9)) || decide (q = (64, 1000)))) && W2.all (fun q => !(decide (q = (0, 10)) || decide (q = (0, 1000)) || decide (q = (13, 7)) || decide (q = (13, 1000)) || decide (q = (64, 1)) || decide (q = (64, 10)) || decide (q = (64, 1000)))) && W2.all (fun q => !(decide (q.1 = 62) || decide (q.1 = 63) || decide (q.1 = 87) || decide (q = (64, 51)) || decide (q = (64, 1000)))) && W2.all (fun q => !(decide (q.1 = 18) || decide (q.1 = 20) || decide (q.1 = 21) || decide (q.1 = 68) || decide (q = (64, 7)) || decide (q = (64, 18)) || decide (q = (64, 19)) || decide (q = (64, 1000)))) && W2.all (fun q => !((decide (24 ≤ q.1) && decide (q.1 ≤ 33)) || (decide (82 ≤ q.1) && decide (q.1 ≤ 86)) || decide (q = (64, 7)) || decide (q = (64, 1000))))) = true)
    (hl : LoopR (gI T 22) (gI T 71)) (hb : LoopB m (gI S 18 4) (gI S 18 5) (gI T 71)) (hI : Inv0 n S) : Inv0 m T := by
  simp only [Bool.and_eq_true] at c1 c2
  obtain ⟨⟨⟨⟨⟨a1, a2⟩, a3⟩, a4⟩, a5⟩, a6⟩ := c1
  obtain ⟨⟨⟨⟨⟨b1, b2⟩, b3⟩, b4⟩, b5⟩, b6⟩ := c2
  obtain ⟨i1, i2, i3, i4, i5, i6⟩ := hI
  refine ⟨fr_row b1 h2 (fr_row a1 h i1), fr_tape b2 h2 (fr_tape a2 h i2), fr_stat b3 h2 (fr_stat a3 h i3), fr_tr b4 h2 (fr_tr a4 h i4), ?_, (fr_img b6 h2 (fr_img a6 h i6)).mono hnm⟩
  have wa := List.all_eq_true.mp a5
  have wb := List.all_eq_true.mp b5
  have g : ∀ a, a = 18 ∨ a = 20 ∨ a = 21 ∨ a = 68 → gI T a = gI S a := fun a ha => by
    rw [fr_addr h2 a (fun q hq e => by have := wb _ hq; rw [← e] at ha; simp at this; omega), fr_addr h a (fun q hq e => by have := wa _ hq; rw [← e] at ha; simp at this; omega)]
  have f : ∀ j, j = 7 ∨ j = 18 ∨ j = 19 → gI T 64 j = gI S 64 j := fun j hj => by
    rw [h2 64 j (fun q => by have := wb _ q; simp at this; omega) (fun q => by have := wb _ q; simp at this), h 64 j (fun q => by have := wa _ q; simp at this; omega) (fun q => by have := wa _ q; simp at this)]
  obtain ⟨⟨hW, hB, hH, -, -⟩, j2, j3, j4, j5⟩ := i5
  refine ⟨⟨?_, ?_, ?_, hl, ?_⟩, ?_, ?_, ?_, ?_⟩
  · show WayR (gI T 20) (gI T 21) (gI T 68)
    rw [g 20 (by omega), g 21 (by omega), g 68 (by omega)]; exact hW
  · rw [g 68 (by omega)]; exact hB
  · rw [g 18 (by omega), g 68 (by omega), f 18 (by omega), f 19 (by omega)]; exact hH
  · rw [g 68 (by omega), f 18 (by omega), ← hH.2.2.1, ← hH.2.2.2.1]; exact hb
  · rw [g 18 (by omega), f 7 (by omega)]; exact j2
  · rw [f 7 (by omega)]; exact j3
  · rw [f 7 (by omega), g 68 (by omega), f 18 (by omega), f 19 (by omega)]; exact j4
  · rw [f 7 (by omega), g 68 (by omega)]; exact j5
