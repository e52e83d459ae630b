-- needs: 75.begin
/-! ===== way ===== -/
/-- the class's heap behind the first token -/
noncomputable def cT (S : HSt) : HSt := f_X4_next (sI (f_X10_clear S 15) 13 5 0) 13
theorem way_text {n : Nat} {S T0 : HSt} (hS : CS S) (hI : Inv0 n S) (h70 : gI T0 70 = gI S 70) (h9 : gI T0 64 9 = gI S 64 9) : p_X4_next (sI (f_X10_clear S 15) 13 5 0) 13 ∧ p_X12_next (wA T0) 64 ∧ p_X12_word (f_X12_next (wA T0) 64) 64 ∧ p_X4_readText (cT S) 13 ∧ pMk 5 1000 (wM T0) ∧ (((f_X4_readText (cT S) 13).1 = 0 ∧ FE (f_X4_readText (cT S) 13).2 (Mk 5 1000 (wM T0))) ∨ ((f_X4_readText (cT S) 13).1 = 1 ∧ ∃ N, Gd N (gI S 13 7) (f_X4_readText (cT S) 13).2 (Mk 5 1000 (wM T0)))) := by
  obtain ⟨t1, ⟨t2, t3⟩, t4⟩ := hI.2.1
  obtain ⟨N, hN, eN⟩ := nI_of_bw t2 (n := 601) (by omega) (by omega)
  obtain ⟨-, c2, c3, c4⟩ := clear_at hS
  obtain ⟨m1, m2, m3, m4, m5, m6, m7⟩ := start_M T0
  have k14 : gI (sI (f_X10_clear S 15) 13 5 0) 14 = gI S 14 := by rw [gs_ne (show (14 : Nat) ≠ 13 by decide), c4 14 (by decide) (by decide)]
  have k70 : gI (wA T0) 70 = gI S 70 := by rw [m2 70 (by decide) (by decide), h70]
  have hT : TP N (sI (f_X10_clear S 15) 13 5 0) (wA T0) := by
    refine ⟨?_, ?_, by omega, fun k hk => ?_⟩
    · rw [gs_o (by decide), c4 13 (by decide) (by decide), t1, eN]
    · rw [m3, h9, eN]
    · rw [k14, k70]; exact t4 k hk
  obtain ⟨n1, n2, n3, n4⟩ := next_R hT (p := 0) (by rw [gs_eq, if_pos rfl]; rfl) (by rw [m4]; rfl) (by omega)
  have v16 : gI (cT S) 16 = gI (f_X10_clear S 15) 16 := by
    unfold cT
    rw [fr_addr (v_X4_next _ 13) 16 (by decide), gs_ne (show (16 : Nat) ≠ 13 by decide)]
  have v17 : gI (cT S) 17 = gI (f_X10_clear S 15) 17 := by
    unfold cT
    rw [fr_addr (v_X4_next _ 13) 17 (by decide), gs_ne (show (17 : Nat) ≠ 13 by decide)]
  have v69 : gI (f_X12_next (wA T0) 64) 69 = gI (wA T0) 69 := fr_addr (v_X12_next (wA T0) 64) 69 (by decide)
  have e16 : gI (f_X12_next (wA T0) 64) 64 16 = 0 := (v_X12_next (wA T0) 64 64 16 (by decide) (by decide)).trans m5
  have e7 : gI (cT S) 13 7 = gI S 13 7 := by
    unfold cT
    rw [next_7, gs_o (by decide), c4 13 (by decide) (by decide)]
  obtain ⟨w1, w2, w3⟩ := way0 (C := gI (cT S) 16) (V := gI (cT S) 17) (W := gI (f_X12_next (wA T0) 64) 69) (by rw [v16]; exact c2) (by rw [v17]; exact c3) (by rw [v69]; exact m1)
  have hG : GS N (cT S) (f_X12_next (wA T0) 64) := ⟨n3, n4, e16, w1, w2, w3⟩
  obtain ⟨r1, r2, r3, r4⟩ := text hG (fun x hx => by rw [v69, m1 x (by omega), if_neg (by omega), if_neg (by omega), if_neg (by omega)])
  rw [e7] at r4
  refine ⟨n1, n2, r2, r1, r3, ?_⟩
  rcases r4 with h | h
  · exact Or.inl h
  · exact Or.inr ⟨h.1, N, h.2⟩
theorem read_eq (S : HSt) : (f_X4_read S 13).1 = (f_X4_readText (cT S) 13).1 ∧ (f_X4_read S 13).2 = sI (f_X4_readText (cT S) 13).2 13 2 0 := by
  unfold f_X4_read cT
  simp only [bd_def]
  exact ⟨pr_1 _ _, pr_2 _ _⟩
theorem IImg.of7 {n : Nat} {S T : HSt} (h1 : ∀ a, 24 ≤ a → a ≤ 33 → gI T a = gI S a) (h2 : ∀ a, 82 ≤ a → a ≤ 86 → gI T a = gI S a) (h3 : gI S 64 7 = 1 → gI T 64 7 = 1) (hI : IImg n S) : IImg n T := by
  intro k hk
  obtain ⟨a1, a2, a3⟩ := hI k hk
  have e82 := h2 82 (by omega) (by omega)
  have e83 := h2 83 (by omega) (by omega)
  have e84 := h2 84 (by omega) (by omega)
  have e85 := h2 85 (by omega) (by omega)
  have e86 := h2 86 (by omega) (by omega)
  have hr : ∀ j, j ≤ 4 → gI T (24 + 5 * k + j) = gI S (24 + 5 * k + j) := fun j hj => h1 _ (by omega) (by omega)
  rw [h1 (24 + 5 * k) (by omega) (by omega), e82, e83, e84, e85, e86]
  refine ⟨a1, a2, fun q => ?_⟩
  obtain ⟨b1, b2, b3⟩ := a3 q
  refine ⟨h3 b1, ?_, b3⟩
  unfold SceneR at b2 ⊢
  rw [hr 2 (by omega), hr 3 (by omega), hr 4 (by omega), h1 (24 + 5 * k) (by omega) (by omega)]
  exact b2
/-- the rest of the invariant behind a way -/
theorem way_rest {n : Nat} {S T0 T : HSt} (hI : Inv0 n S) (f1 : Fr [(((18 + 1) + 1), 1000), (((18 + 1) + 2), 1000), (13, 2), (13, 3), (13, 4), (13, 5), (13, 6), (13, 7), (13, 8), (16, 1000), (17, 1000), (18, 2), (18, 3), (18, 4), (18, 5), (18, 6), (18, 7), (18, 8), (18, 9), (22, 0), (22, 1), (22, 2), (22, 3), (22, 4), (22, 5), (22, 6)] S T0) (f2 : Fr [(64, 0), (64, 10), (64, 11), (64, 12), (64, 13), (64, 14), (64, 15), (64, 16), (64, 17), (64, 18), (64, 19), (64, 20), (64, 21), (64, 22), (64, 23), (64, 24), (64, 25), (64, 26), (64, 7), (64, 9), (68, 1000), (69, 1000), (71, 1000)] T0 T) (h2 : gI T0 13 2 = 0) (h9 : gI T 64 9 = 0) (h7 : gI T0 13 7 = gI T 64 10) (h77 : gI S 64 7 = 1 → gI T 64 7 = 1) (hs : IScn (n + 1) T) : Inv0 (n + 1) T := by
  have r13 : ∀ k, gI T 13 k = gI T0 13 k := fun k => congrFun (fr_addr f2 13 (by decide)) k
  have a14 : gI T 14 = gI S 14 := (fr_addr f2 14 (by decide)).trans (fr_addr f1 14 (by decide))
  have a70 : gI T 70 = gI S 70 := (fr_addr f2 70 (by decide)).trans (fr_addr f1 70 (by decide))
  refine ⟨fr_row (by decide) f2 (fr_row (by decide) f1 hI.1), ⟨?_, ⟨by rw [h9]; decide, by rw [h9]; decide⟩, fun k hk => ?_⟩, ⟨?_, ?_⟩, fr_tr (by decide) f2 (fr_tr (by decide) f1 hI.2.2.2.1), hs, ?_⟩
  · rw [r13, h2, h9]
  · rw [a14, a70]; exact hI.2.1.2.2 k hk
  · rw [fr_addr f2 0 (by decide), fr_addr f1 0 (by decide), f2 64 1 (by decide) (by decide), fr_addr f1 64 (by decide)]; exact hI.2.2.1.1
  · rw [r13]; exact h7
  · refine IImg.mono (Nat.le_succ n) (IImg.of7 (fun a h1 h2 => ?_) (fun a h1 h2 => ?_) h77 hI.2.2.2.2.2)
    · exact (fr_addr f2 a (fun q hq e => by simp only [List.mem_cons, List.not_mem_nil, or_false] at hq; rcases hq with rfl | rfl | rfl | rfl | rfl | rfl | rfl | rfl | rfl | rfl | rfl | rfl | rfl | rfl | rfl | rfl | rfl | rfl | rfl | rfl | rfl | rfl | rfl <;> simp at e <;> omega)).trans (fr_addr f1 a (fun q hq e => by simp only [List.mem_cons, List.not_mem_nil, or_false] at hq; rcases hq with rfl | rfl | rfl | rfl | rfl | rfl | rfl | rfl | rfl | rfl | rfl | rfl | rfl | rfl | rfl | rfl | rfl | rfl | rfl | rfl | rfl | rfl | rfl | rfl | rfl | rfl <;> simp at e <;> omega))
    · exact (fr_addr f2 a (fun q hq e => by simp only [List.mem_cons, List.not_mem_nil, or_false] at hq; rcases hq with rfl | rfl | rfl | rfl | rfl | rfl | rfl | rfl | rfl | rfl | rfl | rfl | rfl | rfl | rfl | rfl | rfl | rfl | rfl | rfl | rfl | rfl | rfl <;> simp at e <;> omega)).trans (fr_addr f1 a (fun q hq e => by simp only [List.mem_cons, List.not_mem_nil, or_false] at hq; rcases hq with rfl | rfl | rfl | rfl | rfl | rfl | rfl | rfl | rfl | rfl | rfl | rfl | rfl | rfl | rfl | rfl | rfl | rfl | rfl | rfl | rfl | rfl | rfl | rfl | rfl | rfl <;> simp at e <;> omega))

theorem begin_B (S : HSt) : (∀ j, j < 6 → gI (sI (f_X10_copyFrom S 19 15) 18 2 1) 20 j = gI S 16 j) ∧ (∀ j, j < 185 → gI (sI (f_X10_copyFrom S 19 15) 18 2 1) 21 j = gI S 17 j) := by
  have e6 : (6 : Int32).toNatClampNeg = 6 := rfl
  have e185 : (185 : Int32).toNatClampNeg = 185 := rfl
  have e0 : (0 : Int32).toNatClampNeg = 0 := rfl
  unfold f_X10_copyFrom
  simp only [bd_def, Nat.reduceAdd, e6, e185, e0]
  refine ⟨fun j hj => ?_, fun j hj => ?_⟩
  · simp only [gI_sI, gI_rI, if_true, if_false, reduceIte, Nat.reduceEqDiff]
    show va_cpy _ _ 0 0 6 j = _
    rw [pk_cpy_in (by omega) (by omega)]
    simp
  · simp only [gI_sI, gI_rI, if_true, if_false, reduceIte, Nat.reduceEqDiff]
    show va_cpy _ _ 0 0 185 j = _
    rw [pk_cpy_in (by omega) (by omega)]
    simp
/-- the scene behind a way that was read -/
theorem way_scn {n N : Nat} {c7 : Int32} {R D U : HSt} (hG : Gd N c7 R D) (hU : ∀ x, x < 64 → gI U x = gI (f_X7_takeUp (sI (f_X10_copyFrom (sI R 13 2 0) 19 15) 18 2 1) 18 0 0) x) (h68 : ∀ j, j < 172 → gI U 68 j = gI D 69 j) (h7 : gI U 64 7 = 1) (h18 : gI U 64 18 = 0) (h19 : gI U 64 19 = if gI D 69 1 ≤ 0 then (-1000000 : Int32) else 0) (h71 : gI U 71 0 = 20 ∧ gI U 71 1 = 0 ∧ gI U 71 2 = 0 ∧ gI U 71 3 = 0 ∧ gI U 71 4 = 0 ∧ gI U 71 5 = 0 ∧ gI U 71 6 = -1000000) : IScn (n + 1) U := by
  obtain ⟨⟨-, -, -, hW, hB, -⟩, hr, -⟩ := hG
  obtain ⟨b1, b2⟩ := begin_B (sI R 13 2 0)
  rw [gs_ne (show (16 : Nat) ≠ 13 by decide)] at b1
  rw [gs_ne (show (17 : Nat) ≠ 13 by decide)] at b2
  have b18 : gI (sI (f_X10_copyFrom (sI R 13 2 0) 19 15) 18 2 1) 18 2 = 1 := by rw [gs_eq, if_pos rfl]
  generalize sI (f_X10_copyFrom (sI R 13 2 0) 19 15) 18 2 1 = B at b1 b2 b18 hU
  obtain ⟨t4, t5, t6, t7, t8, t9, t2⟩ := takeUp_at B 0 0
  obtain ⟨l0, l1, l2, l3, l4, l5, l6⟩ := takeUp_loop B 0 0
  have fv := v_X7_takeUp B 18 0 0
  have u20 : ∀ j, j < 6 → gI U 20 j = gI R 16 j := fun j hj => by rw [hU 20 (by decide), fr_addr fv 20 (by decide), b1 j hj]
  have u21 : ∀ j, j < 185 → gI U 21 j = gI R 17 j := fun j hj => by rw [hU 21 (by decide), fr_addr fv 21 (by decide), b2 j hj]
  have o0 : ∀ f, f < 3 → f_X10_value B 19 0 0 (nI f) = gI U 68 (6 + f) := fun f hf => by
    refine (val_at B 19 (s := 0) (i := 0) (f := f) (by decide) (by decide) (by omega)).trans ?_
    show gI B 21 ((0 + 0) * 5 + f) = _
    rw [b2 _ (by omega), h68 _ (by omega)]
    exact hW.2.1 0 f (by omega) hf
  have o1 : ∀ f, f < 3 → f_X10_value B 19 1 0 (nI f) = gI U 68 (15 + f) := fun f hf => by
    refine (val_at B 19 (s := 1) (i := 0) (f := f) (by decide) (by decide) (by omega)).trans ?_
    show gI B 21 ((3 + 0) * 5 + f) = _
    rw [b2 _ (by omega), h68 _ (by omega)]
    exact hW.2.2.1 0 f (by omega) hf
  have hB' : WayB (gI U 68) := hB.cg h68
  have hr' : 1 ≤ (gI U 68 0).toInt := by rw [h68 0 (by omega)]; exact hr
  have e18 : ∀ k, gI U 18 k = gI (f_X7_takeUp B 18 0 0) 18 k := fun k => by rw [hU 18 (by decide)]
  have e22 : ∀ k, gI U 22 k = gI (f_X7_takeUp B 18 0 0) 22 k := fun k => by rw [hU 22 (by decide)]
  have z0 : (0 : Int32).toNatClampNeg = 0 := rfl
  have h19' : gI U 64 19 = if gI U 68 1 ≤ 0 then (-1000000 : Int32) else 0 := by rw [h68 1 (by omega)]; exact h19
  have hrope := hB'.2.1 0 (by omega)
  have hhorse := hB'.2.2.1 0 (by omega)
  have hb1 := hB'.1.2.1
  have hWR : WayR (gI U 20) (gI U 21) (gI U 68) := hW.cg u20 u21 h68
  clear hU h68 h19 hW hB hr b1 b2
  have hHR : HeldR (gI U 18) (gI U 68) 0 (gI U 64 19) := by
    unfold HeldR
    rw [z0]
    refine ⟨⟨by decide, by decide⟩, ?_, ?_, ?_, ?_, fun q => ?_, fun q => ?_⟩
    · rw [h19']
      by_cases q : gI U 68 1 ≤ 0
      · rw [if_pos q]; exact Or.inl rfl
      · rw [if_neg q]; exact Or.inr ⟨by decide, by decide⟩
    · rw [e18, t4]; exact o0 0 (by omega)
    · rw [e18, t5]; exact o0 1 (by omega)
    · rw [e18, t6]; exact o0 2 (by omega)
    · have q1 : gI U 68 1 ≤ 0 := by
        by_cases q1 : gI U 68 1 ≤ 0
        · exact q1
        · rw [h19', if_neg q1] at q; exact absurd q (by decide)
      have hz := hhorse.2.2.2 (by rw [ti_le, ti0] at q1; exact q1)
      rw [e18, e18, e18, t7, t8, t9]
      exact ⟨(o1 0 (by omega)).trans hz.1, (o1 1 (by omega)).trans hz.2.1, (o1 2 (by omega)).trans hz.2.2⟩
    · have q1 : gI U 64 19 = 0 := by
        by_cases q1 : gI U 68 1 ≤ 0
        · rw [h19', if_pos q1] at q; exact absurd rfl q
        · rw [h19', if_neg q1]
      rw [q1, z0, e18, e18, e18, t7, t8, t9]
      exact ⟨o1 0 (by omega), o1 1 (by omega), o1 2 (by omega)⟩
  refine ⟨⟨?_, hB', ?_, ?_, ?_⟩, ?_, ?_, ?_, ?_⟩
  · exact hWR
  · rw [h18]; exact hHR
  · show LoopR (gI U 22) (gI U 71)
    obtain ⟨d0, d1, d2, d3, d4, d5, d6⟩ := h71
    refine ⟨?_, ?_, ?_, ?_, ?_, ?_, ?_⟩
    · rw [e22, l0, d0]
    · rw [e22, l1, d1]
    · rw [e22, l2, d2]
    · rw [e22, l3, d3]
    · rw [e22, l4, d4]
    · rw [e22, l5, d6]
    · rw [e22, l6, d5]
  · obtain ⟨d0, d1, d2, d3, d4, d5, d6⟩ := h71
    rw [h18, z0]
    refine fresh_B ⟨hrope.2.2.2 (by omega), hrope.1.2⟩ hrope.2.1 d0 d1 d2 ?_ ?_ d5
    · rw [d3]; exact ⟨by decide, by rw [ti0]; omega⟩
    · rw [d4]; exact ⟨by decide, by rw [ti0]; omega⟩
  · rw [e18, t2, b18, h7]
  · rw [h7]; exact Or.inr rfl
  · intro _
    refine ⟨by rw [h18, ti0]; omega, fun q => ?_⟩
    by_cases q1 : gI U 68 1 ≤ 0
    · rw [h19', if_pos q1] at q; exact absurd rfl q
    · rw [h19', if_neg q1, ti0]
      rw [ti_le, ti0] at q1
      omega
  · rw [h7]; intro q; exact absurd q (by decide)
