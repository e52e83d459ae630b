-- needs: 9s.row
/-! ===== moves: the planner's memory ===== -/
def pL (S : HSt) : Nat → Int32 := fun j => if j = 5 then gI S 56 6 else gI S 56 j
def nBs (S : HSt) : Nat := (gI S 68 2).toInt.toNat
def IPlan (n : Nat) (S : HSt) : Prop := (0 ≤ (gI S 18 3).toInt ∧ (gI S 18 3).toInt ≤ n) ∧ (gI S 43 6 = 0 ∨ ∃ m, 1 ≤ m ∧ m ≤ 5 ∧ gI S 43 6 = nI m ∧ (gI S 43 7).toInt ≤ (gI S 18 3).toInt ∧ (gI S 43 7 = gI S 18 3 → RW S 0 (bs6 (ropB S) (6 + 2 * nBs S) m (pL S, 0))))
theorem like_iff (S : HSt) (a b : Nat) (h : ¬ f_X1_isLike S a b = 0) : gI S a 0 = gI S b 0 ∧ gI S a 1 = gI S b 1 ∧ gI S a 2 = gI S b 2 ∧ gI S a 3 = gI S b 3 ∧ gI S a 4 = gI S b 4 ∧ gI S a 6 = gI S b 6 := by
  have e : f_X1_isLike S a b = (if (gI S a 0) = (gI S b 0) then (if (gI S a 1) = (gI S b 1) then (if (gI S a 2) = (gI S b 2) then (if (gI S a 3) = (gI S b 3) then (if (gI S a 4) = (gI S b 4) then (if (gI S a 6) = (gI S b 6) then (1 : Int32) else (0 : Int32)) else (0 : Int32)) else (0 : Int32)) else (0 : Int32)) else (0 : Int32)) else (0 : Int32)) := rfl
  rw [e] at h
  by_cases c0 : gI S a 0 = gI S b 0
  · rw [if_pos c0] at h
    by_cases c1 : gI S a 1 = gI S b 1
    · rw [if_pos c1] at h
      by_cases c2 : gI S a 2 = gI S b 2
      · rw [if_pos c2] at h
        by_cases c3 : gI S a 3 = gI S b 3
        · rw [if_pos c3] at h
          by_cases c4 : gI S a 4 = gI S b 4
          · rw [if_pos c4] at h
            by_cases c6 : gI S a 6 = gI S b 6
            · exact ⟨c0, c1, c2, c3, c4, c6⟩
            · rw [if_neg c6] at h; exact absurd rfl h
          · rw [if_neg c4] at h; exact absurd rfl h
        · rw [if_neg c3] at h; exact absurd rfl h
      · rw [if_neg c2] at h; exact absurd rfl h
    · rw [if_neg c1] at h; exact absurd rfl h
  · rw [if_neg c0] at h; exact absurd rfl h
theorem ev_of {n : Nat} {S : HSt} (hI : Inv0 n S) (ht : ¬ gI S 64 7 = 0) : EV S (ropB S) ∧ LB S n (gI S 71) := by
  obtain ⟨b1, b2, b3⟩ := ropB_at S
  obtain ⟨w1, w2, w3⟩ := scn_W (T := ropB S) hI b1 b2 b3
  refine ⟨⟨w1, w2, w3, len40 hI ht⟩, ?_⟩
  have hR := hI.2.2.2.2.1.1
  have hH := hR.2.2.1
  have hL := hR.2.2.2.2
  rw [← hH.2.2.1, ← hH.2.2.2.1] at hL
  exact hL
/-- what is asked for when nothing is kept -/
theorem go_at {n m : Nat} {S : HSt} (hI : Inv0 n S) (hC : CS S) (hn : n < 512) (ht : ¬ gI S 64 7 = 0) (h1 : 1 ≤ m) (h5 : m ≤ 5) : p_X2_seekRow S 43 18 (nI m) ∧ (f_X2_seekFrom (go7 S (nI m)) 43 18 0).1 = gI (f_X2_seekFrom (go7 S (nI m)) 43 18 0).2 53 0 ∧ RW (f_X2_seekFrom (go7 S (nI m)) 43 18 0).2 0 (bs6 (ropB S) (6 + 2 * nBs S) m (gI S 71, 0)) ∧ (∀ y, y ≠ 43 → ¬ (46 ≤ y ∧ y ≤ 61) → gI (f_X2_seekFrom (go7 S (nI m)) 43 18 0).2 y = gI S y) ∧ gI (f_X2_seekFrom (go7 S (nI m)) 43 18 0).2 43 6 = nI m ∧ gI (f_X2_seekFrom (go7 S (nI m)) 43 18 0).2 43 7 = gI S 18 3 ∧ L6 (gI (f_X2_seekFrom (go7 S (nI m)) 43 18 0).2 56) (gI S 71) := by
  obtain ⟨hE, hL⟩ := ev_of hI ht
  have hLR := hI.2.2.2.2.1.1.2.2.2.1
  have hb := hE.2.1.1.2.2.1
  rw [(ropB_at S).1] at hb
  have hc : (gI (ropB S) 68 2).toInt = (nBs S : Nat) := by
    rw [(ropB_at S).1]
    unfold nBs
    rw [Int.toNat_of_nonneg hb.1]
  obtain ⟨c1, c2⟩ := cp_at (S' := S) (o := 56) (lp := 22) (by decide)
  have l54 : gL S 54 = 640 := cs_l 54 14 640 (by decide) hC
  have l52 : gL S 52 = 6 := cs_l 52 14 6 (by decide) hC
  have s5 : shp (go5 S (nI m)) = shp S := by
    unfold go5
    rw [shp_sI, shp_sI, shp_sI, q_X1_copyFrom]
  have q5 : ∀ y, y ≠ 43 → y ≠ 56 → gI (go5 S (nI m)) y = gI S y := fun y h1 h2 => by
    unfold go5
    rw [gs_ne h1, gs_ne h1, gs_ne h1, c2 y h2]
  have f54 := fill_at (S := go5 S (nI m)) (r := 54) (N := 640) (-1) (by rw [gL_shp s5, l54]) (by decide)
  have s6 : shp (f_J7_fill_53178 (go5 S (nI m)) 54 (-1)) = shp S := (q_J7_fill_53178 _ _ _).trans s5
  have f52 := fill_at (S := f_J7_fill_53178 (go5 S (nI m)) 54 (-1)) (r := 52) (N := 6) 0 (by rw [gL_shp s6, l52]) (by decide)
  have s7 : shp (go7 S (nI m)) = shp S := (q_J7_fill_53178 _ _ _).trans s6
  have q7 : ∀ y, y ≠ 52 → y ≠ 54 → gI (go7 S (nI m)) y = gI (go5 S (nI m)) y := fun y h1 h2 => (f52.2 y h1).trans (f54.2 y h2)
  have k6 : gI (go7 S (nI m)) 43 6 = nI m := by
    rw [q7 43 (by decide) (by decide)]
    unfold go5
    rw [gs_o (by decide), gs_o (by decide), gs_eq, if_pos rfl]
  have k7 : gI (go7 S (nI m)) 43 7 = gI S 18 3 := by
    rw [q7 43 (by decide) (by decide)]
    unfold go5
    rw [gs_o (by decide), gs_eq, if_pos rfl, gs_ne (by decide), c2 18 (by decide)]
  have k8 : gI (go7 S (nI m)) 43 8 = nI 0 := by
    rw [q7 43 (by decide) (by decide)]
    unfold go5
    rw [gs_eq, if_pos rfl]
    rfl
  have k56 : ∀ j, j < 7 → gI (go7 S (nI m)) 56 j = gI S 22 j := fun j hj => by
    rw [q7 56 (by decide) (by decide)]
    unfold go5
    rw [gs_ne (by decide), gs_ne (by decide), gs_ne (by decide), c1 j hj]
  have h6 : L6 (gI (go7 S (nI m)) 56) (gI S 71) := by
    obtain ⟨l0, l1, l2, l3, l4, -, l6⟩ := hLR
    exact ⟨(k56 0 (by omega)).trans l0, (k56 1 (by omega)).trans l1, (k56 2 (by omega)).trans l2, (k56 3 (by omega)).trans l3, (k56 4 (by omega)).trans l4, (k56 6 (by omega)).trans l6⟩
  have hSY : SY S (ropB S) (gI S 71 4) (nBs S) m (go7 S (nI m)) 0 (gI S 71, 0) := by
    refine ⟨⟨⟨?_, ?_, ?_⟩, ?_, fun d b e p hd hb' he hp => Or.inl ?_⟩, k6, k8, h6, f52.1 m (by omega)⟩
    · rw [q7 18 (by decide) (by decide), q5 18 (by decide) (by decide)]
    · rw [q7 20 (by decide) (by decide), q5 20 (by decide) (by decide)]
    · rw [q7 21 (by decide) (by decide), q5 21 (by decide) (by decide)]
    · rw [gL_shp s7, l54]
    · have : b < 4 := by
        have h2 := hb.2
        unfold nBs at hb'
        omega
      show gI (f_J7_fill_53178 (f_J7_fill_53178 (go5 S (nI m)) 54 (-1)) 52 0) 54 _ = _
      rw [f52.2 54 (by decide)]
      exact f54.1 _ (ix_lt hd this he hp)
  have hVX : VX S (gI S 71 4) 0 (gI S 71, 0) n := ⟨hL, show 0 < 16 by decide, by show gI S 71 4 = gI S 71 4 + nI 0; rw [show nI 0 = (0 : Int32) from rfl, Int32.add_zero]⟩
  obtain ⟨k, rfl⟩ : ∃ k, m = k + 1 := ⟨m - 1, by omega⟩
  obtain ⟨g1, g2, g3, g4, g5⟩ := seek_c (K := gI S 71 4) hE hc rfl h5 k 6 0 (by omega) (by omega) (go7 S (nI (k + 1))) (gI S 71, 0) n hSY hVX (by omega)
  rw [show nI 0 = (0 : Int32) from rfl] at g1 g2 g3 g4 g5
  generalize hG7 : go7 S (nI (k + 1)) = G7 at *
  have eF : f_X2_seekFrom G7 43 18 0 = f_X2_seekFromN 6 G7 43 18 0 := rfl
  have pF : p_X2_seekFromN 6 G7 43 18 0 → p_X2_seekFrom (go7 S (nI (k + 1))) 43 18 0 := fun q => by
    rw [hG7]
    exact q
  rw [eF]
  have pb : Bz (gI S 22 6) := by rw [hLR.2.2.2.2.2.2]; exact hL.2.2.2.2.2.1
  refine ⟨p_seekRow S h5 (p_cp (by decide) pb) (p_fillA (M := 640) (by decide) (by rw [gL_shp s5, l54]) _) (p_fillA (M := 6) (by decide) (by rw [gL_shp s6, l52]) _) (pF g1), g5, g4, fun y h1 h2 => ?_, ?_, ?_, ?_⟩
  · rw [g3.1 y (by omega) (by omega) (by omega) (by omega) (by omega) (by omega), q7 y (by omega) (by omega), q5 y h1 (by omega)]
  · rw [g3.1 43 (by omega) (by omega) (by omega) (by omega) (by omega) (by omega)]; exact k6
  · rw [g3.1 43 (by omega) (by omega) (by omega) (by omega) (by omega) (by omega)]; exact k7
  · rw [g3.1 56 (by omega) (by omega) (by omega) (by omega) (by omega) (by omega)]; exact h6
theorem row_at {n m : Nat} {S : HSt} (hI : Inv0 n S) (hP : IPlan n S) (hC : CS S) (hn : n < 512) (ht : ¬ gI S 64 7 = 0) (h1 : 1 ≤ m) (h5 : m ≤ 5) : p_X2_seekRow S 43 18 (nI m) ∧ (f_X2_seekRow S 43 18 (nI m)).1 = gI (f_X2_seekRow S 43 18 (nI m)).2 53 0 ∧ RW (f_X2_seekRow S 43 18 (nI m)).2 0 (bs6 (ropB S) (6 + 2 * nBs S) m (gI S 71, 0)) ∧ (∀ y, y ≠ 43 → ¬ (46 ≤ y ∧ y ≤ 61) → gI (f_X2_seekRow S 43 18 (nI m)).2 y = gI S y) ∧ IPlan n (f_X2_seekRow S 43 18 (nI m)).2 := by
  obtain ⟨g1, g2, g3, g4, g5, g6, g7⟩ := go_at hI hC hn ht h1 h5
  refine ⟨g1, ?_⟩
  rw [seekRow_v S h5]
  by_cases q : nI m = gI S 43 6 ∧ gI S 43 7 = gI S 18 3 ∧ ¬ f_X1_isLike S 56 22 = 0
  · rw [if_pos q, pr_1, pr_2]
    refine ⟨rfl, ?_, fun _ _ _ => rfl, hP⟩
    obtain ⟨q1, q2, q3⟩ := q
    rcases hP.2 with h | ⟨m', a1, a2, a3, a4, a5⟩
    · rw [← q1] at h
      have := congrArg Int32.toInt h
      rw [nI_ti (by omega), ti0] at this
      omega
    · have em : m' = m := by
        rw [← q1] at a3
        have := congrArg Int32.toInt a3
        rw [nI_ti (by omega), nI_ti (by omega)] at this
        omega
      subst em
      have r := a5 q2
      obtain ⟨e0, e1, e2, e3, e4, e6⟩ := like_iff S 56 22 q3
      obtain ⟨l0, l1, l2, l3, l4, -, l6⟩ := hI.2.2.2.2.1.1.2.2.2.1
      have hj : ∀ j, j < 6 → pL S j = gI S 71 j := fun j hj => by
        have hc : j = 0 ∨ j = 1 ∨ j = 2 ∨ j = 3 ∨ j = 4 ∨ j = 5 := by omega
        rcases hc with rfl | rfl | rfl | rfl | rfl | rfl
        · exact e0.trans l0
        · exact e1.trans l1
        · exact e2.trans l2
        · exact e3.trans l3
        · exact e4.trans l4
        · exact e6.trans l6
      rw [bs6_cg hj] at r
      exact r
  · rw [if_neg q, pr_1, pr_2]
    refine ⟨g2, g3, g4, ?_⟩
    generalize (f_X2_seekFrom (go7 S (nI m)) 43 18 0).2 = R at g3 g4 g5 g6 g7
    have e18 := g4 18 (by decide) (by omega)
    have eB : ropB R = ropB S := ropB_cg (g4 68 (by decide) (by omega)) (by rw [g4 64 (by decide) (by omega)]) (by rw [g4 64 (by decide) (by omega)])
    have eN : nBs R = nBs S := by unfold nBs; rw [g4 68 (by decide) (by omega)]
    refine ⟨by rw [e18]; exact hP.1, Or.inr ⟨m, h1, h5, g5, by rw [g6, e18]; exact Int.le_refl _, fun _ => ?_⟩⟩
    rw [eB, eN, bs6_cg (L := pL R) (L' := gI S 71) (fun j hj => ?_)]
    · exact g3
    · obtain ⟨l0, l1, l2, l3, l4, l6⟩ := g7
      have hc : j = 0 ∨ j = 1 ∨ j = 2 ∨ j = 3 ∨ j = 4 ∨ j = 5 := by omega
      rcases hc with rfl | rfl | rfl | rfl | rfl | rfl
      · exact l0
      · exact l1
      · exact l2
      · exact l3
      · exact l4
      · exact l6
