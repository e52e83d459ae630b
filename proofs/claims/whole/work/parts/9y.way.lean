-- needs: 9x.calls
theorem kI_way : K_way INV := by
  intro n S hn hV
  obtain ⟨hs, hI, hP⟩ := hV
  obtain ⟨k1, k2, k3, hI2⟩ := kk_way n S hn hs.1 hI
  refine ⟨k1, k2, k3, hs.of ((q_X12_way _ _).trans (q_X11_way _ _)), hI2, ?_⟩
  have f1 := v_X11_way S 0
  have f2 := v_X12_way (f_X11_way S 0).2 64
  have fR := v_X4_read S 13
  obtain ⟨e1, e2⟩ := read_eq S
  have t70 : gI (f_X11_way S 0).2 70 = gI S 70 := fr_addr f1 70 (by decide)
  have t64 : gI (f_X11_way S 0).2 64 = gI S 64 := fr_addr f1 64 (by decide)
  obtain ⟨-, -, -, -, -, p6⟩ := way_text (T0 := (f_X11_way S 0).2) hs.1 hI t70 (by rw [t64])
  rw [e2] at fR
  rcases p6 with ⟨r0, hFE⟩ | ⟨r0, -⟩
  · -- nothing is taken
    have eT : (f_X11_way S 0).2 = sI (f_X4_readText (cT S) 13).2 13 2 0 := by
      unfold f_X11_way
      rw [bd_def, if_pos (e1.trans r0), pr_2, e2]
    obtain ⟨c, c1, c3, g7, g16, g8⟩ := hFE
    have hz : ¬ gI (Mk 5 1000 (wM (f_X11_way S 0).2)) 64 16 ≤ 0 := by
      rw [g16, ti_le, nI_ti (by omega), ti0]; omega
    have eE2 : (f_X12_way (f_X11_way S 0).2 64).2 = sI (Mk 5 1000 (wM (f_X11_way S 0).2)) 64 10 (gI (Mk 5 1000 (wM (f_X11_way S 0).2)) 64 16) := by
      rw [way_eq]; unfold wE; rw [if_neg hz, pr_2]
    have g18 : gI (f_X11_way S 0).2 18 = gI S 18 := by rw [eT]; exact fr_addr fR 18 (by decide)
    have row : ∀ x, x ≠ 64 → x ≠ 69 → gI (f_X12_way (f_X11_way S 0).2 64).2 x = gI (f_X11_way S 0).2 x := fun x h1 h2 => by
      funext k
      rw [eE2, gs_ne h1]
      exact D_q _ ⟨h2, fun q => absurd q h1⟩ (fun q => absurd q h1)
    have r18 : gI (f_X12_way (f_X11_way S 0).2 64).2 64 18 = gI S 64 18 := by
      rw [eE2, gs_o (by decide), D_q _ ⟨by decide, fun _ => by omega⟩ (fun _ => by omega), t64]
    have r19 : gI (f_X12_way (f_X11_way S 0).2 64).2 64 19 = gI S 64 19 := by
      rw [eE2, gs_o (by decide), D_q _ ⟨by decide, fun _ => by omega⟩ (fun _ => by omega), t64]
    have both : ∀ x, x ≠ 64 → x ≠ 69 → (∀ q ∈ [(((18 + 1) + 1), 1000), (((18 + 1) + 2), 1000), (13, 2), (13, 3), (13, 4), (13, 5), (13, 6), (13, 7), (13, 8), (16, 1000), (17, 1000), (18, 2), (18, 3), (18, 4), (18, 5), (18, 6), (18, 7), (18, 8), (18, 9), (22, 0), (22, 1), (22, 2), (22, 3), (22, 4), (22, 5), (22, 6)], q.1 ≠ x) → gI (f_X12_way (f_X11_way S 0).2 64).2 x = gI S x := fun x h1 h2 h3 => (row x h1 h2).trans (fr_addr f1 x h3)
    exact (hP.of (by rw [row 18 (by decide) (by decide), g18]) (by rw [both 43 (by decide) (by decide) (by decide)]) (by rw [both 43 (by decide) (by decide) (by decide)]) (both 46 (by decide) (by decide) (by decide)) (both 52 (by decide) (by decide) (by decide)) (both 53 (by decide) (by decide) (by decide)) (both 56 (by decide) (by decide) (by decide)) (both 68 (by decide) (by decide) (by decide)) r18 r19).mono (Nat.le_succ n)
  · have nz : ¬ (f_X4_read S 13).1 = 0 := by rw [e1, r0]; exact one_ne
    have eT : (f_X11_way S 0).2 = f_X7_takeUp (sI (f_X10_copyFrom (sI (f_X4_readText (cT S) 13).2 13 2 0) 19 15) 18 2 1) 18 0 0 := by
      unfold f_X11_way
      rw [bd_def, if_neg nz, e2, dr_at, bd_def, pr_2]
      generalize (f_X4_readText (cT S) 13).2 = Q
      unfold f_X7_begin
      simp only [bd_def]
    have h3 : gI (f_X11_way S 0).2 18 3 = gI S 18 3 + 1 := by
      rw [eT, up3, gs_o (by decide), fr_addr (v_X10_copyFrom _ 19 15) 18 (by decide), fr_addr fR 18 (by decide)]
    refine hP.bump hn ?_ ?_ ?_
    · rw [fr_addr f2 18 (by decide)]; exact h3
    · rw [fr_addr f2 43 (by decide), fr_addr f1 43 (by decide)]
    · rw [fr_addr f2 43 (by decide), fr_addr f1 43 (by decide)]
