-- needs: 76.way
/-! ===== way: the contract ===== -/
theorem D_q (T0 : HSt) {a k : Nat} (hq : QP a k) (h : a = 64 → k ≠ 0 ∧ k ≠ 9 ∧ k ≠ 11) : gI (Mk 5 1000 (wM T0)) a k = gI T0 a k := by
  obtain ⟨m1, m2, m3, m4, m5, m6, m7⟩ := start_M T0
  rw [Mk_q hq, wM_q hq]
  by_cases q : a = 64
  · subst q
    obtain ⟨h0, h9, h11⟩ := h rfl
    have := hq.2 rfl
    exact m7 k h0 h9 h11 (by omega) (by omega)
  · rw [m2 a hq.1 q]
theorem D_9 (T0 : HSt) : gI (Mk 5 1000 (wM T0)) 64 9 = 0 := by
  have hq : QP 64 9 := ⟨by decide, fun _ => by omega⟩
  rw [Mk_q hq, wM_q hq]
  exact (start_M T0).2.2.2.2.2.1
theorem fail_b {R D : HSt} {n : Nat} {S : HSt} (hI : Inv0 n S) (hR : Fr [(13, 2), (13, 3), (13, 4), (13, 5), (13, 6), (13, 7), (13, 8), (16, 1000), (17, 1000)] S (sI R 13 2 0)) (eD : D = Mk 5 1000 (wM (sI R 13 2 0))) : IScn (n + 1) (sI D 64 10 (gI D 64 16)) := by
  have q : ∀ a k, QP a k → (a = 64 → k ≠ 0 ∧ k ≠ 9 ∧ k ≠ 11 ∧ k ≠ 10) → a ≠ 13 → a ≠ 16 → a ≠ 17 → gI (sI D 64 10 (gI D 64 16)) a k = gI S a k := fun a k h1 h2 h3 h4 h5 => by
    have e1 : gI (sI D 64 10 (gI D 64 16)) a k = gI D a k := by
      by_cases q : a = 64
      · subst q; rw [gs_o (h2 rfl).2.2.2]
      · rw [gs_ne q]
    rw [e1, eD, D_q _ h1 (fun h => ⟨(h2 h).1, (h2 h).2.1, (h2 h).2.2.1⟩)]
    refine hR a k (fun q => ?_) (fun q => ?_)
    all_goals
      simp only [List.mem_cons, Prod.mk.injEq, List.not_mem_nil, or_false] at q
      omega
  refine IScn.mono (Nat.le_succ n) (hI.2.2.2.2.1.of (fun j _ _ _ => ?_) ?_ ?_ ?_ ?_ ?_ ?_ ?_ ?_)
  · exact q 18 j ⟨by decide, fun h => absurd h (by decide)⟩ (fun h => absurd h (by decide)) (by decide) (by decide) (by decide)
  · funext j; exact q 20 j ⟨by decide, fun h => absurd h (by decide)⟩ (fun h => absurd h (by decide)) (by decide) (by decide) (by decide)
  · funext j; exact q 21 j ⟨by decide, fun h => absurd h (by decide)⟩ (fun h => absurd h (by decide)) (by decide) (by decide) (by decide)
  · funext j; exact q 22 j ⟨by decide, fun h => absurd h (by decide)⟩ (fun h => absurd h (by decide)) (by decide) (by decide) (by decide)
  · funext j; exact q 68 j ⟨by decide, fun h => absurd h (by decide)⟩ (fun h => absurd h (by decide)) (by decide) (by decide) (by decide)
  · funext j; exact q 71 j ⟨by decide, fun h => absurd h (by decide)⟩ (fun h => absurd h (by decide)) (by decide) (by decide) (by decide)
  · exact q 64 18 ⟨by decide, fun _ => by omega⟩ (fun _ => by omega) (by decide) (by decide) (by decide)
  · exact q 64 19 ⟨by decide, fun _ => by omega⟩ (fun _ => by omega) (by decide) (by decide) (by decide)
  · exact q 64 7 ⟨by decide, fun _ => by omega⟩ (fun _ => by omega) (by decide) (by decide) (by decide)
theorem fp_at (U : HSt) : f_X4_faultPlace U 13 = gI U 13 8 := rfl
theorem dr_at (U : HSt) : f_X4_draft U 13 = 15 := rfl
theorem kway_f {n : Nat} {S : HSt} (hI : Inv0 n S) (r0 : (f_X4_readText (cT S) 13).1 = 0) (hFE : FE (f_X4_readText (cT S) 13).2 (Mk 5 1000 (wM (f_X11_way S 0).2))) : (f_X11_way S 0).1 = (f_X12_way (f_X11_way S 0).2 64).1 ∧ Inv0 (n + 1) (f_X12_way (f_X11_way S 0).2 64).2 := by
  have f1 := v_X11_way S 0
  have f2 := v_X12_way (f_X11_way S 0).2 64
  obtain ⟨e1, e2⟩ := read_eq S
  have t64 : gI (f_X11_way S 0).2 64 = gI S 64 := fr_addr f1 64 (by decide)
  have eW := way_eq (f_X11_way S 0).2
  have fR := v_X4_read S 13
  rw [e2] at fR
  have eC : f_X11_way S 0 = pr ((-9000000000000000100 : Int64) - (f_X4_faultPlace (sI (f_X4_readText (cT S) 13).2 13 2 0) 13).toInt64) (sI (f_X4_readText (cT S) 13).2 13 2 0) := by
    unfold f_X11_way
    rw [bd_def, if_pos (e1.trans r0), e2]
  have eT : (f_X11_way S 0).2 = sI (f_X4_readText (cT S) 13).2 13 2 0 := by rw [eC, pr_2]
  have eR : (f_X11_way S 0).1 = (-9000000000000000100 : Int64) - (gI (f_X4_readText (cT S) 13).2 13 8).toInt64 := by
    rw [eC, pr_1]
    rw [fp_at, gs_o (by decide)]
  obtain ⟨c, c1, c3, g7, g16, g8⟩ := hFE
  have hz : ¬ gI (Mk 5 1000 (wM (f_X11_way S 0).2)) 64 16 ≤ 0 := by
    rw [g16, ti_le, nI_ti (by omega), ti0]; omega
  have hsc := fail_b hI fR (D := Mk 5 1000 (wM (f_X11_way S 0).2)) (by rw [eT])
  have h9 := D_9 (f_X11_way S 0).2
  have hd7 := D_q (f_X11_way S 0).2 (a := 64) (k := 7) ⟨by decide, fun _ => by omega⟩ (fun _ => by omega)
  generalize hD : Mk 5 1000 (wM (f_X11_way S 0).2) = D at *
  have eE : f_X12_way (f_X11_way S 0).2 64 = pr ((-9000000000000000100 : Int64) - (gI (sI D 64 10 (gI D 64 16)) 64 17).toInt64) (sI D 64 10 (gI D 64 16)) := by
    rw [eW]; unfold wE; rw [if_neg hz]
  have eE2 : (f_X12_way (f_X11_way S 0).2 64).2 = sI D 64 10 (gI D 64 16) := by rw [eE, pr_2]
  refine ⟨?_, way_rest hI f1 f2 ?_ ?_ ?_ ?_ ?_⟩
  · rw [eE, pr_1, eR, gs_o (by decide), g8]
  · rw [eT, gs_eq, if_pos rfl]
  · rw [eE2, gs_o (by decide)]; exact h9
  · rw [eE2, eT, gs_o (by decide), g7, gs_eq, if_pos rfl, g16]
  · rw [eE2, gs_o (by decide), hd7, t64]; exact fun h => h
  · rw [eE2]; exact hsc
theorem kway_t {n N : Nat} {S : HSt} (hI : Inv0 n S) (r0 : (f_X4_readText (cT S) 13).1 = 1) (hGd : Gd N (gI S 13 7) (f_X4_readText (cT S) 13).2 (Mk 5 1000 (wM (f_X11_way S 0).2))) : (f_X11_way S 0).1 = (f_X12_way (f_X11_way S 0).2 64).1 ∧ Inv0 (n + 1) (f_X12_way (f_X11_way S 0).2 64).2 := by
  have f1 := v_X11_way S 0
  have f2 := v_X12_way (f_X11_way S 0).2 64
  obtain ⟨e1, e2⟩ := read_eq S
  have t64 : gI (f_X11_way S 0).2 64 = gI S 64 := fr_addr f1 64 (by decide)
  have eW := way_eq (f_X11_way S 0).2
  have nz : ¬ (f_X4_read S 13).1 = 0 := by rw [e1, r0]; exact one_ne
  have eC : f_X11_way S 0 = pr ((f_X10_howMany (f_X7_takeUp (sI (f_X10_copyFrom (sI (f_X4_readText (cT S) 13).2 13 2 0) 19 15) 18 2 1) 18 0 0) 19 (5 : Int32)).toInt64) (f_X7_takeUp (sI (f_X10_copyFrom (sI (f_X4_readText (cT S) 13).2 13 2 0) 19 15) 18 2 1) 18 0 0) := by
    unfold f_X11_way
    rw [bd_def, if_neg nz, e2, dr_at, bd_def]
    unfold f_X7_begin
    simp only [bd_def]
  have eT : (f_X11_way S 0).2 = f_X7_takeUp (sI (f_X10_copyFrom (sI (f_X4_readText (cT S) 13).2 13 2 0) 19 15) 18 2 1) 18 0 0 := by rw [eC, pr_2]
  have eR : (f_X11_way S 0).1 = (gI (f_X11_way S 0).2 20 5).toInt64 := by
    rw [eT, eC, pr_1]
    rw [show f_X10_howMany (f_X7_takeUp (sI (f_X10_copyFrom (sI (f_X4_readText (cT S) 13).2 13 2 0) 19 15) 18 2 1) 18 0 0) 19 (5 : Int32) = gI (f_X7_takeUp (sI (f_X10_copyFrom (sI (f_X4_readText (cT S) 13).2 13 2 0) 19 15) 18 2 1) 18 0 0) 20 5 from many_at _ 19 (s := 5) (by decide)]
  have e13 : ∀ k, k ≠ 2 → gI (f_X11_way S 0).2 13 k = gI (f_X4_readText (cT S) 13).2 13 k := fun k hk => by
    rw [eT, fr_addr (v_X7_takeUp _ 18 0 0) 13 (by decide), gs_ne (show (13 : Nat) ≠ 18 by decide)]
    unfold f_X10_copyFrom
    simp only [bd_def, gI_rI, Nat.reduceAdd, if_false, reduceIte, Nat.reduceEqDiff]
    rw [gs_o hk]
  have e132 : gI (f_X11_way S 0).2 13 2 = 0 := by
    rw [eT, fr_addr (v_X7_takeUp _ 18 0 0) 13 (by decide), gs_ne (show (13 : Nat) ≠ 18 by decide)]
    unfold f_X10_copyFrom
    simp only [bd_def, gI_rI, Nat.reduceAdd, if_false, reduceIte, Nat.reduceEqDiff]
    rw [gs_eq, if_pos rfl]
  have hz : gI (Mk 5 1000 (wM (f_X11_way S 0).2)) 64 16 ≤ 0 := by rw [hGd.1.2.2.1]; decide
  have h9 := D_9 (f_X11_way S 0).2
  have hd10 := D_q (f_X11_way S 0).2 (a := 64) (k := 10) ⟨by decide, fun _ => by omega⟩ (fun _ => by omega)
  generalize hD : Mk 5 1000 (wM (f_X11_way S 0).2) = D at *
  have eE : f_X12_way (f_X11_way S 0).2 64 = pr ((gI (f_X12_keepLive (wF D) 64) 68 (5 : Int32).toNatClampNeg).toInt64) (f_X12_keepLive (wF D) 64) := by
    rw [eW]; unfold wE; rw [if_pos hz]
  have eE2 : (f_X12_way (f_X11_way S 0).2 64).2 = f_X12_keepLive (wF D) 64 := by rw [eE, pr_2]
  have eE1 : (f_X12_way (f_X11_way S 0).2 64).1 = (gI (f_X12_keepLive (wF D) 64) 68 5).toInt64 := by rw [eE, pr_1]; rfl
  -- the model's end
  obtain ⟨-, k2, k3⟩ := copy_L 1000 0 D (by omega) (by omega)
  rw [show nI 0 = (0 : Int32) from rfl] at k2 k3
  have c68 : ∀ j, j < 172 → gI (wC D) 68 j = gI D 69 j := fun j hj => by
    unfold wC
    rw [gs_ne (show (68 : Nat) ≠ 64 by decide), gs_ne (show (68 : Nat) ≠ 64 by decide), k2 j, if_pos ⟨Nat.zero_le _, hj⟩]
  have cO : ∀ k, k ≠ 7 → k ≠ 18 → gI (wC D) 64 k = gI D 64 k := fun k h1 h2 => by
    unfold wC
    rw [gs_o h2, gs_o h1, k3 64 (by decide)]
  have c7 : gI (wC D) 64 7 = 1 := by unfold wC; rw [gs_o (by decide), gs_eq, if_pos rfl]
  have c18 : gI (wC D) 64 18 = 0 := by unfold wC; rw [gs_eq, if_pos rfl]
  have hF : wF D = f_X12_first (sI (wC D) 64 19 (if gI (wC D) 68 (1 : Int32).toNatClampNeg ≤ 0 then (-1000000 : Int32) else (0 : Int32))) 64 := rfl
  rw [show (1 : Int32).toNatClampNeg = 1 from rfl, c68 1 (by omega)] at hF
  generalize wC D = Cm at *
  have fF := v_X12_first (sI Cm 64 19 (if gI D 69 1 ≤ 0 then (-1000000 : Int32) else (0 : Int32))) 64
  obtain ⟨d0, d1, d2, d3, d4, d5, d6⟩ := first_at (sI Cm 64 19 (if gI D 69 1 ≤ 0 then (-1000000 : Int32) else (0 : Int32)))
  rw [← hF] at fF d0 d1 d2 d3 d4 d5 d6
  obtain ⟨-, kp⟩ := keep_at (wF D) (Or.inl d5)
  have fk := v_X12_keepLive (wF D) 64
  clear hF
  generalize wF D = F at *
  generalize hV : f_X12_keepLive F 64 = V at *
  have v68 : gI V 68 = gI Cm 68 := by rw [fr_addr fk 68 (by decide), fr_addr fF 68 (by decide), gs_ne (show (68 : Nat) ≠ 64 by decide)]
  have vk : ∀ k, k < 20 → k ≠ 19 → gI V 64 k = gI Cm 64 k := fun k h1 h2 => by
    rw [fr_addr fk 64 (by decide)]
    rw [fF 64 k (fun q => by simp only [List.mem_cons, Prod.mk.injEq, List.not_mem_nil, or_false] at q; omega) (by decide), gs_o h2]
  have v19 : gI V 64 19 = if gI D 69 1 ≤ 0 then (-1000000 : Int32) else 0 := by
    rw [fr_addr fk 64 (by decide), fF 64 19 (by decide) (by decide), gs_eq, if_pos rfl]
  refine ⟨?_, way_rest hI f1 f2 e132 ?_ ?_ ?_ ?_⟩
  · rw [eE1, eR, v68, c68 5 (by omega), eT]
    rw [fr_addr (v_X7_takeUp _ 18 0 0) 20 (by decide), (begin_B _).1 5 (by omega), gs_ne (show (16 : Nat) ≠ 13 by decide)]
    rw [hGd.1.2.2.2.1.1 5 (by omega)]
  · rw [eE2, vk 9 (by omega) (by omega), cO 9 (by omega) (by omega)]; exact h9
  · rw [eE2, vk 10 (by omega) (by omega), cO 10 (by omega) (by omega), hd10, t64, e13 7 (by decide), hGd.2.2]; exact hI.2.2.1.2
  · rw [eE2, vk 7 (by omega) (by omega), c7]; exact fun _ => rfl
  · rw [eE2]
    refine way_scn hGd (fun x hx => ?_) (fun j hj => by rw [v68]; exact c68 j hj) (by rw [vk 7 (by omega) (by omega), c7]) (by rw [vk 18 (by omega) (by omega), c18]) v19 ?_
    · rw [← eT, ← eE2]
      exact fr_addr f2 x (fun q hq e => by
        simp only [List.mem_cons, List.not_mem_nil, or_false] at hq
        rcases hq with rfl | rfl | rfl | rfl | rfl | rfl | rfl | rfl | rfl | rfl | rfl | rfl | rfl | rfl | rfl | rfl | rfl | rfl | rfl | rfl | rfl | rfl | rfl <;> simp at e <;> omega)
    · rw [kp 0 (by omega), kp 1 (by omega), kp 2 (by omega), kp 3 (by omega), kp 4 (by omega), kp 5 (by omega), kp 6 (by omega)]
      exact ⟨d0, d1, d2, d3, d4, d5, d6⟩
theorem kk_way : ∀ (n : Nat) (S : HSt), n < 512 → CS S → Inv0 n S → p_X11_way S 0 ∧ p_X12_way (f_X11_way S 0).2 64 ∧ (f_X11_way S 0).1 = (f_X12_way (f_X11_way S 0).2 64).1 ∧ Inv0 (n + 1) (f_X12_way (f_X11_way S 0).2 64).2 := by
  intro n S hn hS hI
  have f1 := v_X11_way S 0
  have f2 := v_X12_way (f_X11_way S 0).2 64
  have fR := v_X4_read S 13
  obtain ⟨e1, e2⟩ := read_eq S
  have t70 : gI (f_X11_way S 0).2 70 = gI S 70 := fr_addr f1 70 (by decide)
  have t64 : gI (f_X11_way S 0).2 64 = gI S 64 := fr_addr f1 64 (by decide)
  obtain ⟨p1, p2, p3, p4, p5, p6⟩ := way_text (T0 := (f_X11_way S 0).2) hS hI t70 (by rw [t64])
  have eW := way_eq (f_X11_way S 0).2
  rw [e2] at fR
  have hbz : Bz (f_X4_read S 13).1 := by
    rw [e1]
    rcases p6 with h | h
    · exact Or.inl h.1
    · exact Or.inr h.1
  refine ⟨⟨⟨(clear_at hS).1, fun r1 q1 S2 q2 => ?_, fun r1 q1 S2 q2 r3 q3 => ?_, fun r1 q1 S2 q2 r3 q3 r4 q4 x5 q5 S6 q6 => ?_⟩, fun r1 q1 _ => fun r2 q2 S2 q3 => p_takeUp _ _ _ _, fun _ _ _ _ _ => p_many _ _ _⟩, way_p p2 p3 p5, ?_⟩
  · rw [← q2, ← q1]; exact p1
  · rw [← q3, ← q2, ← q1]; exact p4
  · rw [← q5, ← q4, ← q3, ← q2, ← q1]
    have : (f_X4_readText (cT S) 13).1 = 0 ∨ (f_X4_readText (cT S) 13).1 = 1 := by rw [e1] at hbz; exact hbz
    exact this
  · rcases p6 with ⟨r0, hFE⟩ | ⟨r0, N, hGd⟩
    · exact kway_f hI r0 hFE
    · exact kway_t hI r0 hGd
