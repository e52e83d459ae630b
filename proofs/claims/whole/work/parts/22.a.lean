-- needs: 21.lib 14.law
/-! ===== calls that show: status, fault, trace, now, need, piece, kind, act, wraps ===== -/
theorem e64 (k : Nat) : True := trivial
theorem k_status : K_status Inv0 := by
  intro n S hn hI
  exact ⟨hI.2.2.1.1, (hI.same (same_of_fr (by decide) (v_X12_status S 64))).mono (Nat.le_succ n)⟩
theorem k_fault : K_fault Inv0 := by
  intro n S hn hI
  exact ⟨hI.2.2.1.2, (hI.same (same_of_fr (by decide) (v_X12_fault S 64))).mono (Nat.le_succ n)⟩
theorem ti0 : (0 : Int32).toInt = 0 := rfl
theorem ti1 : (1 : Int32).toInt = 1 := rfl
theorem k_trace : K_trace Inv0 := by
  intro n S a hn hI
  obtain ⟨h1, ⟨h2, h3⟩, h4⟩ := hI.2.2.2.1
  have hsub : (gI S 64 51 - (1 : Int32)).toInt = (gI S 64 51).toInt - 1 := ti_sub (by rw [ti1]; omega) (by rw [ti1]; omega)
  have hp : ∀ T : HSt, f_X12_in T a.toInt64 (0 : Int64) (gI S 64 51 - (1 : Int32)).toInt64 = 0 ↔ ¬ (0 ≤ a.toInt ∧ a.toInt < (gI S 64 51).toInt) := fun T => by
    rw [show (0 : Int64) = (0 : Int32).toInt64 from rfl, in_within T S, within_iff, hsub, ti0]
    omega
  refine ⟨fun g1 g2 => ?_, fun S1 e1 g => ?_, ?_, (hI.same (same_of_fr (by decide) (v_X12_trace S 64 a))).mono (Nat.le_succ n)⟩
  · rw [ti_lt, ti0] at g1
    rw [ti_le, h1] at g2
    exact vp_in_iff.mpr ⟨by omega, by omega⟩
  · subst e1
    have := fun q => g ((hp _).mpr q)
    have h5 : 0 ≤ a.toInt ∧ a.toInt < (gI S 64 51).toInt := Classical.not_not.mp this
    exact vp_in_iff.mpr ⟨h5.1, by omega⟩
  · show (if a < 0 then (-1000000 : Int32) else if gI S 62 1 ≤ a then -1000000 else gI S 63 a.toNatClampNeg) = (if f_X12_in (sI S 64 0 0) a.toInt64 (0 : Int64) (gI S 64 51 - (1 : Int32)).toInt64 = 0 then (-1000000 : Int32) else gI S 87 a.toNatClampNeg)
    by_cases c : 0 ≤ a.toInt ∧ a.toInt < (gI S 64 51).toInt
    · rw [if_neg (by rw [ti_lt, ti0]; omega), if_neg (by rw [ti_le, h1]; omega), if_neg (fun q => (hp _).mp q c)]
      exact h4 _ (by rw [ti_cl]; omega)
    · rw [if_pos ((hp _).mpr c)]
      by_cases c1 : a < 0
      · rw [if_pos c1]
      · rw [if_neg c1, if_pos]
        rw [ti_lt, ti0] at c1
        rw [ti_le, h1]
        omega
theorem tell_0 (S : HSt) (o : Nat) : f_X1_tell S o (nI 0) = gI S o 0 := by
  show (F_X1_tell S o (nI 0)).1 = _
  unfold F_X1_tell
  rw [if_pos (show nI 0 = (0 : Int32) by decide)]
  rfl
theorem tell_1 (S : HSt) (o : Nat) : f_X1_tell S o (nI 1) = gI S o 1 := by
  show (F_X1_tell S o (nI 1)).1 = _
  unfold F_X1_tell
  rw [if_neg (show ¬ nI 1 = (0 : Int32) by decide), if_pos (show nI 1 = (1 : Int32) by decide)]
  rfl
theorem tell_2 (S : HSt) (o : Nat) : f_X1_tell S o (nI 2) = gI S o 2 := by
  show (F_X1_tell S o (nI 2)).1 = _
  unfold F_X1_tell
  rw [if_neg (show ¬ nI 2 = (0 : Int32) by decide), if_neg (show ¬ nI 2 = (1 : Int32) by decide), if_pos (show nI 2 = (2 : Int32) by decide)]
  rfl
theorem tell_3 (S : HSt) (o : Nat) : f_X1_tell S o (nI 3) = gI S o 3 := by
  show (F_X1_tell S o (nI 3)).1 = _
  unfold F_X1_tell
  rw [if_neg (show ¬ nI 3 = (0 : Int32) by decide), if_neg (show ¬ nI 3 = (1 : Int32) by decide), if_neg (show ¬ nI 3 = (2 : Int32) by decide), if_pos (show nI 3 = (3 : Int32) by decide)]
  rfl
theorem tell_4 (S : HSt) (o : Nat) : f_X1_tell S o (nI 4) = gI S o 4 := by
  show (F_X1_tell S o (nI 4)).1 = _
  unfold F_X1_tell
  rw [if_neg (show ¬ nI 4 = (0 : Int32) by decide), if_neg (show ¬ nI 4 = (1 : Int32) by decide), if_neg (show ¬ nI 4 = (2 : Int32) by decide), if_neg (show ¬ nI 4 = (3 : Int32) by decide), if_pos (show nI 4 = (4 : Int32) by decide)]
  rfl
theorem tell_5 (S : HSt) (o : Nat) : f_X1_tell S o (nI 5) = if gI S o 6 = 0 then 0 else 1 := by
  show (F_X1_tell S o (nI 5)).1 = _
  unfold F_X1_tell
  rw [if_neg (show ¬ nI 5 = (0 : Int32) by decide), if_neg (show ¬ nI 5 = (1 : Int32) by decide), if_neg (show ¬ nI 5 = (2 : Int32) by decide), if_neg (show ¬ nI 5 = (3 : Int32) by decide), if_neg (show ¬ nI 5 = (4 : Int32) by decide)]
  rfl
theorem k_now : K_now Inv0 := by
  intro n S a hn hI
  obtain ⟨⟨-, -, -, ⟨l0, l1, l2, l3, l4, l5, l6⟩, hLB⟩, hth, -⟩ := hI.2.2.2.2.1
  have hz : Bz (gI S 71 5) := hLB.2.2.2.2.2.1
  have hp : ∀ T : HSt, f_X12_in T a.toInt64 (0 : Int64) (6 : Int64) = f_X11_within S a 0 6 := fun T => by
    rw [show (0 : Int64) = (0 : Int32).toInt64 from rfl, show (6 : Int64) = (6 : Int32).toInt64 from rfl, in_within T S]
  refine ⟨fun S1 e1 g1 _ => ?_, ?_, (hI.same (same_of_fr (by decide) (v_X12_now S 64 a))).mono (Nat.le_succ n)⟩
  · rw [hp] at g1
    have h := within_1 S g1
    exact vp_in_iff.mpr ⟨h.1, by have := h.2; have e6 : (6 : Int32).toInt = 6 := rfl; omega⟩
  · show (F_X11_now S 0 a).1 = (if f_X12_in (sI S 64 0 0) a.toInt64 (0 : Int64) (6 : Int64) = 0 then (-9000000000000000001 : Int64) else if gI S 64 7 = 0 then (-9000000000000000002 : Int64) else (gI S 71 a.toNatClampNeg).toInt64)
    rw [hp]
    unfold F_X11_now
    by_cases c1 : f_X11_within S a 0 6 = 0
    · rw [if_pos c1, if_pos c1]; rfl
    · rw [if_neg c1, if_neg c1, hth]
      by_cases c2 : gI S 64 7 = 0
      · rw [if_pos c2, if_pos c2]; rfl
      · rw [if_neg c2, if_neg c2, bd_def]
        show (if a = 6 then (gI S 22 5).toInt64 else (f_X1_tell S 22 a).toInt64) = _
        have h := within_1 S c1
        have e6 : (6 : Int32).toInt = 6 := rfl
        obtain ⟨i, hi, rfl⟩ := nI_of_bw (n := 7) h.1 (by have := h.2; omega) (by omega)
        rw [nI_clamp' (by omega)]
        have hc : i = 0 ∨ i = 1 ∨ i = 2 ∨ i = 3 ∨ i = 4 ∨ i = 5 ∨ i = 6 := by omega
        clear h hi c1
        rcases hc with rfl | rfl | rfl | rfl | rfl | rfl | rfl
        · rw [if_neg (show ¬ nI 0 = 6 by decide), tell_0, show gI S 22 0 = gI S 71 0 from l0]
        · rw [if_neg (show ¬ nI 1 = 6 by decide), tell_1, show gI S 22 1 = gI S 71 1 from l1]
        · rw [if_neg (show ¬ nI 2 = 6 by decide), tell_2, show gI S 22 2 = gI S 71 2 from l2]
        · rw [if_neg (show ¬ nI 3 = 6 by decide), tell_3, show gI S 22 3 = gI S 71 3 from l3]
        · rw [if_neg (show ¬ nI 4 = 6 by decide), tell_4, show gI S 22 4 = gI S 71 4 from l4]
        ·
          rw [if_neg (show ¬ nI 5 = 6 by decide), tell_5, show gI S 22 6 = gI S 71 5 from l6]
          rcases hz with q | q <;> rw [q] <;> rfl
        · rw [if_pos (show nI 6 = 6 by decide), show gI S 22 5 = gI S 71 6 from l5]
/-- the rope in hand, in the model -/
theorem rope_at (T : HSt) {k : Nat} (hr : bw (gI T 64 18) 0 2) (hk : k < 3) : f_X12_ropeOf T 64 (nI k) = gI T 68 (6 + 3 * (gI T 64 18).toNatClampNeg + k) ∧ p_X12_ropeOf T 64 (nI k) := by
  obtain ⟨r, hr2, e⟩ := nI_of_bw (n := 3) hr.1 (by have := hr.2; omega) (by omega)
  have hx : ((6 : Int32) + (3 : Int32) * gI T 64 18) + nI k = nI (6 + 3 * r + k) := by
    rw [e, show (6 : Int32) = nI 6 from rfl, show (3 : Int32) = nI 3 from rfl, pk_mul, nI_add, nI_add]
  constructor
  · show gI T 68 (((6 : Int32) + (3 : Int32) * gI T 64 18) + nI k).toNatClampNeg = _
    rw [hx, nI_clamp' (by omega), e, nI_clamp' (by omega)]
  · show vp_in (((6 : Int32) + (3 : Int32) * gI T 64 18) + nI k) 172
    rw [hx]
    exact vp_in_nI (by omega) (by omega)
theorem mx1 (x : Int32) : (if (1 : Int32) < x then x else 1) = (if (1 : Int32) ≤ x then x else 1) := by
  by_cases h : (1 : Int32) < x
  · rw [if_pos h, if_pos (by rw [ti_lt] at h; rw [ti_le]; omega)]
  · rw [if_neg h]
    by_cases h2 : (1 : Int32) ≤ x
    · rw [if_pos h2]
      rw [ti_lt] at h
      rw [ti_le] at h2
      rw [ti_eq]
      omega
    · rw [if_neg h2]
theorem need_eq {n sc : Nat} {S T : HSt} {Lv : Nat → Int32} {hh : Int32} (hR : SceneR n sc S (gI T 68) Lv (gI T 64 18) hh) (a : Int32) : f_X7_needOf S sc a = f_X12_needOf T 64 a ∧ p_X12_needOf T 64 a := by
  obtain ⟨-, hB, ⟨hr, -, h4, h5, h6, -⟩, -⟩ := hR
  obtain ⟨r1, p1⟩ := rope_at T hr (k := 1) (by decide)
  obtain ⟨r2, p2⟩ := rope_at T hr (k := 2) (by decide)
  refine ⟨?_, p2, fun _ _ => p1⟩
  have hw : (2 : Int32) * gI S sc 6 = if f_X12_ropeOf T 64 (2 : Int32) = 1 then 2 else 0 := by
    rw [show f_X12_ropeOf T 64 (2 : Int32) = gI S sc 6 from r2.trans h6.symm, h6]
    obtain ⟨r, hr2, e⟩ := nI_of_bw (n := 3) hr.1 (by have := hr.2; omega) (by omega)
    have hb := (hB.2.1 r hr2).2.2.1
    rw [e, nI_clamp' (by omega)]
    obtain ⟨w, hw2, ew⟩ := nI_of_bw (n := 2) hb.1 (by have := hb.2; omega) (by omega)
    rw [ew]
    match w, hw2 with
    | 0, _ => rfl
    | 1, _ => rfl
    | k + 2, h => omega
  show (if (1 : Int32) < ((((4 : Int32) + (a / (20 : Int32))) + ((2 : Int32) * (gI S sc 6))) - ((gI S sc 5) / (4 : Int32))) then ((((4 : Int32) + (a / (20 : Int32))) + ((2 : Int32) * (gI S sc 6))) - ((gI S sc 5) / (4 : Int32))) else (1 : Int32)) = (if (1 : Int32) ≤ ((((4 : Int32) + (a / (20 : Int32))) + (if f_X12_ropeOf T 64 (2 : Int32) = 1 then 2 else 0)) - ((f_X12_ropeOf T 64 (1 : Int32)) / (4 : Int32))) then ((((4 : Int32) + (a / (20 : Int32))) + (if f_X12_ropeOf T 64 (2 : Int32) = 1 then 2 else 0)) - ((f_X12_ropeOf T 64 (1 : Int32)) / (4 : Int32))) else (1 : Int32))
  rw [mx1, hw, show f_X12_ropeOf T 64 (1 : Int32) = gI S sc 5 from r1.trans h5.symm]
theorem k_need : K_need Inv0 := by
  intro n S a hn hI
  obtain ⟨hR, hth, -⟩ := hI.2.2.2.2.1
  have hR1 : SceneR n 18 S (gI (sI S 64 0 0) 68) (gI S 71) (gI (sI S 64 0 0) 64 18) (gI S 64 19) := hR
  have hp : ∀ T : HSt, f_X12_in T a.toInt64 (0 : Int64) (200 : Int64) = f_X11_within S a 0 200 := fun T => by
    rw [show (0 : Int64) = (0 : Int32).toInt64 from rfl, show (200 : Int64) = (200 : Int32).toInt64 from rfl, in_within T S]
  refine ⟨fun S1 e1 _ _ => ?_, ?_, (hI.same (same_of_fr (by decide) (v_X12_need S 64 a))).mono (Nat.le_succ n)⟩
  · rw [← e1]; exact (need_eq hR1 a).2
  · show (F_X11_need S 0 a).1 = (if f_X12_in (sI S 64 0 0) a.toInt64 (0 : Int64) (200 : Int64) = 0 then (-9000000000000000001 : Int64) else if gI S 64 7 = 0 then (-9000000000000000002 : Int64) else (f_X12_needOf (sI S 64 0 0) 64 a).toInt64)
    rw [hp, ← (need_eq hR1 a).1, ← hth]
    unfold F_X11_need
    by_cases c1 : f_X11_within S a 0 200 = 0
    · rw [if_pos c1, if_pos c1]; rfl
    · rw [if_neg c1, if_neg c1]; rfl
theorem k_piece : K_piece Inv0 := by
  intro n S a hn hI
  obtain ⟨⟨-, hB, ⟨hr, -, h4, -⟩, ⟨l0, -⟩, -⟩, hth, -⟩ := hI.2.2.2.2.1
  obtain ⟨r0, p0⟩ := rope_at (sI S 64 0 0) (k := 0) hr (by decide)
  have h4' : f_X12_ropeOf (sI S 64 0 0) 64 (0 : Int32) = gI S 18 4 := r0.trans h4.symm
  refine ⟨fun S1 e1 _ => by rw [← e1]; exact p0, ?_, (hI.same (same_of_fr (by decide) (v_X12_piece S 64 a))).mono (Nat.le_succ n)⟩
  show (F_X11_piece S 0 a).1 = (f_X12_piece S 64 a).1
  unfold F_X11_piece f_X12_piece
  rw [bd_def, show gI (sI S 64 0 0) 64 7 = gI S 64 7 from rfl, hth]
  by_cases c1 : gI S 64 7 = 0
  · rw [if_pos c1, if_pos c1]; rfl
  · rw [if_neg c1, if_neg c1, h4']
    have hb : bw (gI S 18 4) 0 400 := by
      obtain ⟨r, hr2, e⟩ := nI_of_bw (n := 3) hr.1 (by have := hr.2; omega) (by omega)
      rw [h4, e, nI_clamp' (by omega)]
      exact (hB.2.1 r hr2).1
    have hd : (gI S 18 4 / (10 : Int32)).toInt = (gI S 18 4).toInt / 10 := by
      rw [ti_div (by decide), show (10 : Int32).toInt = 10 from rfl, Int.tdiv_eq_ediv_of_nonneg hb.1]
    have h1 := hb.1
    have h2 := hb.2
    have hs : (gI S 18 4 / (10 : Int32) - (1 : Int32)).toInt = (gI S 18 4).toInt / 10 - 1 := by
      rw [ti_sub (by rw [hd, ti1]; omega) (by rw [hd, ti1]; omega), hd, ti1]
    have hin : f_X12_in (sI S 64 0 0) a.toInt64 (0 : Int64) (gI S 18 4 / (10 : Int32) - (1 : Int32)).toInt64 = 0 ↔ ¬ (0 ≤ a.toInt ∧ a.toInt < (gI S 18 4).toInt / 10) := by
      rw [show (0 : Int64) = (0 : Int32).toInt64 from rfl, in_within _ S, within_iff, hs, ti0]
      omega
    have hpc : f_X7_pieces S 18 = gI S 18 4 / (10 : Int32) := rfl
    by_cases c2 : 0 ≤ a.toInt ∧ a.toInt < (gI S 18 4).toInt / 10
    · rw [if_neg (fun q => hin.mp q c2), if_neg (by rw [ti_lt, ti0]; omega), if_pos (by rw [hpc, ti_lt, hd]; exact c2.2)]
      rw [bd_def, bd_def]
      show (f_X1_whereIs S 22 a).toInt64 = (if gI S 71 0 / 10 ≤ a then (if a = gI S 71 0 / 10 then (3 : Int64) else if gI S 71 0 / 10 + 4 + gI S 71 0 / 40 < a then 0 else 1) else 2)
      have hw : f_X1_whereIs S 22 a = (if gI S 71 0 / 10 ≤ a then (if a = gI S 71 0 / 10 then (3 : Int32) else if gI S 71 0 / 10 + 4 + gI S 71 0 / 40 < a then 0 else 1) else 2) := by
        show (F_X1_whereIs S 22 a).1 = _
        unfold F_X1_whereIs
        rw [bd_def, show gI S 22 0 = gI S 71 0 from l0]
        by_cases d1 : gI S 71 0 / 10 ≤ a
        · rw [if_pos d1, if_pos d1]
          by_cases d2 : a = gI S 71 0 / 10
          · rw [if_pos d2, if_pos d2]; rfl
          · rw [if_neg d2, if_neg d2]; rfl
        · rw [if_neg d1, if_neg d1]; rfl
      rw [hw]
      by_cases d1 : gI S 71 0 / 10 ≤ a
      · rw [if_pos d1, if_pos d1]
        by_cases d2 : a = gI S 71 0 / 10
        · rw [if_pos d2, if_pos d2]; rfl
        · rw [if_neg d2, if_neg d2]
          by_cases d3 : gI S 71 0 / 10 + 4 + gI S 71 0 / 40 < a
          · rw [if_pos d3, if_pos d3]; rfl
          · rw [if_neg d3, if_neg d3]; rfl
      · rw [if_neg d1, if_neg d1]; rfl
    · rw [if_pos (hin.mpr c2)]
      by_cases d1 : a < 0
      · rw [if_pos d1]; rfl
      · rw [if_neg d1, if_neg]
        · rfl
        · rw [ti_lt, ti0] at d1
          rw [hpc, ti_lt, hd]
          omega
