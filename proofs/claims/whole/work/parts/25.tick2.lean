-- needs: 24.tick
/-- the model's loop in work -/
def WL (T : HSt) : Nat → Int32 := fun j => gI T 64 (20 + j)
/-- the rope's numbers, in the scene and in the model -/
def PRm (S : HSt) (sc : Nat) (T : HSt) : Prop := (f_X12_ropeOf T 64 0 = gI S sc 4 ∧ f_X12_ropeOf T 64 1 = gI S sc 5 ∧ f_X12_ropeOf T 64 2 = gI S sc 6) ∧ (bw (gI S sc 4) 0 400 ∧ bw (gI S sc 5) 0 9 ∧ bw (gI S sc 6) 0 1) ∧ bw (gI T 64 18) 0 2
theorem PRm.of {n sc : Nat} {S T : HSt} {Lv : Nat → Int32} {hh : Int32} (hR : SceneR n sc S (gI T 68) Lv (gI T 64 18) hh) : PRm S sc T := by
  obtain ⟨-, hB, ⟨hr, -, h4, h5, h6, -⟩, -⟩ := hR
  obtain ⟨r, hr2, e⟩ := nI_of_bw (n := 3) hr.1 (by have := hr.2; omega) (by omega)
  have hb := hB.2.1 r hr2
  refine ⟨⟨(rope_at T hr (k := 0) (by decide)).1.trans h4.symm, (rope_at T hr (k := 1) (by decide)).1.trans h5.symm, (rope_at T hr (k := 2) (by decide)).1.trans h6.symm⟩, ⟨?_, ?_, ?_⟩, hr⟩
  · rw [h4, e, nI_clamp' (by omega)]; exact hb.1
  · rw [h5, e, nI_clamp' (by omega)]; exact hb.2.1
  · rw [h6, e, nI_clamp' (by omega)]; exact hb.2.2.1
theorem PRm.p {S : HSt} {sc : Nat} {T U : HSt} (h : PRm S sc T) (hU : gI U 64 18 = gI T 64 18) {k : Nat} (hk : k < 3) : p_X12_ropeOf U 64 (nI k) := (rope_at U (by rw [hU]; exact h.2.2) hk).2
theorem tnm_2 (x : Int32) : x - x = 0 := by
  rw [ti_eq, ti_sub (by omega) (by omega), ti0]
  omega
theorem Bz.bw {x : Int32} (h : Bz x) : bw x 0 1 := by
  rcases h with q | q <;> rw [q] <;> exact ⟨by decide, by decide⟩
theorem len_ti {x : Int32} (h : bw x 0 400) : (x / (2 : Int32)).toInt = x.toInt / 2 := by
  rw [ti_div (by decide), show (2 : Int32).toInt = 2 from rfl, Int.tdiv_eq_ediv_of_nonneg h.1]
theorem p_tick {S : HSt} {sc : Nat} {T : HSt} (hP : PRm S sc T) (st up lt tm : Int32) : p_X12_doTick T 64 st up lt tm := by
  refine ⟨?_, ?_, ?_, ?_⟩
  · intro S1 e1 S2 e2
    have h : gI S2 64 18 = gI T 64 18 := by rw [← e2, ← e1]; simp only [gI_sI, if_true, if_false, reduceIte, Nat.reduceEqDiff]
    exact ⟨hP.p h (k := 2) (by decide), fun _ _ => hP.p h (k := 1) (by decide)⟩
  · intro S1 e1 S2 e2 _ _ _ _ _ _
    have h : gI S2 64 18 = gI T 64 18 := by rw [← e2, ← e1]; simp only [gI_sI, if_true, if_false, reduceIte, Nat.reduceEqDiff]
    exact hP.p h (k := 0) (by decide)
  · intro S1 e1 S2 e2 _ _ _ _ _ _ _ _ S20 e20 _ _ _ _ S25 e25 S26 e26
    have h : gI S26 64 18 = gI T 64 18 := by
      rw [← e26, ← e25, ← e20, ← e2, ← e1]
      simp only [bd_def, gI_sI, gI_ite, if_true, if_false, reduceIte, Nat.reduceEqDiff, ite_self]
    exact hP.p h (k := 1) (by decide)
  · intro S1 e1 S2 e2 _ _ _ _ _ _ _ _ S20 e20 _ _ _ _ S25 e25 S26 e26 _
    have h : gI S26 64 18 = gI T 64 18 := by
      rw [← e26, ← e25, ← e20, ← e2, ← e1]
      simp only [bd_def, gI_sI, gI_ite, if_true, if_false, reduceIte, Nat.reduceEqDiff, ite_self]
    exact hP.p h (k := 1) (by decide)
theorem half_bw {x : Int32} {m : Int} (hm : 0 ≤ m ∧ m ≤ 1000) (h : bw x (-m) m) : bw (x / 2) (-m) m := by
  have : (x / (2 : Int32)).toInt = x.toInt.tdiv 2 := ti_div (by decide)
  obtain ⟨h1, h2⟩ := h
  unfold bw
  rw [this]
  rcases Int.le_total 0 x.toInt with q | q
  · rw [Int.tdiv_eq_ediv_of_nonneg q]; omega
  · have : x.toInt.tdiv 2 = -((-x.toInt).tdiv 2) := by rw [Int.neg_tdiv, Int.neg_neg]
    rw [this, Int.tdiv_eq_ediv_of_nonneg (by omega)]; omega
theorem adv_tick {N sc o : Nat} {S T : HSt} (hne : ¬ sc = o) (hP : PRm S sc T) (hN : N ≤ 100000) (hL : LoopR (gI S o) (WL T)) (hB : LoopB N (gI S sc 4) (gI S sc 5) (WL T)) (hk : gI T 64 25 = 0) {st up lt tn tm : Int32} (hlt : bw lt 0 9) (htn : (tm = tn ∧ bw tn 0 15) ∨ (tm = -1000000 ∧ tn = tnd (gI S o 1) up (gI S o 3))) :
    LoopR (gI (f_X1_advance S o sc st up lt tn) o) (WL (f_X12_doTick T 64 st up lt tm)) ∧ LoopB (N + 1) (gI S sc 4) (gI S sc 5) (WL (f_X12_doTick T 64 st up lt tm)) := by
  obtain ⟨⟨r0, r1, r2⟩, ⟨b0, b1, b2⟩, -⟩ := hP
  obtain ⟨l0, l1, l2, l3, l4, l5, l6⟩ := hL
  obtain ⟨z1, z2, z3, z4, z5, z6, z7⟩ := hB
  have l0 : gI S o 0 = gI T 64 20 := l0
  have l1 : gI S o 1 = gI T 64 21 := l1
  have l2 : gI S o 2 = gI T 64 22 := l2
  have l3 : gI S o 3 = gI T 64 23 := l3
  have l4 : gI S o 4 = gI T 64 24 := l4
  have z1 : 0 ≤ (gI T 64 20).toInt ∧ (gI T 64 20).toInt ≤ (gI S sc 4).toInt / 2 := z1
  have z2 : bw (gI T 64 21) 0 15 := z2
  have z3 : bw (gI T 64 22) (-80) 80 := z3
  have z4 : bw (gI T 64 23) 0 (15 * N) := z4
  have z5 : bw (gI T 64 24) 0 N := z5
  have z7 : gI T 64 25 = 1 ↔ (24 + 4 * (gI S sc 5).toInt < (gI T 64 22).toInt ∨ (gI T 64 22).toInt < -(24 + 4 * (gI S sc 5).toInt)) := z7
  have hsp := tnm_bw (sp := gI T 64 21) (up := up) z4.1
  have e1 := tnd_eq (gI S o 1) up (gI S o 3)
  have hsz : bw (gI T 64 20) 0 400 := ⟨z1.1, by have := b0.2; have := z1.2; omega⟩
  have hnd := nd_bw b2 b1 hsz
  have hneed : f_X7_needOf S sc (gI T 64 20) = ndm (gI S sc 6) (gI S sc 5) (gI T 64 20) := by
    have hw : (2 : Int32) * gI S sc 6 = if gI S sc 6 = 1 then 2 else 0 := by
      obtain ⟨w, hw2, ew⟩ := nI_of_bw (n := 2) b2.1 (by have := b2.2; omega) (by omega)
      rw [ew]
      match w, hw2 with
      | 0, _ => rfl
      | 1, _ => rfl
      | k + 2, h => omega
    show (if (1 : Int32) < ((((4 : Int32) + (gI T 64 20 / (20 : Int32))) + ((2 : Int32) * (gI S sc 6))) - ((gI S sc 5) / (4 : Int32))) then ((((4 : Int32) + (gI T 64 20 / (20 : Int32))) + ((2 : Int32) * (gI S sc 6))) - ((gI S sc 5) / (4 : Int32))) else (1 : Int32)) = _
    rw [mx1, hw]
    rfl
  have hroom : f_X7_room S sc = gI S sc 4 / 2 := rfl
  have hlim : f_X7_limit S sc = 24 + 4 * gI S sc 5 := rfl
  -- the twist
  have hnk : bw (gI T 64 22) (-60) 60 := by
    have h9 := b1.2
    have h : ¬ (24 + 4 * (gI S sc 5).toInt < (gI T 64 22).toInt ∨ (gI T 64 22).toInt < -(24 + 4 * (gI S sc 5).toInt)) := fun q => by
      have := z7.mpr q
      rw [hk] at this
      exact absurd this (by decide)
    unfold bw
    omega
  have htw : gI S o 2 + (if st = 0 then tnd (gI S o 1) up (gI S o 3) - tn else (tnd (gI S o 1) up (gI S o 3) - tn) / 2) = twm (gI T 64 22) st (tnm (gI T 64 21) up (gI T 64 23)) tm := by
    rw [e1, l1, l2, l3]
    unfold twm
    rcases htn with ⟨q1, q2⟩ | ⟨q1, q2⟩
    · have hne2 : ¬ tm = -1000000 := fun q => by
        rw [← q1, q] at q2
        have := q2.1
        rw [show (-1000000 : Int32).toInt = -1000000 from rfl] at this
        omega
      rw [if_neg hne2, q1]
    · rw [if_pos q1, q2, tnd_eq, l1, l3, tnm_2]
  have hby : bw (if st = 0 then (if tm = -1000000 then (0 : Int32) else tnm (gI T 64 21) up (gI T 64 23) - tm) else (if tm = -1000000 then (0 : Int32) else tnm (gI T 64 21) up (gI T 64 23) - tm) / 2) (-15) 15 := by
    have hx : bw (if tm = -1000000 then (0 : Int32) else tnm (gI T 64 21) up (gI T 64 23) - tm) (-15) 15 := by
      by_cases c : tm = -1000000
      · rw [if_pos c]; exact ⟨by decide, by decide⟩
      · rw [if_neg c]
        rcases htn with ⟨q1, q2⟩ | ⟨q1, -⟩
        · rw [← q1] at q2
          obtain ⟨g1, g2⟩ := hsp
          obtain ⟨g3, g4⟩ := q2
          unfold bw
          rw [ti_sub (by omega) (by omega)]
          omega
        · exact absurd q1 c
    by_cases c : st = 0
    · rw [if_pos c]; exact hx
    · rw [if_neg c]; exact half_bw (m := 15) (by omega) hx
  have htb : bw (twm (gI T 64 22) st (tnm (gI T 64 21) up (gI T 64 23)) tm) (-75) 75 := by
    unfold twm
    generalize (if st = 0 then (if tm = -1000000 then (0 : Int32) else tnm (gI T 64 21) up (gI T 64 23) - tm) else (if tm = -1000000 then (0 : Int32) else tnm (gI T 64 21) up (gI T 64 23) - tm) / 2) = y at hby
    obtain ⟨g1, g2⟩ := hby
    obtain ⟨g3, g4⟩ := hnk
    unfold bw
    rw [ti_add (by omega) (by omega)]
    omega
  obtain ⟨kn1, kn2, kn3⟩ := kn_eq (tw := twm (gI T 64 22) st (tnm (gI T 64 21) up (gI T 64 23)) tm) b1 ⟨by have := htb.1; omega, by have := htb.2; omega⟩
  have c0 : gI (f_X1_advance S o sc st up lt tn) o 0 = gI (f_X12_doTick T 64 st up lt tm) 64 20 := by
    rw [adv_0 hne, tck_20, r0, r1, r2, l0, hneed, e1, l1, l3, hroom, szc_eq hnd hsp]
  have c1 : gI (f_X1_advance S o sc st up lt tn) o 1 = gI (f_X12_doTick T 64 st up lt tm) 64 21 := by rw [adv_1 hne, tck_21, e1, l1, l3]
  have c2 : gI (f_X1_advance S o sc st up lt tn) o 2 = gI (f_X12_doTick T 64 st up lt tm) 64 22 := by rw [adv_2 hne, tck_22, htw]
  have c6 : gI (f_X1_advance S o sc st up lt tn) o 6 = gI (f_X12_doTick T 64 st up lt tm) 64 25 := by rw [adv_6 hne, tck_25, htw, r1, hlim, kn1]
  have hlk := (lck_ti (st := st) hnd hsp).1
  refine ⟨⟨c0, c1, c2, ?_, ?_, ?_, c6⟩, ⟨?_, ?_, ?_, ?_, ?_, ?_, ?_⟩⟩
  · show _ = gI (f_X12_doTick T 64 st up lt tm) 64 23
    rw [adv_3 hne, tck_23, e1, l1, l3]
  · show _ = gI (f_X12_doTick T 64 st up lt tm) 64 24
    rw [adv_4 hne, tck_24, l4]
  · show _ = gI (f_X12_doTick T 64 st up lt tm) 64 26
    rw [adv_5 hne, tck_26, c6, c0, r0, r1, r2, hroom, l0, hneed, e1, l1, l3]
    unfold whc
    have e : (lck (ndm (gI S sc 6) (gI S sc 5) (gI T 64 20)) st (tnm (gI T 64 21) up (gI T 64 23)) ≤ 0) = ¬ (tnm (gI T 64 21) up (gI T 64 23) < ndm (gI S sc 6) (gI S sc 5) (gI T 64 20) + (if st = 0 then (0 : Int32) else 2)) := by
      apply propext
      rw [ti_le, ti_lt, hlk, ti0]
      omega
    simp only [e, ite_not]
  · show 0 ≤ (gI (f_X12_doTick T 64 st up lt tm) 64 20).toInt ∧ (gI (f_X12_doTick T 64 st up lt tm) 64 20).toInt ≤ _
    rw [tck_20, r0, r1, r2, ← len_ti b0]
    exact szm_bw hnd hsp hlt ⟨by rw [len_ti b0]; have := b0.1; omega, by rw [len_ti b0]; have := b0.2; omega⟩ (by rw [len_ti b0]; exact z1)
  · show bw (gI (f_X12_doTick T 64 st up lt tm) 64 21) 0 15
    rw [tck_21]; exact hsp
  · show bw (gI (f_X12_doTick T 64 st up lt tm) 64 22) (-80) 80
    rw [tck_22]; exact ⟨by have := htb.1; omega, by have := htb.2; omega⟩
  · show bw (gI (f_X12_doTick T 64 st up lt tm) 64 23) 0 (15 * ((N + 1 : Nat) : Int))
    rw [tck_23]
    obtain ⟨g1, g2⟩ := hsp
    obtain ⟨g3, g4⟩ := z4
    unfold bw
    rw [ti_add (by omega) (by omega)]
    omega
  · show bw (gI (f_X12_doTick T 64 st up lt tm) 64 24) 0 ((N + 1 : Nat) : Int)
    rw [tck_24]
    obtain ⟨g3, g4⟩ := z5
    unfold bw
    rw [ti_add (by rw [ti1]; omega) (by rw [ti1]; omega), ti1]
    omega
  · show Bz (gI (f_X12_doTick T 64 st up lt tm) 64 25)
    rw [tck_25, r1]; exact kn2
  · show gI (f_X12_doTick T 64 st up lt tm) 64 25 = 1 ↔ (24 + 4 * (gI S sc 5).toInt < (gI (f_X12_doTick T 64 st up lt tm) 64 22).toInt ∨ (gI (f_X12_doTick T 64 st up lt tm) 64 22).toInt < -(24 + 4 * (gI S sc 5).toInt))
    rw [tck_25, tck_22, r1]; exact kn3
