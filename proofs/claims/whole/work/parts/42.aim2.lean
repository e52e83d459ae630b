-- needs: 41.aim
theorem add_c {e D P wide gait duck size s a v : Int32} (hD : bw D 0 100000) (hP : bw P 0 15) (hw : bw wide 0 100) (hz : bw size 0 200) (hs : bw s (-1000) 1000) (ha : a = if 0 ≤ s then s else 0) : (if cFl D P s ≤ 0 then v else (if size < szF e wide (cFl D P s) then v else v + o12 e gait duck (cFl D P s))) = v + addF e D P wide gait duck size a := by
  unfold addF
  rcases fl_eq hD ⟨hP.1, by have := hP.2; omega⟩ hs ha with ⟨h1, h2, h3⟩ | ⟨h1, h2⟩
  · rw [if_pos h1, h2, if_neg (by rw [ti_le, ti0]; omega)]
    obtain ⟨b1, b2⟩ := sz_bw (e := e) hw (mFl_bw h1)
    have to : (ovF e wide (mFl D (a - P)) size).toInt = size.toInt - (szF e wide (mFl D (a - P))).toInt := by
      rw [ov_sz, ti_sub (by have := hz.1; omega) (by have := hz.2; omega)]
    by_cases c : size < szF e wide (mFl D (a - P))
    · have c' := c
      rw [ti_lt] at c'
      rw [if_pos c, if_neg (by rw [ti_le, ti0, to]; omega), Int32.add_zero]
    · have c' := c
      rw [ti_lt] at c'
      rw [if_neg c, if_pos (by rw [ti_le, ti0, to]; omega)]
  · rw [if_neg h1, h2, if_pos (by decide), Int32.add_zero]
def CTos (S : HSt) (o : Nat) (e D pace wide gait duck sh : Int32) : Prop := gI S o 4 = e ∧ gI S o 5 = sh ∧ gI S o 6 = D ∧ gI S o 7 = pace ∧ gI S o 8 = wide ∧ gI S o 9 = gait ∧ gI S o 10 = duck
def stF (size kk : Int32) : Int32 := if kk = 0 then (if size = 0 then 1 else 0) else 1
theorem stF_v {T : HSt} {i : Nat} {far pace wide gait duck lag near sh size spin tick kk : Int32} (h : TMod T i far pace wide gait duck lag near sh size spin tick kk) : f_X12_isStill T 64 = stF size kk := by
  rw [still_v, h.2.2.2.2.1.2.2.2, h.2.2.2.2.1.1]
  rfl
theorem sum_L {S : HSt} {o i : Nat} {e far pace wide gait duck lag near sh size spin tick kk : Int32} (hC : CTos S o e (tD far lag near tick) pace wide gait duck sh) : ∀ (n : Nat) (T : HSt) (v3 w3 v4 v5 : Int32), TMod T i far pace wide gait duck lag near sh size spin tick kk → -sh.toInt ≤ v4.toInt → v4.toInt ≤ sh.toInt + 1 → sh.toInt + 1 - v4.toInt < n → v5 = spin + v4 → (stF size kk = 0 → v3 = w3) → T_X9_sumAt_9 o n S size spin v3 v4 ∧ T_X12_oddsOf_17 n T e (nI i) sh w3 v5 ∧ (stF size kk = 0 → (L_X9_sumAt_9 o n S size spin v3 v4).2.2.1 = (L_X12_oddsOf_17 n T e (nI i) sh w3 v5).2.2.2.1) ∧ (¬ stF size kk = 0 → (L_X12_oddsOf_17 n T e (nI i) sh w3 v5).2.2.2.1 = w3) ∧ TMod (L_X12_oddsOf_17 n T e (nI i) sh w3 v5).2.2.2.2.2 i far pace wide gait duck lag near sh size spin tick kk := by
  obtain ⟨k4, k5, k6, k7, k8, k9, k10⟩ := hC
  intro n
  induction n with
  | zero => intro T v3 w3 v4 v5 _ _ _ h; omega
  | succ n ih =>
    intro T v3 w3 v4 v5 hT g1 g2 g3 h5 heq
    have hT' := hT
    obtain ⟨-, -, -, -, ⟨-, c1, -, -⟩, ⟨b0, b1, b2, b3, -⟩, ⟨l0, l1, l2⟩, z0, z1, z2, -⟩ := hT'
    have hD := tD_bw b0 l0 l1 z2
    have t5 : v5.toInt = spin.toInt + v4.toInt := by rw [h5, ti_add (by have := z1.1; have := l2.2; omega) (by have := z1.2; have := l2.2; omega)]
    have tsp : (spin + sh).toInt = spin.toInt + sh.toInt := ti_add (by have := z1.1; have := l2.1; omega) (by have := z1.2; have := l2.2; omega)
    unfold T_X9_sumAt_9 T_X12_oddsOf_17 L_X9_sumAt_9 L_X12_oddsOf_17
    rw [k5, c1]
    by_cases c : sh < v4
    · have c2 : spin + sh < v5 := by rw [ti_lt] at c ⊢; omega
      rw [if_pos c, if_pos c2]
      exact ⟨⟨fun q => absurd c q, fun q => absurd c q, fun q => absurd c q⟩, ⟨fun q => absurd c2 q, fun q => absurd c2 q⟩, heq, fun _ => rfl, hT⟩
    · have c2 : ¬ spin + sh < v5 := by rw [ti_lt] at c ⊢; omega
      rw [if_neg c, if_neg c2]
      simp only [bd_def]
      have c' := c
      rw [ti_lt] at c'
      obtain ⟨o1, o2, o3⟩ := odds_at hT e (if 0 ≤ v5 then v5 else 0)
      rw [stF_v hT] at o2
      have hT2 : TMod (f_X12_oddsBy T 64 e (nI i) (if 0 ≤ v5 then v5 else 0)).2 i far pace wide gait duck lag near sh size spin tick kk := by
        rcases o3 with q | ⟨v, q⟩
        · rw [q]; exact hT
        · rw [q]; exact hT.s v
      have tv : (v4 + 1).toInt = v4.toInt + 1 := by rw [ti_add (by rw [ti1]; have := l2.2; omega) (by rw [ti1]; have := l2.2; omega), ti1]
      have hadd : ∀ v : Int32, (if f_X9_flightBy S o (spin + v4) ≤ 0 then v else (if size < f_X9_sizeFor S o (f_X9_flightBy S o (spin + v4)) then v else v + f_X9_ofTwelve S o (f_X9_flightBy S o (spin + v4)))) = v + addF e (tD far lag near tick) pace wide gait duck size (if 0 ≤ v5 then v5 else 0) := fun v => by
        rw [fl_v, sz_v, o12_v S o _ (by rw [k9]; have := b3.1; omega), k4, k6, k7, k8, k9, k10, ← h5]
        exact add_c hD b1 b2 z0 ⟨by have := z1.1; have := l2.2; omega, by have := z1.2; have := l2.2; omega⟩ rfl
      generalize hV : (if f_X9_flightBy S o (spin + v4) ≤ 0 then v3 else (if size < f_X9_sizeFor S o (f_X9_flightBy S o (spin + v4)) then v3 else v3 + f_X9_ofTwelve S o (f_X9_flightBy S o (spin + v4)))) = V
      have hV2 := hadd v3
      rw [hV] at hV2
      obtain ⟨i1, i2, i3, i4, i5⟩ := ih (f_X12_oddsBy T 64 e (nI i) (if 0 ≤ v5 then v5 else 0)).2 V (w3 + (f_X12_oddsBy T 64 e (nI i) (if 0 ≤ v5 then v5 else 0)).1) (v4 + 1) (v5 + 1) hT2 (by rw [tv]; omega) (by rw [tv]; omega) (by rw [tv]; omega) (by rw [h5, Int32.add_assoc]) (fun q => by rw [hV2, o2, if_pos q, heq q])
      refine ⟨⟨fun _ => p_fl S o _, fun _ x _ _ _ => p_o12 S o x, fun _ x hx y hy => ?_⟩, ⟨fun _ x hx => by rw [← hx]; exact o1, fun _ x hx r hr y hy => ?_⟩, i3, fun q => ?_, i5⟩
      · rw [← hy, ← hx]
        exact hV ▸ i1
      · rw [← hy, ← hr, ← hx]
        exact i2
      · rw [i4 q, o2, if_neg q, Int32.add_zero]
theorem face_at {S : HSt} {o sc i : Nat} (h1 : o ≠ sc) (h2 : o ≠ sc + 3) (hi : i < 4) (tick a3 : Int32) : (gI (f_X9_face S o sc tick a3 (nI i)) o 4 = (if a3 = 1 then 1 else 0) ∧ gI (f_X9_face S o sc tick a3 (nI i)) o 5 = gI S sc 9 ∧ gI (f_X9_face S o sc tick a3 (nI i)) o 6 = tD (gI S (sc + 3) ((6 + i) * 5)) (gI S sc 7) (gI S sc 8) tick ∧ gI (f_X9_face S o sc tick a3 (nI i)) o 7 = gI S (sc + 3) ((6 + i) * 5 + 1) ∧ gI (f_X9_face S o sc tick a3 (nI i)) o 8 = gI S (sc + 3) ((6 + i) * 5 + 2) ∧ gI (f_X9_face S o sc tick a3 (nI i)) o 9 = gI S (sc + 3) ((6 + i) * 5 + 3) ∧ gI (f_X9_face S o sc tick a3 (nI i)) o 10 = gI S (sc + 3) ((6 + i) * 5 + 4)) ∧ gI (f_X9_face S o sc tick a3 (nI i)) o 3 = 12 * (2 * gI S sc 9 + 1) ∧ (∀ a, a ≠ o → gI (f_X9_face S o sc tick a3 (nI i)) a = gI S a) ∧ p_X9_face S o sc tick a3 (nI i) := by
  have V : ∀ (U : HSt) f, f < 5 → f_X10_value U (sc + 1) 2 (nI i) (nI f) = gI U (sc + 3) ((6 + i) * 5 + f) := fun U f hf => val_at U (sc + 1) (s := 2) (i := i) (f := f) (by decide) hi hf
  have V0 : ∀ U : HSt, f_X10_value U (sc + 1) 2 (nI i) 0 = gI U (sc + 3) ((6 + i) * 5) := fun U => V U 0 (by decide)
  have V1 : ∀ U : HSt, f_X10_value U (sc + 1) 2 (nI i) 1 = gI U (sc + 3) ((6 + i) * 5 + 1) := fun U => V U 1 (by decide)
  have V2 : ∀ U : HSt, f_X10_value U (sc + 1) 2 (nI i) 2 = gI U (sc + 3) ((6 + i) * 5 + 2) := fun U => V U 2 (by decide)
  have V3 : ∀ U : HSt, f_X10_value U (sc + 1) 2 (nI i) 3 = gI U (sc + 3) ((6 + i) * 5 + 3) := fun U => V U 3 (by decide)
  have V4 : ∀ U : HSt, f_X10_value U (sc + 1) 2 (nI i) 4 = gI U (sc + 3) ((6 + i) * 5 + 4) := fun U => V U 4 (by decide)
  have hd : ∀ (U : HSt) (x : Int32), f_X7_distance U sc x tick = tD x (gI U sc 7) (gI U sc 8) tick := fun U x => rfl
  refine ⟨?_, ?_, fun a ha => ?_, ⟨fun _ _ _ _ _ _ _ _ => p_val _ _ _ _ _, fun _ _ _ _ _ _ _ _ _ _ => p_val _ _ _ _ _, fun _ _ _ _ _ _ _ _ _ _ _ _ => p_val _ _ _ _ _, fun _ _ _ _ _ _ _ _ _ _ _ _ _ _ => p_val _ _ _ _ _, fun _ _ _ _ _ _ _ _ _ _ _ _ _ _ _ _ => p_val _ _ _ _ _⟩⟩
  · unfold f_X9_face
    simp only [bd_def, V0, V1, V2, V3, V4, hd, gs_ne (Ne.symm h1), gs_ne (Ne.symm h2), gs_eq, if_true, if_false, reduceIte, Nat.reduceEqDiff, and_self]
  · unfold f_X9_face
    simp only [bd_def, gs_ne (Ne.symm h1), gs_ne (Ne.symm h2), gs_eq, if_true, if_false, reduceIte, Nat.reduceEqDiff]
  · unfold f_X9_face
    simp only [bd_def]
    rw [gs_ne ha, gs_ne ha, gs_ne ha, gs_ne ha, gs_ne ha, gs_ne ha, gs_ne ha, gs_ne ha]
