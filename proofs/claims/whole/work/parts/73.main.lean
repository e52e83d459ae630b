-- needs: 72.round
/-! ===== way: the whole text ===== -/
theorem FE.pos {S T : HSt} (h : FE S T) : 0 < (gI T 64 16).toInt := by
  obtain ⟨c, c1, c3, -, h16, -⟩ := h
  rw [h16]; exact nI_c13 c1 c3
theorem mi_Rw {N w : Nat} {T : HSt} (h : MI N T) (hg : mg (sO w) ≤ 4) : MI N (Rw w T) := by
  have h3 : w ≤ 3 := by
    unfold mg sO at hg
    by_cases q : 5 < w
    · rw [if_pos q, if_neg (show ¬ (5 : Nat) = 4 by decide)] at hg; omega
    · rw [if_neg q] at hg
      by_cases q2 : w = 4
      · rw [if_pos q2] at hg; omega
      · rw [if_neg q2] at hg; omega
  unfold Rw
  rw [if_pos (by omega)]
  exact h.Rm w h3
theorem cnt_up {T T' : HSt} {s i : Nat} (hs : s < 6) (hi : i < 100) (hc : gI T 69 s = nI i) (h : ∀ x, x < 6 → gI T' 69 x = if x = s then nI (i + 1) else gI T 69 x) : cntr T' = cntr T + 1 := by
  unfold cntr
  rw [h 0 (by omega), h 1 (by omega), h 2 (by omega), h 3 (by omega), h 4 (by omega), h 5 (by omega)]
  have e1 : (nI (i + 1)).toInt = i + 1 := by rw [nI_ti (by omega)]; omega
  have e0 : (gI T 69 s).toInt = i := by rw [hc, nI_ti (by omega)]
  have hc6 : s = 0 ∨ s = 1 ∨ s = 2 ∨ s = 3 ∨ s = 4 ∨ s = 5 := by omega
  rcases hc6 with rfl | rfl | rfl | rfl | rfl | rfl
  all_goals simp only [reduceIte, Nat.reduceEqDiff, e1]
  all_goals omega
theorem cntr_le {W : HSt} (h : WayB (gI W 69)) : cntr W ≤ 37 := by
  obtain ⟨⟨h0, h1, h2, h3, h4, h5⟩, -⟩ := h
  unfold cntr
  unfold bw at h0 h1 h2 h3 h4 h5
  omega
theorem cnt_b {W : HSt} (h : WayB (gI W 69)) {s : Nat} (hs : s < 6) : 0 ≤ (gI W 69 s).toInt ∧ (gI W 69 s).toInt ≤ rom_ s := by
  obtain ⟨⟨h0, h1, h2, h3, h4, h5⟩, -⟩ := h
  have hc6 : s = 0 ∨ s = 1 ∨ s = 2 ∨ s = 3 ∨ s = 4 ∨ s = 5 := by omega
  rcases hc6 with rfl | rfl | rfl | rfl | rfl | rfl
  · exact h0
  · exact h1
  · exact h2
  · exact h3
  · exact h4
  · exact h5
/-- what a class's thing leaves of the fault -/
theorem next_7 (S : HSt) : gI (f_X4_next S 13) 13 7 = gI S 13 7 := v_X4_next S 13 13 7 (by decide) (by decide)
theorem thing_L : ∀ (n : Nat) (S : HSt) (v1 v2 v3 v4 v5 : Int32), ((L_X4_readThing_28 n S v1 v2 v3 v4 v5).1 = 1 ∧ (L_X4_readThing_28 n S v1 v2 v3 v4 v5).2.1 = 0) ∨ ((L_X4_readThing_28 n S v1 v2 v3 v4 v5).1 = 0 ∧ gI (L_X4_readThing_28 n S v1 v2 v3 v4 v5).2.2.2.2.2.2.2 13 7 = gI S 13 7) := by
  intro n
  induction n with
  | zero => exact fun S v1 v2 v3 v4 v5 => Or.inl ⟨rfl, rfl⟩
  | succ n ih =>
    intro S v1 v2 v3 v4 v5
    unfold L_X4_readThing_28
    simp only [bd_def]
    by_cases c1 : (tbF 3).getD v1.toNatClampNeg 0 ≤ v5
    · rw [if_pos c1]; exact Or.inr ⟨rfl, rfl⟩
    rw [if_neg c1]
    by_cases c2 : gI S 13 3 = (2 : Int32)
    · rw [if_pos c2]
      by_cases c3 : gI S 13 6 < f_X4_lowOf S 13 v1 v5 v3
      · rw [if_pos c3]; exact Or.inl ⟨rfl, rfl⟩
      rw [if_neg c3]
      by_cases c4 : gI S 13 6 ≤ f_X4_highOf S 13 v1 v5
      · rw [if_pos c4]
        have e7 : gI (f_X4_next (f_X10_put S 15 v2 v3 (v4 + v5) (gI S 13 6)) 13) 13 7 = gI S 13 7 := by
          rw [next_7]
          exact v_X10_put S 15 v2 v3 (v4 + v5) (gI S 13 6) 13 7 (by decide) (by decide)
        rcases ih (f_X4_next (f_X10_put S 15 v2 v3 (v4 + v5) (gI S 13 6)) 13) v1 v2 v3 v4 (v5 + 1) with h | h
        · exact Or.inl h
        · exact Or.inr ⟨h.1, h.2.trans e7⟩
      · rw [if_neg c4]; exact Or.inl ⟨rfl, rfl⟩
    · rw [if_neg c2]; exact Or.inl ⟨rfl, rfl⟩
theorem thing_7 (S : HSt) (a b : Int32) (h : ¬ (f_X4_readThing S 13 a b).1 = 0) : gI (f_X4_readThing S 13 a b).2 13 7 = gI S 13 7 := by
  unfold f_X4_readThing at h ⊢
  simp only [bd_def] at h ⊢
  rcases thing_L 1000 (f_X4_next S 13) a b (f_X10_howMany S 15 b) (if b = 5 then 1 else 0) 0 with ⟨q1, q2⟩ | ⟨q1, q2⟩
  · rw [if_pos q1] at h
    exact absurd q2 h
  · generalize L_X4_readThing_28 1000 (f_X4_next S 13) a b (f_X10_howMany S 15 b) (if b = 5 then 1 else 0) 0 = R at *
    have n1 : ¬ R.1 = 1 := by rw [q1]; decide
    rw [if_neg n1] at h ⊢
    by_cases c1 : gI R.2.2.2.2.2.2.2 13 3 = (3 : Int32)
    · rw [if_pos c1] at h ⊢
      rw [pr_2, next_7]
      have e1 : ∀ U : HSt, gI (f_X10_add U 15 R.2.2.2.1) 13 7 = gI U 13 7 := fun U => v_X10_add U 15 _ 13 7 (by decide) (by decide)
      rw [e1]
      rw [next_7] at q2
      by_cases c2 : R.2.2.2.1 = (5 : Int32)
      · rw [if_pos c2]
        exact (v_X10_put _ 15 _ _ _ _ 13 7 (by decide) (by decide)).trans q2
      · rw [if_neg c2]; exact q2
    · rw [if_neg c1] at h
      exact absurd rfl h
/-- a thing is read -/
theorem r_thing {c7 : Int32} {N m g n k fn i : Nat} {S T : HSt} {w : Nat} (hG : GS N S T) (h7 : gI S 13 7 = c7) (hw : w < 10) (hW : WdI T w) (h13 : ¬ gI T 64 13 = 1) (hr : 1 ≤ (gI T 69 0).toInt ∨ w = 0) (hg : g ≤ sO w) (h3 : g ≤ 3 → gI T 69 4 = nI 0) (h4 : w = 4 → g ≤ 3) (hm : cntr T + m = 37) (hkm : k + m ≤ 600) (hn : m < n + 1) (hfn : m + 1 < fn) (hf1 : fn ≤ 1000) (ih : ∀ m', m = m' + 1 → IHm N c7 m') (hi : i < rom_ (sO w)) (hc : gI T 69 (sO w) = nI i)
    (hT' : p_X4_readThing S 13 (nI w) (nI (sO w)) → (¬ (f_X4_readThing S 13 (nI w) (nI (sO w))).1 = 0 → T_X4_readText_4 n (f_X4_readThing S 13 (nI w) (nI (sO w))).2 (nI (sO w)) (nI k + 1)) → T_X4_readText_4 (n + 1) S (nI g) (nI k))
    (eL : L_X4_readText_4 (n + 1) S (nI g) (nI k) = if (f_X4_readThing S 13 (nI w) (nI (sO w))).1 = 0 then (pr 1 (pr 0 (pr (nI (sO w)) (pr (nI k) (f_X4_readThing S 13 (nI w) (nI (sO w))).2)))) else L_X4_readText_4 n (f_X4_readThing S 13 (nI w) (nI (sO w))).2 (nI (sO w)) (nI k + 1)) : RES N c7 (n + 1) S g k (Mk (5 - mg g) fn T) (pMk (5 - mg g) fn T) := by
  have h0 := hG.2.2.1
  have hs6 : sO w < 6 := sO_lt w
  have hrom : rom_ (sO w) ≤ 20 := by
    have : ∀ s, s < 6 → rom_ s ≤ 20 := by decide
    exact this _ hs6
  obtain ⟨t1, t2, t3⟩ := t_all hw hi hG hc (fun q => by rw [kind_w h0 hW.2, if_pos ⟨q, hw⟩]) hW.1
  obtain ⟨n', a0, a1, a2, a3⟩ := m_do h0 hW hw hg h4 h13 t2 (by omega) hf1
  have hmg := (mg_le (g := sO w) (by omega)).1
  rcases t3 with ⟨f1, f2⟩ | ⟨f1, f2, f3⟩
  · obtain ⟨n2, rfl⟩ : ∃ n2, n' = n2 + 1 := ⟨n' - 1, by omega⟩
    obtain ⟨c1, c2⟩ := m_fault f2.pos hmg (fun q => mi_Rw ⟨S, hG.1, hG.2.1⟩ q) n2
    unfold RES
    rw [eL, if_pos f1, a2, c1]
    exact ⟨hT' t1 (fun q => absurd f1 q), rfl, a3 c2, Or.inl ⟨rfl, f2⟩⟩
  · have hne : ¬ (f_X4_readThing S 13 (nI w) (nI (sO w))).1 = 0 := by rw [f1]; exact one_ne
    have hup := cnt_up hs6 (by omega) hc f3
    have hle := cntr_le f2.2.2.2.2.1
    obtain ⟨m', rfl⟩ : ∃ m', m = m' + 1 := ⟨m - 1, by omega⟩
    have hr' : 1 ≤ (gI (Rw w T) 69 0).toInt := by
      rw [f3 0 (by omega)]
      by_cases q : 0 = sO w
      · rw [if_pos q, nI_ti (by omega)]; omega
      · rw [if_neg q]
        rcases hr with h | h
        · exact h
        · subst h; exact absurd rfl q
    obtain ⟨r1, r2, r3, r4⟩ := ih m' rfl (sO w) n (k + 1) n' _ _ f2 ((thing_7 S (nI w) (nI (sO w)) hne).trans h7) hr' (by omega) (fun q => by rw [f3 4 (by omega), if_neg (by omega)]; exact h3 (by omega)) (fun q => by
      rw [f3 4 (by omega), if_pos q.symm]
      have : i < 1 := by rw [q] at hi; exact hi
      rw [show i = 0 by omega]) (by rw [hup]; omega) (by omega) (by omega) (by omega) a1
    rw [nI_succ] at r1 r2 r4
    unfold RES
    rw [eL, if_neg hne, a2]
    exact ⟨hT' t1 (fun _ => r1), r2, a3 r3, r4⟩

theorem ti10 {w : Nat} (hw : w ≤ 10) : (10 : Int32) ≤ nI w ↔ w = 10 := by
  rw [ti_le, nI_ti (by omega), show (10 : Int32).toInt = 10 from rfl]; omega
theorem rR_v (S : HSt) {w : Nat} (hw : w < 10) : rR S w = 0 ↔ ¬ (w = 4 ∧ 1 ≤ (gI S 16 4).toInt) := by
  unfold rR
  obtain ⟨f1, -⟩ := full_at S 15 (s := 4) (by decide)
  rw [show nI 4 = (4 : Int32) from rfl] at f1
  by_cases q : w = 4
  · subst q
    rw [if_pos (show nI (sO 4) = (4 : Int32) from rfl)]
    have hr : (rom_ 4 : Int) = 1 := rfl
    by_cases q2 : f_X10_isFull S 15 4 = 0
    · rw [if_pos q2]
      have := f1.mp q2
      constructor
      · intro _ h; rw [hr] at this; have t2 : (gI S 16 4).toInt < 1 := this; omega
      · intro _; rfl
    · rw [if_neg q2]
      constructor
      · intro h; exact absurd h one_ne
      · intro h
        exfalso
        refine q2 (f1.mpr ?_)
        rw [hr]
        by_cases q3 : 1 ≤ (gI S 16 4).toInt
        · exact absurd ⟨rfl, q3⟩ h
        · show (gI S 16 4).toInt < 1
          omega
  · have : ¬ nI (sO w) = (4 : Int32) := by
      intro h
      have h2 := congrArg Int32.toInt h
      have := sO_lt w
      rw [nI_ti (by omega), show (4 : Int32).toInt = 4 from rfl] at h2
      unfold sO at h2
      by_cases q5 : 5 < w
      · rw [if_pos q5] at h2; omega
      · rw [if_neg q5] at h2; omega
    rw [if_neg this]
    exact ⟨fun _ h => q h.1, fun _ => rfl⟩
theorem rp_v {N : Nat} {S T : HSt} (hG : GS N S T) : rpV S = 0 ↔ (gI T 69 0).toInt ≤ 0 := by
  unfold rpV
  rw [show f_X10_howMany S 15 0 = gI S 16 0 from many15 S (s := 0) (by decide), hG.2.2.2.1.1 0 (by decide)]
  by_cases q : gI T 69 0 ≤ 0
  · rw [if_pos q]; exact ⟨fun _ => ti_le.mp q, fun _ => rfl⟩
  · rw [if_neg q]; exact ⟨fun h => absurd h one_ne, fun h => absurd (ti_le.mpr h) q⟩
theorem round {c7 : Int32} {N m g n k fn : Nat} {S T : HSt} {w : Nat} (hG : GS N S T) (h7 : gI S 13 7 = c7) (hw10 : w ≤ 10) (eW : (if gI S 13 3 = (1 : Int32) then f_X4_wordHere S 13 else 10) = nI w) (pW : gI S 13 3 = 1 → p_X4_wordHere S 13) (hk1 : gI S 13 3 = 0 → w = 10) (hW : WdI T w) (hr : 1 ≤ (gI T 69 0).toInt ∨ w = 0) (hg : g ≤ 5) (h3 : g ≤ 3 → gI T 69 4 = nI 0) (h4 : g = 4 → gI T 69 4 = nI 1) (hm : cntr T + m = 37) (hkm : k + m ≤ 600) (hn : m < n + 1) (hfn : m + 1 < fn) (hf1 : fn ≤ 1000) (ih : ∀ m', m = m' + 1 → IHm N c7 m') : RES N c7 (n + 1) S g k (Mk (5 - mg g) fn T) (pMk (5 - mg g) fn T) := by
  obtain ⟨kd, b, e, hX⟩ := hG.2.1
  have h0 := hG.2.2.1
  have h6 : ¬ (600 : Int32) < nI k := by rw [ti_lt, nI_ti (by omega), show (600 : Int32).toInt = 600 from rfl]; omega
  have eL := L_it n S (nI g) (nI k) hw10 h6 eW
  have hkd : kd ≤ 4 := hX.2.2.1.2.2
  have h13 : gI T 64 13 = 1 ↔ kd = 0 := by
    rw [hX.2.1.2.1]
    have : ∀ kd, kd ≤ 4 → (nI (mc kd) = 1 ↔ kd = 0) := by decide
    exact this kd hkd
  have hs0 : gI S 13 3 = 0 ↔ kd = 0 := by
    rw [hX.1.1]
    have : ∀ kd, kd ≤ 4 → (nI kd = 0 ↔ kd = 0) := by decide
    exact this kd hkd
  have hgi : (nI g).toInt = g := nI_ti (by omega)
  have hsi : (nI (sO w)).toInt = sO w := nI_ti (by have := sO_lt w; omega)
  by_cases qE : kd = 0
  · -- the end
    have ew := hk1 (hs0.mpr qE)
    subst ew
    have hr1 : 1 ≤ (gI T 69 0).toInt := by omega
    have hrp : ¬ rpV S = 0 := fun q => by have := (rp_v hG).mp q; omega
    rw [if_pos (hs0.mpr qE), if_neg hrp] at eL
    obtain ⟨f, rfl⟩ : ∃ f, fn = f + 1 := ⟨fn - 1, by omega⟩
    obtain ⟨n', a1, a2, a3⟩ := m_walk hW.1 hW.2 (5 - mg g) (mg g) 5 (by have := mg_le hg; omega) (Nat.le_refl _) (fun j _ h2 => by omega) f
    have e5 : g5 (n' + 1) T = T := by rw [g5, if_pos h0, if_pos (h13.mpr qE)]
    have hM : Mk (5 - mg g) (f + 1) T = T := a2.trans e5
    unfold RES
    rw [eL, hM]
    refine ⟨T_it n S _ _ hw10 eW pW (fun q => absurd ((ti10 hw10).mpr rfl) q), rfl, a3 (fun _ q => absurd (h13.mpr qE) q), Or.inr ⟨rfl, hG, hr1, h7⟩⟩
  have eL2 : L_X4_readText_4 (n + 1) S (nI g) (nI k) = itF n S (nI g) (nI k) w (rpV S) := by rw [eL, if_neg (fun q => qE (hs0.mp q))]
  have h13' : ¬ gI T 64 13 = 1 := fun q => qE (h13.mp q)
  have hmgl := mg_le hg
  by_cases q10 : w = 10
  · have q := (ti10 hw10).mpr q10
    refine r_none hg hX h0 h13' hW (fun j _ h2 => by omega) (by omega) (by omega) hf1 (T_it n S _ _ hw10 eW pW (fun q' => absurd q q')) ?_
    rw [eL2]; unfold itF; rw [if_pos q]; rfl
  have hw : w < 10 := by omega
  have n10 : ¬ (10 : Int32) ≤ nI w := fun q => q10 ((ti10 hw10).mp q)
  by_cases qg : sO w < g
  · have q : nI (sO w) < nI g := by rw [ti_lt, hgi, hsi]; omega
    have hwg : w < g := by
      by_cases q5 : 5 ≤ w
      · rw [sO_5 q5] at qg; omega
      · rw [sO_3 (by omega)] at qg; exact qg
    refine r_none hg hX h0 h13' hW (fun j h1 h2 => by omega) (by omega) (by omega) hf1 (T_it n S _ _ hw10 eW pW (fun _ q' => absurd q q')) ?_
    rw [eL2]; unfold itF; rw [if_neg n10, if_pos q]; rfl
  have ng : ¬ nI (sO w) < nI g := by rw [ti_lt, hgi, hsi]; omega
  have hor : nI (sO w) ≤ 0 ∨ ¬ rpV S = 0 := by
    rcases hr with h | h
    · exact Or.inr (fun q => by have := (rp_v hG).mp q; omega)
    · subst h; exact Or.inl (by decide)
  have eL3 := eL2.trans (itF_in n10 ng hor)
  have h164 : gI S 16 4 = gI T 69 4 := hG.2.2.2.1.1 4 (by decide)
  by_cases qR : rR S w = 0
  · rw [if_pos qR] at eL3
    have hb := cnt_b hG.2.2.2.2.1 (sO_lt w)
    have hCs : gI S 16 (sO w) = gI T 69 (sO w) := hG.2.2.2.1.1 _ (sO_lt w)
    obtain ⟨f1, -⟩ := full_at S 15 (sO_lt w)
    have h4' : w = 4 → g ≤ 3 := fun q => by
      subst q
      have hg4 : g ≤ 4 := by have : ¬ 4 < g := qg; omega
      by_cases q3 : g = 4
      · exfalso
        refine (rR_v S hw).mp qR ⟨rfl, ?_⟩
        rw [h164, h4 q3]; decide
      · omega
    have hgs : g ≤ sO w := by omega
    by_cases qF : f_X10_isFull S 15 (nI (sO w)) = 0
    · rw [if_pos qF] at eL3
      have hlt := f1.mp qF
      have hlt' : (gI T 69 (sO w)).toInt < rom_ (sO w) := by rw [← hCs]; exact hlt
      obtain ⟨i, hi, hc⟩ := nI_of_bw hb.1 hlt' (by
        have : ∀ s, s < 6 → rom_ s ≤ 2147483647 := by decide
        exact this _ (sO_lt w))
      exact r_thing hG h7 hw hW h13' hr hgs h3 h4' hm hkm hn hfn hf1 ih hi hc (fun p1 p2 => T_it n S _ _ hw10 eW pW (fun _ _ _ _ _ => ⟨p1, p2⟩)) eL3
    · rw [if_neg qF] at eL3
      have hge : (rom_ (sO w) : Int) ≤ (gI T 69 (sO w)).toInt := by
        rw [← hCs]
        have : ¬ (gI S 16 (sO w)).toInt < rom_ (sO w) := fun q => qF (f1.mpr q)
        omega
      have hrom : rom_ (sO w) ≤ 20 := by
        have : ∀ s, s < 6 → rom_ s ≤ 20 := by decide
        exact this _ (sO_lt w)
      have hc : gI T 69 (sO w) = nI (rom_ (sO w)) := by
        apply Int32.toInt_inj.mp
        rw [nI_ti (by omega)]
        omega
      have h4w : w ≠ 4 := fun q => by
        subst q
        have : gI T 69 4 = nI 0 := h3 (h4' rfl)
        have hc4 : gI T 69 4 = nI 1 := hc
        rw [this] at hc4
        exact absurd hc4 (by decide)
      obtain ⟨p1, p2, p3⟩ := full_all hX h0 hw h4w hc (fun q => by
        rw [kind_w h0 hW.2, if_pos ⟨q, hw⟩]
        intro q2
        have h2 := congrArg Int32.toInt q2
        rw [nI_ti (by omega), show (-1000000 : Int32).toInt = -1000000 from by decide] at h2
        omega) hW.1
      obtain ⟨n', a0, a1, a2, a3⟩ := m_do h0 hW hw hgs h4' h13' p1 (by omega) hf1
      obtain ⟨n2, rfl⟩ : ∃ n2, n' = n2 + 1 := ⟨n' - 1, by omega⟩
      obtain ⟨c1, c2⟩ := m_fault (N := N) (T := Rw w T) (by rw [p2]; exact nI_c13 (by omega) (by omega)) (mg_le (g := sO w) (by have := sO_lt w; omega)).1 (fun q => mi_Rw ⟨S, hG.1, hG.2.1⟩ q) n2
      have e1 : Mk (5 - mg g) fn T = Rw w T := a2.trans c1
      refine r_fail hX (c := 3) (by omega) (by omega) (T_it n S _ _ hw10 eW pW (fun _ _ _ _ q => absurd q qF)) eL3 (a3 c2) (by rw [e1]; exact p2) (by rw [e1]; exact p3)
  · rw [if_neg qR] at eL3
    have hw4 : w = 4 ∧ 1 ≤ (gI S 16 4).toInt := by
      by_cases q : w = 4 ∧ 1 ≤ (gI S 16 4).toInt
      · exact q
      · exact absurd ((rR_v S hw).mpr q) qR
    obtain ⟨rfl, hc1⟩ := hw4
    have hg4 : g = 4 := by
      have h1 : ¬ 4 < g := qg
      by_cases q : g ≤ 3
      · rw [h164, h3 q] at hc1; exact absurd hc1 (by decide)
      · omega
    refine r_none hg hX h0 h13' hW (fun j h1 h2 => ?_) (by omega) (by omega) hf1 (T_it n S _ _ hw10 eW pW (fun _ _ _ q => absurd q qR)) eL3
    rw [hg4] at h1
    have : mg 4 = 5 := rfl
    omega
theorem text_IH (N : Nat) (c7 : Int32) : ∀ m, IHm N c7 m := by
  intro m
  induction m with
  | zero =>
    intro g n k fn S T hG h7 hr hg h3 h4 hm hkm hn hfn hf1
    obtain ⟨kd, b, e, hX⟩ := hG.2.1
    obtain ⟨w, w1, ⟨w2, w3⟩, w4, w5⟩ := words hG.1 hX (Or.inl hG.2.2.1)
    obtain ⟨n, rfl⟩ : ∃ n', n = n' + 1 := ⟨n - 1, by omega⟩
    refine round hG h7 w1 ?_ (fun q => (w2 q).2) (fun q => ?_) ⟨w4, w5⟩ (Or.inl hr) hg h3 h4 hm hkm hn hfn hf1 (fun m' h => by omega)
    · by_cases q : gI S 13 3 = 1
      · rw [if_pos q]; exact (w2 q).1
      · rw [if_neg q, w3 (fun h => q (by rw [hX.1.1, h]; rfl))]; rfl
    · refine w3 (fun h => ?_)
      rw [hX.1.1, h] at q; exact absurd q (by decide)
  | succ m ih =>
    intro g n k fn S T hG h7 hr hg h3 h4 hm hkm hn hfn hf1
    obtain ⟨kd, b, e, hX⟩ := hG.2.1
    obtain ⟨w, w1, ⟨w2, w3⟩, w4, w5⟩ := words hG.1 hX (Or.inl hG.2.2.1)
    obtain ⟨n, rfl⟩ : ∃ n', n = n' + 1 := ⟨n - 1, by omega⟩
    refine round hG h7 w1 ?_ (fun q => (w2 q).2) (fun q => ?_) ⟨w4, w5⟩ (Or.inl hr) hg h3 h4 hm hkm hn hfn hf1 (fun m' h => by
      have : m = m' := by omega
      rw [← this]; exact ih)
    · by_cases q : gI S 13 3 = 1
      · rw [if_pos q]; exact (w2 q).1
      · rw [if_neg q, w3 (fun h => q (by rw [hX.1.1, h]; rfl))]; rfl
    · refine w3 (fun h => ?_)
      rw [hX.1.1, h] at q; exact absurd q (by decide)
/-- the text from its first word on -/
theorem text {N : Nat} {S T : HSt} (hG : GS N S T) (hz : ∀ x, x < 6 → gI T 69 x = 0) : p_X4_readText S 13 ∧ p_X12_word T 64 ∧ pMk 5 1000 (if lg_cmp (f_X12_word T 64) (Int64.ofNat (cV 0)) = 0 then T else f_X12_bad T 64 1) ∧ (((f_X4_readText S 13).1 = 0 ∧ FE (f_X4_readText S 13).2 (Mk 5 1000 (if lg_cmp (f_X12_word T 64) (Int64.ofNat (cV 0)) = 0 then T else f_X12_bad T 64 1))) ∨ ((f_X4_readText S 13).1 = 1 ∧ Gd N (gI S 13 7) (f_X4_readText S 13).2 (Mk 5 1000 (if lg_cmp (f_X12_word T 64) (Int64.ofNat (cV 0)) = 0 then T else f_X12_bad T 64 1)))) := by
  have hE : ∀ (x : Int32) , (L_X4_readText_4 1000 S 0 0).1 = 1 → f_X4_readText S 13 = ((L_X4_readText_4 1000 S 0 0).2.1, (L_X4_readText_4 1000 S 0 0).2.2.2.2) := fun _ h => by
    unfold f_X4_readText
    rw [bd_def, if_pos h]; rfl
  obtain ⟨kd, b, e, hX⟩ := hG.2.1
  have h0 := hG.2.2.1
  obtain ⟨w, w1, ⟨w2, w3⟩, w4, w5⟩ := words hG.1 hX (Or.inl h0)
  have eW : (if gI S 13 3 = (1 : Int32) then f_X4_wordHere S 13 else 10) = nI w := by
    by_cases q : gI S 13 3 = 1
    · rw [if_pos q]; exact (w2 q).1
    · rw [if_neg q, w3 (fun h => q (by rw [hX.1.1, h]; rfl))]; rfl
  have hk1 : gI S 13 3 = 0 → w = 10 := fun q => by
    refine w3 (fun h => ?_)
    rw [hX.1.1, h] at q; exact absurd q (by decide)
  have hrp : rpV S = 0 := (rp_v hG).mpr (by rw [hz 0 (by decide)]; decide)
  by_cases qw : w = 0
  · have hl := (w5 0 (by decide)).mpr ⟨h0, qw⟩
    rw [if_pos hl]
    have hr := round (m := 37) (g := 0) (n := 999) (k := 0) (fn := 1000) hG rfl w1 eW (fun q => (w2 q).2) hk1 ⟨w4, w5⟩ (Or.inr qw) (by omega) (fun _ => hz 4 (by decide)) (by omega) (by
      unfold cntr; rw [hz 0 (by decide), hz 1 (by decide), hz 2 (by decide), hz 3 (by decide), hz 4 (by decide), hz 5 (by decide)]; decide) (by omega) (by omega) (by omega) (by omega) (fun m' _ => text_IH N _ m')
    obtain ⟨r1, r2, r3, r4⟩ := hr
    rw [hE 0 r2]
    exact ⟨r1, w4, r3, r4⟩
  · have hl : ¬ lg_cmp (f_X12_word T 64) (Int64.ofNat (cV 0)) = 0 := fun q => qw ((w5 0 (by decide)).mp q).2
    rw [if_neg hl, bad_0 h0]
    have f16 : gI (sI (sI T 64 16 1) 64 17 (gI T 64 14)) 64 16 = nI 1 := by rw [gs_o (by decide), gs_eq, if_pos rfl]; rfl
    have f17 : gI (sI (sI T 64 16 1) 64 17 (gI T 64 14)) 64 17 = nI b := by rw [gs_eq, if_pos rfl]; exact hX.2.1.2.2.1
    have hMI : MI N (sI (sI T 64 16 1) 64 17 (gI T 64 14)) := by
      have := MI.bad (c := 1) ⟨S, hG.1, hG.2.1⟩
      rw [bad_0 h0] at this; exact this
    obtain ⟨c1, c2⟩ := m_fault (N := N) (T := sI (sI T 64 16 1) 64 17 (gI T 64 14)) (by rw [f16]; decide) (g := 0) (by omega) (fun _ => hMI) 999
    have eL := L_it 999 S (nI 0) (nI 0) w1 (by decide) eW
    have hpos : ¬ nI (sO w) ≤ 0 ∨ w = 10 := by
      by_cases q : w = 10
      · exact Or.inr q
      · refine Or.inl ?_
        rw [ti_le, nI_ti (by have := sO_lt w; omega), show (0 : Int32).toInt = 0 from rfl]
        unfold sO
        split <;> omega
    have eF : L_X4_readText_4 1000 S (nI 0) (nI 0) = pr 1 (pr (f_X4_fail S 13 (nI 1)).1 (pr (nI 0) (pr (nI 0) (f_X4_fail S 13 (nI 1)).2))) := by
      rw [hrp, if_pos rfl, ite_self] at eL
      refine eL.trans ?_
      unfold itF
      rcases hpos with hp | hp
      · by_cases q10 : w = 10
        · rw [if_pos ((ti10 w1).mpr q10)]; rfl
        · rw [if_neg (fun q => q10 ((ti10 w1).mp q)), if_neg (by rw [ti_lt, nI_ti (by have := sO_lt w; omega), nI_ti (by omega)]; omega), if_neg hp, if_pos rfl]; rfl
      · rw [if_pos ((ti10 w1).mpr hp)]; rfl
    have hT' : T_X4_readText_4 1000 S (nI 0) (nI 0) := T_it 999 S _ _ w1 eW (fun q => (w2 q).2) (fun q1 q2 q3 => by
      exfalso
      rcases q3 with q3 | q3
      · rcases hpos with hp | hp
        · exact hp q3
        · exact q1 ((ti10 w1).mpr hp)
      · exact q3 hrp)
    obtain ⟨r1, r2, r3, r4⟩ := r_fail (n := 1000) (g := 0) (k := 0) (c := 1) (P := pMk 5 1000 (sI (sI T 64 16 1) 64 17 (gI T 64 14))) (D := Mk 5 1000 (sI (sI T 64 16 1) 64 17 (gI T 64 14))) hX (by omega) (by omega) hT' eF c2 (by rw [show Mk 5 1000 (sI (sI T 64 16 1) 64 17 (gI T 64 14)) = _ from c1]; exact f16) (by rw [show Mk 5 1000 (sI (sI T 64 16 1) 64 17 (gI T 64 14)) = _ from c1]; exact f17)
    rw [hE 0 r2]
    exact ⟨r1, w4, r3, r4⟩
