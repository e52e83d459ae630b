-- needs: 36.restore
/-! ===== out ===== -/
def badO (t d lim : Int32) (i : Nat) : Prop := ¬ ((-lim).toInt ≤ (t + nI i * d).toInt ∧ (t + nI i * d).toInt ≤ lim.toInt)
theorem xo_succ (t d : Int32) (i : Nat) : t + nI (i + 1) * d = (t + nI i * d) + d := by
  rw [nI_succ, Int32.add_mul, Int32.one_mul, ← Int32.add_assoc]
theorem sf_L (S : HSt) (o : Nat) {t d lim : Int32} {m : Nat} (hm : m ≤ 40) (hd1 : -15 ≤ d.toInt) (hd2 : d.toInt ≤ 15) (hl1 : 0 ≤ lim.toInt) (hl2 : lim.toInt ≤ 100) (hlim : f_X7_limit S o = lim) : ∀ (n j : Nat) (x : Int32), x = t + nI j * d → -(80 + 15 * (j : Int)) ≤ x.toInt → x.toInt ≤ 80 + 15 * (j : Int) → j ≤ m → m - j < n → T_X7_staysFree_11 o n S d (nI m) x (nI j) ∧ (((L_X7_staysFree_11 o n S d (nI m) x (nI j)).1 = 1 ∧ (L_X7_staysFree_11 o n S d (nI m) x (nI j)).2.1 = 0 ∧ ∃ i, j < i ∧ i ≤ m ∧ badO t d lim i) ∨ (¬ (L_X7_staysFree_11 o n S d (nI m) x (nI j)).1 = 1 ∧ ∀ i, j < i → i ≤ m → ¬ badO t d lim i)) := by
  intro n
  induction n with
  | zero => intro j x _ _ _ _ h; omega
  | succ n ih =>
    intro j x hx b1 b2 hj hn
    unfold T_X7_staysFree_11 L_X7_staysFree_11
    by_cases c : m ≤ j
    · have a1 : nI m ≤ nI j := nI_le (by omega) (by omega)
      rw [if_pos a1]
      refine ⟨fun q => absurd a1 q, Or.inr ⟨by rw [pr_1]; decide, fun i h1 h2 => by omega⟩⟩
    · have a1 : ¬ nI m ≤ nI j := nI_ge (by omega) (by omega)
      have e : x + d = t + nI (j + 1) * d := by rw [xo_succ, ← hx]
      have tx : (x + d).toInt = x.toInt + d.toInt := ti_add (by omega) (by omega)
      have tn : (-lim).toInt = -lim.toInt := ti_neg (by omega)
      have tz : (0 - (x + d)).toInt = -(x + d).toInt := by rw [ti_sub (by rw [ti0]; omega) (by rw [ti0]; omega), ti0]; omega
      have hab : (if 0 ≤ x + d then x + d else 0 - (x + d)) ≤ f_X7_limit S o ↔ ¬ badO t d lim (j + 1) := by
        unfold badO
        rw [hlim, ← e, tn, Classical.not_not, ti_le]
        by_cases z : 0 ≤ x + d
        · rw [if_pos z]
          rw [ti_le, ti0] at z
          omega
        · rw [if_neg z, tz]
          rw [ti_le, ti0] at z
          omega
      obtain ⟨i1, i2⟩ := ih (j + 1) (x + d) e (by rw [tx]; omega) (by rw [tx]; omega) (by omega) (by omega)
      rw [nI_succ] at i1 i2
      refine ⟨fun _ y ey _ => by rw [← ey]; exact i1, ?_⟩
      rw [if_neg a1, bd_def]
      by_cases z : badO t d lim (j + 1)
      · rw [if_neg (fun q => hab.mp q z)]
        exact Or.inl ⟨pr_1 _ _, rfl, j + 1, by omega, by omega, z⟩
      · rw [if_pos (hab.mpr z)]
        rcases i2 with ⟨p1, p2, i, p3, p4, p5⟩ | ⟨p1, p2⟩
        · exact Or.inl ⟨p1, p2, i, by omega, p4, p5⟩
        · refine Or.inr ⟨p1, fun i h1 h2 => ?_⟩
          by_cases hh : i = j + 1
          · rw [hh]; exact z
          · exact p2 i (by omega) h2
theorem mo_L (T : HSt) {t d lim v1 v3 : Int32} {m : Nat} (hm : m ≤ 40) (ht : gI T 71 2 = t) (hd : v1 - v3 = d) (hlim : f_X12_limit T 64 = lim) (hp : p_X12_limit T 64) : ∀ (n j : Nat) (w : Int32), j ≤ m + 1 → m + 1 - j < n → T_X12_out_58 n T v1 (nI m) v3 w (nI j) ∧ ((L_X12_out_58 n T v1 (nI m) v3 w (nI j)).1 = v1 ∧ (L_X12_out_58 n T v1 (nI m) v3 w (nI j)).2.1 = nI m ∧ (L_X12_out_58 n T v1 (nI m) v3 w (nI j)).2.2.1 = v3) ∧ ((L_X12_out_58 n T v1 (nI m) v3 w (nI j)).2.2.2.1 = 0 ↔ w = 0 ∨ ∃ i, j ≤ i ∧ i ≤ m ∧ badO t d lim i) := by
  intro n
  induction n with
  | zero => intro j w _ h; omega
  | succ n ih =>
    intro j w hj hn
    unfold T_X12_out_58 L_X12_out_58
    by_cases c : m < j
    · have a1 : nI m < nI j := nI_lt (by omega) (by omega)
      rw [if_pos a1]
      refine ⟨⟨fun q => absurd a1 q, fun q => absurd a1 q, fun q => absurd a1 q⟩, ⟨rfl, rfl, rfl⟩, ?_⟩
      constructor
      · intro h; exact Or.inl h
      · intro h
        rcases h with h | ⟨i, h1, h2, -⟩
        · exact h
        · omega
    · have a1 : ¬ nI m < nI j := nI_nlt (by omega) (by omega)
      have hb : ∀ y : Int32, y = t + nI j * d → (f_X12_in T y.toInt64 (-lim).toInt64 lim.toInt64 = 0 ↔ badO t d lim j) := fun y hy => by
        rw [in_within T T, within_iff, hy]
        exact Iff.rfl
      generalize hW : (if w = 0 then (0 : Int32) else if f_X12_in T (gI T 71 (2 : Int32).toNatClampNeg + nI j * (v1 - v3)).toInt64 (-(f_X12_limit T 64)).toInt64 (f_X12_limit T 64).toInt64 = 0 then (0 : Int32) else 1) = W
      have hW0 : W = 0 ↔ w = 0 ∨ badO t d lim j := by
        rw [← hW, hlim]
        have h2 := hb (gI T 71 (2 : Int32).toNatClampNeg + nI j * (v1 - v3)) (by rw [hd, ← ht]; rfl)
        by_cases z : w = 0
        · rw [if_pos z]; exact ⟨fun _ => Or.inl z, fun _ => rfl⟩
        · rw [if_neg z]
          by_cases y : badO t d lim j
          · rw [if_pos (h2.mpr y)]; exact ⟨fun _ => Or.inr y, fun _ => rfl⟩
          · rw [if_neg (fun q => y (h2.mp q))]
            exact ⟨fun q => absurd q (by decide), fun q => by rcases q with q | q; exact absurd q z; exact absurd q y⟩
      obtain ⟨i1, i2, i3⟩ := ih (j + 1) W (by omega) (by omega)
      rw [nI_succ] at i1 i2 i3
      refine ⟨⟨fun _ _ => hp, fun _ _ => hp, fun _ y ey => by rw [← ey]; exact i1⟩, ?_⟩
      rw [if_neg a1, bd_def]
      refine ⟨i2, i3.trans ?_⟩
      rw [hW0]
      constructor
      · rintro ((h | h) | ⟨i, h1, h2, h3⟩)
        · exact Or.inl h
        · exact Or.inr ⟨j, by omega, by omega, h⟩
        · exact Or.inr ⟨i, by omega, h2, h3⟩
      · rintro (h | ⟨i, h1, h2, h3⟩)
        · exact Or.inl (Or.inl h)
        · by_cases hh : i = j
          · exact Or.inl (Or.inr (hh ▸ h3))
          · exact Or.inr ⟨i, by omega, h2, h3⟩
theorem ou_L {S T : HSt} {o : Nat} {v1 t lim : Int32} {m : Nat} (hm1 : 1 ≤ m) (hm : m ≤ 40) (hv1 : 0 ≤ v1.toInt) (hv2 : v1.toInt ≤ 15) (hl1 : 0 ≤ lim.toInt) (hl2 : lim.toInt ≤ 100) (hlim : f_X7_limit S o = lim) (ht : gI T 71 2 = t) (ht' : gI S (o + 4) 2 = t) (hb1 : -80 ≤ t.toInt) (hb2 : t.toInt ≤ 80) (hlim' : f_X12_limit T 64 = lim) (hp : p_X12_limit T 64) : ∀ (n k : Nat), k ≤ 16 → 16 - k < n → T_X7_leastTurn_2 o n S v1 (nI m) (nI k) ∧ T_X12_out_46 n T v1 (nI m) (nI k) ∧ (L_X7_leastTurn_2 o n S v1 (nI m) (nI k)).1 = (L_X12_out_46 n T v1 (nI m) (nI k)).1 ∧ ((L_X7_leastTurn_2 o n S v1 (nI m) (nI k)).1 = 1 → (L_X7_leastTurn_2 o n S v1 (nI m) (nI k)).2.1.toInt64 = (L_X12_out_46 n T v1 (nI m) (nI k)).2.1) := by
  intro n
  induction n with
  | zero => intro k _ h; omega
  | succ n ih =>
    intro k hk hn
    unfold T_X7_leastTurn_2 T_X12_out_46 L_X7_leastTurn_2 L_X12_out_46
    by_cases c : k = 16
    · subst c
      have a1 : (15 : Int32) < nI 16 := nI_lt (a := 15) (b := 16) (by omega) (by omega)
      have a2 : (16 : Int32) ≤ nI 16 := nI_le (a := 16) (b := 16) (by omega) (by omega)
      rw [if_pos a1, if_pos a2]
      exact ⟨⟨fun q => absurd a1 q, fun q => absurd a1 q⟩, ⟨fun q => absurd a2 q, fun q => absurd a2 q⟩, rfl, fun q => absurd (q.symm.trans (pr_1 _ _)) (by decide)⟩
    · have a1 : ¬ (15 : Int32) < nI k := nI_nlt (a := 15) (b := k) (by omega) (by omega)
      have a2 : ¬ (16 : Int32) ≤ nI k := nI_ge (a := k) (b := 16) (by omega) (by omega)
      obtain ⟨i1, i2, i3, i4⟩ := ih (k + 1) (by omega) (by omega)
      rw [nI_succ] at i1 i2 i3 i4
      have td : (v1 - nI k).toInt = v1.toInt - k := by rw [ti_sub (by rw [nI_ti (by omega)]; omega) (by rw [nI_ti (by omega)]; omega), nI_ti (by omega)]
      obtain ⟨s1, s2⟩ := sf_L S o (t := t) (d := v1 - nI k) hm (by omega) (by omega) hl1 hl2 hlim 1000 0 t (by rw [show nI 0 = (0 : Int32) from rfl, Int32.zero_mul, Int32.add_zero]) (by omega) (by omega) (by omega) (by omega)
      obtain ⟨r1, ⟨r2, r3, r4⟩, r5⟩ := mo_L T (v1 := v1) (v3 := nI k) hm ht rfl hlim' hp 1000 1 1 (by omega) (by omega)
      rw [show nI 0 = (0 : Int32) from rfl] at s1 s2
      rw [show nI 1 = (1 : Int32) from rfl] at r1 r2 r3 r4 r5
      have hfree : f_X7_staysFree S o (v1 - nI k) (nI m) = 0 ↔ (L_X12_out_58 1000 T v1 (nI m) (nI k) 1 1).2.2.2.1 = 0 := by
        rw [r5]
        show (F_X7_staysFree S o (v1 - nI k) (nI m)).1 = 0 ↔ _
        unfold F_X7_staysFree
        rw [bd_def, bd_def, ht']
        rcases s2 with ⟨p1, p2, i, p3, p4, p5⟩ | ⟨p1, p2⟩
        · rw [if_pos p1, pr_1, p2]
          exact ⟨fun _ => Or.inr ⟨i, by omega, p4, p5⟩, fun _ => rfl⟩
        · rw [if_neg p1, pr_1]
          exact ⟨fun q => absurd q (by decide), fun q => by
            rcases q with q | ⟨i, q1, q2, q3⟩
            · exact absurd q (by decide)
            · exact absurd q3 (p2 i (by omega) q2)⟩
      refine ⟨⟨fun _ x hx => ?_, fun _ _ => i1⟩, ⟨fun _ => r1, fun _ q hq hz => ?_⟩, ?_⟩
      · rw [← hx, ht']; exact s1
      · rw [← hq, r2, r3, r4]; exact i2
      · rw [if_neg a1, if_neg a2, bd_def]
        by_cases z : (L_X12_out_58 1000 T v1 (nI m) (nI k) 1 1).2.2.2.1 = 0
        · rw [if_pos z, if_pos (hfree.mpr z), r2, r3, r4]
          exact ⟨i3, i4⟩
        · rw [if_neg z, if_neg (fun q => z (hfree.mp q)), r2, r3, r4]
          exact ⟨rfl, fun _ => rfl⟩
theorem k_out : K_out Inv0 := by
  intro n S a b hn hI
  have hp1 : ∀ T : HSt, f_X12_in T a.toInt64 (0 : Int64) (15 : Int64) = f_X11_within S a 0 15 := fun T => by
    rw [show (0 : Int64) = (0 : Int32).toInt64 from rfl, show (15 : Int64) = (15 : Int32).toInt64 from rfl, in_within T S]
  have hp2 : ∀ T : HSt, f_X12_in T b.toInt64 (1 : Int64) (40 : Int64) = f_X11_within S b 1 40 := fun T => by
    rw [show (1 : Int64) = (1 : Int32).toInt64 from rfl, show (40 : Int64) = (40 : Int32).toInt64 from rfl, in_within T S]
  obtain ⟨⟨hW, hB, hH, hL, hLB⟩, hth, hbz, hH1, -⟩ := hI.2.2.2.2.1
  have hro := rope_at (sI S 64 0 0) (k := 1) hH.1 (by decide)
  have hlm : gI S 18 5 = f_X12_ropeOf (sI S 64 0 0) 64 1 := by
    rw [hH.2.2.2.1]; exact hro.1.symm
  have hst : 0 ≤ (gI S 18 5).toInt ∧ (gI S 18 5).toInt ≤ 9 := by
    rw [hH.2.2.2.1]
    have h3 : (gI S 64 18).toNatClampNeg < 3 := by rw [ti_cl]; have := hH.1.1; have := hH.1.2; omega
    have := (hB.2.1 _ h3).2.1
    exact this
  have hli : (24 + 4 * gI S 18 5 : Int32).toInt = 24 + 4 * (gI S 18 5).toInt := by
    have h4 : (4 * gI S 18 5 : Int32).toInt = 4 * (gI S 18 5).toInt := ti_mul (by rw [show (4 : Int32).toInt = 4 from rfl]; omega) (by rw [show (4 : Int32).toInt = 4 from rfl]; omega)
    rw [ti_add (by rw [h4, show (24 : Int32).toInt = 24 from rfl]; omega) (by rw [h4, show (24 : Int32).toInt = 24 from rfl]; omega), h4]
    rfl
  have hg : ¬ f_X11_within S a 0 15 = 0 → ¬ f_X11_within S b 1 40 = 0 → T_X7_leastTurn_2 18 1000 S a b 0 ∧ T_X12_out_46 1000 (sI S 64 0 0) a b 0 ∧ (L_X7_leastTurn_2 18 1000 S a b 0).1 = (L_X12_out_46 1000 (sI S 64 0 0) a b 0).1 ∧ ((L_X7_leastTurn_2 18 1000 S a b 0).1 = 1 → (L_X7_leastTurn_2 18 1000 S a b 0).2.1.toInt64 = (L_X12_out_46 1000 (sI S 64 0 0) a b 0).2.1) := by
    intro h1 h2
    have w1 := within_1 S h1
    have w2 := within_1 S h2
    rw [ti0, show (15 : Int32).toInt = 15 from rfl] at w1
    rw [ti1, show (40 : Int32).toInt = 40 from rfl] at w2
    obtain ⟨m, hm, rfl⟩ := nI_of_bw (x := b) (n := 41) (by omega) (by omega) (by omega)
    rw [nI_ti (by omega)] at w2
    have hh : (sI S 64 0 0) = (sI S 64 0 0) := rfl
    exact ou_L (o := 18) (S := S) (T := sI S 64 0 0) (v1 := a) (t := gI S 71 2) (lim := 24 + 4 * gI S 18 5) (m := m) (by omega) (by omega) w1.1 w1.2 (by rw [hli]; omega) (by rw [hli]; omega) rfl (by rw [gs_ne (by decide)]) hL.2.2.1 hLB.2.2.1.1 hLB.2.2.1.2 (by rw [limit_v, hlm]) hro.2 1000 0 (by omega) (by omega)
  refine ⟨fun h1 h2 _ => (hg h1 h2).1, fun S1 e1 h1 h2 _ => ?_, ?_, (hI.same (same_of_fr (by decide) (v_X12_out S 64 a b))).mono (Nat.le_succ n)⟩
  · rw [hp1] at h1
    rw [hp2] at h2
    rw [← e1]
    exact (hg h1 h2).2.1
  show (F_X11_out S 0 a b).1 = (f_X12_out S 64 a b).1
  unfold F_X11_out f_X12_out
  simp only [bd_def]
  rw [hp1, hp2, gs_o (by decide), hth]
  by_cases c1 : f_X11_within S a 0 15 = 0
  · rw [if_pos c1, if_pos c1, pr_1, pr_1]
  · rw [if_neg c1, if_neg c1]
    by_cases c2 : f_X11_within S b 1 40 = 0
    · rw [if_pos c2, if_pos c2, pr_1, pr_1]
    · rw [if_neg c2, if_neg c2, pr_1]
      by_cases c3 : gI S 64 7 = 0
      · rw [if_pos c3, if_pos c3, pr_1]
      · rw [if_neg c3, if_neg c3]
        obtain ⟨-, -, g1, g2⟩ := hg c1 c2
        show (F_X7_leastTurn S 18 a b).1.toInt64 = _
        unfold F_X7_leastTurn
        rw [bd_def, ← g1]
        by_cases c4 : (L_X7_leastTurn_2 18 1000 S a b 0).1 = 1
        · rw [if_pos c4, if_pos c4, pr_1, pr_1, ← g2 c4]
        · rw [if_neg c4, if_neg c4, pr_1, pr_1]
          rfl
