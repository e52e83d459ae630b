-- needs: 29.take
/-! ===== wraps, greatest ===== -/
theorem wr_L (S T : HSt) (v1 v2 : Int32) : ∀ (n : Nat) (h : Int32) (k : Nat), k ≤ 10 → 10 - k < n → T_X11_wraps_29 n S v1 v2 h (nI k) ∧ T_X12_wraps_38 n T v1 v2 h (nI k) ∧ (L_X11_wraps_29 n S v1 v2 h (nI k)).1 = (L_X12_wraps_38 n T v1 v2 h (nI k)).1 ∧ (L_X11_wraps_29 n S v1 v2 h (nI k)).2.1 = (L_X12_wraps_38 n T v1 v2 h (nI k)).2.1 := by
  intro n
  induction n with
  | zero => intro h k _ q; omega
  | succ n ih =>
    intro h k hk hn
    unfold T_X11_wraps_29 T_X12_wraps_38 L_X11_wraps_29 L_X12_wraps_38
    by_cases c : k = 10
    · subst c
      have a1 : (9 : Int32) < nI 10 := nI_lt (a := 9) (b := 10) (by omega) (by omega)
      have a2 : (10 : Int32) ≤ nI 10 := nI_le (a := 10) (b := 10) (by omega) (by omega)
      refine ⟨fun q => absurd a1 q, fun q => absurd a2 q, ?_⟩
      rw [if_pos a1, if_pos a2]
      exact ⟨rfl, rfl⟩
    · have a1 : ¬ (9 : Int32) < nI k := nI_nlt (a := 9) (b := k) (by omega) (by omega)
      have a2 : ¬ (10 : Int32) ≤ nI k := nI_ge (a := k) (b := 10) (by omega) (by omega)
      obtain ⟨i1, i2, i3, i4⟩ := ih (h * 3) (k + 1) (by omega) (by omega)
      rw [nI_succ] at i1 i2 i3 i4
      refine ⟨fun _ _ x e => by rw [← e]; exact i1, fun _ _ x e => by rw [← e]; exact i2, ?_⟩
      rw [if_neg a1, if_neg a2]
      by_cases d : h < v1
      · rw [if_pos d, if_pos d, bd_def, bd_def]
        exact ⟨i3, i4⟩
      · rw [if_neg d, if_neg d]
        exact ⟨rfl, rfl⟩
theorem k_wraps : K_wraps Inv0 := by
  intro n S a b hn hI
  have hp1 : ∀ T : HSt, f_X12_in T a.toInt64 (1 : Int64) (999999 : Int64) = f_X11_within S a 1 999999 := fun T => by
    rw [show (1 : Int64) = (1 : Int32).toInt64 from rfl, show (999999 : Int64) = (999999 : Int32).toInt64 from rfl, in_within T S]
  have hp2 : ∀ T : HSt, f_X12_in T b.toInt64 (1 : Int64) (99 : Int64) = f_X11_within S b 1 99 := fun T => by
    rw [show (1 : Int64) = (1 : Int32).toInt64 from rfl, show (99 : Int64) = (99 : Int32).toInt64 from rfl, in_within T S]
  obtain ⟨i1, i2, i3, i4⟩ := wr_L S (sI S 64 0 0) a b 1000 b 0 (by omega) (by omega)
  refine ⟨fun _ _ => i1, fun S1 e1 _ _ => by rw [← e1]; exact i2, ?_, (hI.same (same_of_fr (by decide) (v_X12_wraps S 64 a b))).mono (Nat.le_succ n)⟩
  show (F_X11_wraps S 0 a b).1 = (f_X12_wraps S 64 a b).1
  unfold F_X11_wraps f_X12_wraps
  simp only [bd_def]
  rw [hp1, hp2]
  by_cases c1 : f_X11_within S a 1 999999 = 0
  · rw [if_pos c1, if_pos c1]; rfl
  · rw [if_neg c1, if_neg c1]
    by_cases c2 : f_X11_within S b 1 99 = 0
    · rw [if_pos c2, if_pos c2]; rfl
    · rw [if_neg c2, if_neg c2]
      have i3' : (L_X11_wraps_29 1000 S a b b (0 : Int32)).1 = (L_X12_wraps_38 1000 (sI S 64 0 0) a b b (0 : Int32)).1 := i3
      have i4' : (L_X11_wraps_29 1000 S a b b (0 : Int32)).2.1 = (L_X12_wraps_38 1000 (sI S 64 0 0) a b b (0 : Int32)).2.1 := i4
      rw [i3']
      by_cases c3 : (L_X12_wraps_38 1000 (sI S 64 0 0) a b b (0 : Int32)).1 = 1
      · rw [if_pos c3, if_pos c3, pr_1, pr_1]
        exact i4'
      · rw [if_neg c3, if_neg c3, pr_1, pr_1]
theorem zero_ne : ¬ (0 : Int32) = 1 := by decide
theorem nz_m1 (z : Int) : nz z + (-1 : Int32) = nz (z - 1) := by
  rw [show (-1 : Int32) = nz (-1) from rfl, nz_add]
  rfl
theorem gr_L {S T : HSt} {o : Nat} (v1 : Int32) (hneed : ∀ x : Int32, f_X7_needOf S o x = f_X12_needOf T 64 x ∧ p_X12_needOf T 64 x) : ∀ (n : Nat) (z : Int), -1 ≤ z → z ≤ 400 → z + 1 < n → T_X7_greatestOpen_4 o n S v1 (nz z) ∧ T_X12_greatest_36 n T v1 (nz z) ∧ (((L_X7_greatestOpen_4 o n S v1 (nz z)).1 = 1 ∧ (L_X7_greatestOpen_4 o n S v1 (nz z)).2.1 = (L_X12_greatest_36 n T v1 (nz z)).2 ∧ 0 ≤ (L_X12_greatest_36 n T v1 (nz z)).2) ∨ (¬ (L_X7_greatestOpen_4 o n S v1 (nz z)).1 = 1 ∧ ¬ 0 ≤ (L_X12_greatest_36 n T v1 (nz z)).2)) := by
  intro n
  induction n with
  | zero => intro z h1 _ h; omega
  | succ n ih =>
    intro z h1 h2 hn
    have hz : (nz z).toInt = z := nz_toInt (by omega) (by omega)
    unfold T_X7_greatestOpen_4 T_X12_greatest_36 L_X7_greatestOpen_4 L_X12_greatest_36
    by_cases c : nz z < 0
    · refine ⟨fun q => absurd c q, ⟨fun q => absurd c q, fun q => absurd c q⟩, ?_⟩
      rw [if_pos c, if_pos c]
      right
      refine ⟨fun q => absurd (q : (0 : Int32) = 1) zero_ne, fun q => ?_⟩
      rw [ti_lt] at c
      have q2 : (0 : Int32) ≤ nz z := q
      rw [ti_le] at q2
      omega
    · have c' := c
      rw [ti_lt, hz, ti0] at c'
      obtain ⟨i1, i2, i3⟩ := ih (z - 1) (by omega) (by omega) (by omega)
      rw [← nz_m1] at i1 i2 i3
      refine ⟨fun _ _ => i1, ⟨fun _ => (hneed _).2, fun _ _ => i2⟩, ?_⟩
      rw [if_neg c, if_neg c, (hneed (nz z)).1]
      by_cases d : v1 < f_X12_needOf T 64 (nz z)
      · have d2 : ¬ f_X12_needOf T 64 (nz z) ≤ v1 := by rw [ti_lt] at d; rw [ti_le]; omega
        rw [if_pos d, if_neg d2]
        exact i3
      · have d2 : f_X12_needOf T 64 (nz z) ≤ v1 := by rw [ti_lt] at d; rw [ti_le]; omega
        rw [if_neg d, if_pos d2]
        left
        refine ⟨rfl, rfl, ?_⟩
        show (0 : Int32) ≤ nz z
        rw [ti_le, hz, ti0]
        omega
theorem k_greatest : K_greatest Inv0 := by
  intro n S a hn hI
  obtain ⟨hR, hth, -⟩ := hI.2.2.2.2.1
  have hR1 : SceneR n 18 S (gI (sI S 64 0 0) 68) (gI S 71) (gI (sI S 64 0 0) 64 18) (gI S 64 19) := hR
  have hp : ∀ T : HSt, f_X12_in T a.toInt64 (0 : Int64) (15 : Int64) = f_X11_within S a 0 15 := fun T => by
    rw [show (0 : Int64) = (0 : Int32).toInt64 from rfl, show (15 : Int64) = (15 : Int32).toInt64 from rfl, in_within T S]
  obtain ⟨i1, i2, i3⟩ := gr_L (S := S) (T := sI S 64 0 0) (o := 18) a (fun x => need_eq hR1 x) 1000 400 (by omega) (by omega) (by omega)
  have e4 : (400 : Int32) = nz 400 := rfl
  refine ⟨fun _ _ => i1, fun S1 e1 _ _ => by rw [← e1]; exact i2, ?_, (hI.same (same_of_fr (by decide) (v_X12_greatest S 64 a))).mono (Nat.le_succ n)⟩
  show (F_X11_greatest S 0 a).1 = (f_X12_greatest S 64 a).1
  unfold F_X11_greatest f_X12_greatest
  simp only [bd_def]
  rw [hp, show gI (sI S 64 0 0) 64 7 = gI S 64 7 from rfl, ← hth]
  by_cases c1 : f_X11_within S a 0 15 = 0
  · rw [if_pos c1, if_pos c1]; rfl
  · rw [if_neg c1, if_neg c1, pr_1]
    by_cases c2 : gI S 18 2 = 0
    · rw [if_pos c2, if_pos c2]; rfl
    · rw [if_neg c2, if_neg c2, pr_1]
      have eo : f_X7_greatestOpen S 18 a = (if (L_X7_greatestOpen_4 18 1000 S a (400 : Int32)).1 = 1 then (L_X7_greatestOpen_4 18 1000 S a (400 : Int32)).2.1 else -1000000) := by
        show (F_X7_greatestOpen S 18 a).1 = _
        unfold F_X7_greatestOpen
        rw [bd_def]
        by_cases q : (L_X7_greatestOpen_4 18 1000 S a (400 : Int32)).1 = 1
        · rw [if_pos q, if_pos q, pr_1]
        · rw [if_neg q, if_neg q, pr_1]
      rw [eo, e4]
      rcases i3 with ⟨j1, j2, j3⟩ | ⟨j1, j2⟩
      · rw [if_pos j1, if_pos j3, j2]
      · rw [if_neg j1, if_neg j2]
        rfl
