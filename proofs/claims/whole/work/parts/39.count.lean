-- needs: 38.feed
theorem ct_0 {S T : HSt} (hI : IRow S) (hT : gI T 65 = gI S 65) (v1 : Int32) : ∀ (n : Nat) (x : Int32) (k : Nat), k ≤ 8 → 8 - k < n → T_X5_howMany_4 n S x (nI k) ∧ T_X12_count_62 n T v1 x (nI k) ∧ (L_X5_howMany_4 n S x (nI k)).1 = (L_X12_count_62 n T v1 x (nI k)).2.1 := by
  intro n
  induction n with
  | zero => intro x k _ h; omega
  | succ n ih =>
    intro x k hk hn
    unfold T_X5_howMany_4 T_X12_count_62 L_X5_howMany_4 L_X12_count_62
    by_cases c : k = 8
    · subst c
      have a1 : (8 : Int32) ≤ nI 8 := by decide
      rw [if_pos a1, if_pos a1]
      exact ⟨⟨fun q => absurd a1 q, fun q => absurd a1 q⟩, ⟨fun q => absurd a1 q, fun q => absurd a1 q⟩, rfl⟩
    · have a1 : ¬ (8 : Int32) ≤ nI k := nI_ge (a := k) (b := 8) (by omega) (by omega)
      rw [if_neg a1, if_neg a1, nI_clamp' (by omega), hT, bd_def, bd_def, bd_def]
      have he : (if gI S 12 k = (-1 : Int32) then x else x + 1) = x + (if gI S 65 k < 0 then (0 : Int32) else 1) := by
        rcases hI.1 k (by omega) with ⟨h1, h2⟩ | ⟨h1, h2, h3, h4, h5, h6⟩
        · rw [if_pos h1, h2, if_pos (by decide), Int32.add_zero]
        · have z1 : ¬ gI S 12 k = -1 := fun q => by
            rw [← h4, q] at h5
            exact absurd h5 (by decide)
          have z2 : ¬ gI S 65 k < 0 := by rw [ti_lt, ti0]; omega
          rw [if_neg z1, if_neg z2]
      obtain ⟨i1, i2, i3⟩ := ih (x + (if gI S 65 k < 0 then (0 : Int32) else 1)) (k + 1) (by omega) (by omega)
      rw [nI_succ] at i1 i2 i3
      refine ⟨⟨fun _ => vp_in_nI (by omega) (by omega), fun _ y ey => ?_⟩, ⟨fun _ => vp_in_nI (by omega) (by omega), fun _ y ey z ez => ?_⟩, ?_⟩
      · rw [← ey, he]; exact i1
      · rw [← ez, ← ey]; exact i2
      · rw [he]; exact i3
theorem thr_v (T : HSt) (a : Int32) : f_X12_isThrow T 64 a = if f_X12_deed T 64 a 0 = 4 then 1 else if f_X12_deed T 64 a 0 = 5 then 1 else 0 := rfl
theorem isOf_4 (S : HSt) (a : Int32) : f_X12_isOf S a 4 = if a = 4 then 1 else if a = 5 then 1 else 0 := rfl
theorem ct_6 {n : Nat} {S T : HSt} (hI : Inv0 n S) (hT : gI T 68 = gI S 68) (v1 : Int32) : ∀ (m : Nat) (x : Int32) (k : Nat), k ≤ 20 → 20 - k < m → T_X10_howManyThrows_4 19 m S x (nI k) ∧ T_X12_count_136 m T v1 x (nI k) ∧ (L_X10_howManyThrows_4 19 m S x (nI k)).1 = (L_X12_count_136 m T v1 x (nI k)).2.1 := by
  intro m
  induction m with
  | zero => intro x k _ h; omega
  | succ m ih =>
    intro x k hk hn
    obtain ⟨⟨hW, hB, -⟩, -⟩ := hI.2.2.2.2.1
    have hc : gI S (19 + 1) (5 : Int32).toNatClampNeg = gI S 68 5 := hW.1 5 (by decide)
    have hb : bw (gI S 68 5) 0 20 := hB.1.2.2.2.2.2
    unfold T_X10_howManyThrows_4 T_X12_count_136 L_X10_howManyThrows_4 L_X12_count_136
    rw [hT, hc, show (5 : Int32).toNatClampNeg = 5 from rfl]
    by_cases c : gI S 68 5 ≤ nI k
    · rw [if_pos c, if_pos c]
      exact ⟨⟨fun q => absurd c q, fun q => absurd c q⟩, ⟨fun q => absurd c q, fun q => absurd c q⟩, rfl⟩
    · have c' := c
      rw [ti_le, nI_ti (by omega)] at c'
      have hk2 : k < 20 := by have := hb.2; omega
      have hA := hB.2.2.2.2.2.2 k hk2 (by omega)
      obtain ⟨kd, k1, k2, k3⟩ := act_kd hA
      have hkd : f_X10_kindOf S 19 (nI k) = nI kd := by
        rw [kind_at S 19 hk2, show gI S (19 + 2) ((17 + k) * 5) = cl0 (gI S 68 (72 + 5 * k)) from hW.2.2.2.2.2.2 k 0 hk2 (by decide), k3, cl0_of (nI_none (by omega))]
      have hde := deed_at T (i := k) (k := 0) hk2 (by decide)
      rw [show nI 0 = (0 : Int32) from rfl] at hde
      rw [if_neg c, if_neg c, bd_def, bd_def, bd_def]
      have he : (if f_X10_isA S 19 (nI k) 4 = 0 then x else x + 1) = x + (if f_X12_isThrow T 64 (nI k) = 0 then (0 : Int32) else 1) := by
        rw [isA_isOf S S 19 (nI k) 4 hkd k1 k2, isOf_4, thr_v, hde.1, hT, show 72 + 5 * k + 0 = 72 + 5 * k from rfl, k3]
        by_cases z : (if nI kd = 4 then (1 : Int32) else if nI kd = 5 then 1 else 0) = 0
        · rw [if_pos z, if_pos z, Int32.add_zero]
        · rw [if_neg z, if_neg z]
      obtain ⟨i1, i2, i3⟩ := ih (x + (if f_X12_isThrow T 64 (nI k) = 0 then (0 : Int32) else 1)) (k + 1) (by omega) (by omega)
      rw [nI_succ] at i1 i2 i3
      refine ⟨⟨fun _ => p_isA S 19 _ _, fun _ y ey => ?_⟩, ⟨fun _ => ⟨hde.2, fun _ => hde.2⟩, fun _ y ey z ez => ?_⟩, ?_⟩
      · rw [← ey, he]; exact i1
      · rw [← ez, ← ey]; exact i2
      · rw [he]; exact i3
theorem k_count : K_count Inv0 := by
  intro n S a hn hI
  obtain ⟨⟨hW, hB, -⟩, -⟩ := hI.2.2.2.2.1
  obtain ⟨a1, a2, a3⟩ := ct_0 (T := sI S 64 0 0) hI.1 (gs_ne (by decide)) a 1000 0 0 (by omega) (by omega)
  obtain ⟨b1, b2, b3⟩ := ct_6 (T := sI S 64 0 0) hI (gs_ne (by decide)) a 1000 0 0 (by omega) (by omega)
  rw [show nI 0 = (0 : Int32) from rfl] at a1 a2 a3 b1 b2 b3
  have hm : ∀ s, s < 6 → f_X10_howMany S 19 (nI s) = gI S 68 s := fun s hs => (many_at S 19 hs).trans (hW.1 s hs)
  have hk : ∀ k, k < 2 → gI S (24 + 5 * k) 2 = gI S 82 k := fun k hk => (hI.2.2.2.2.2 k hk).1
  have kept : T_X11_imagesKept_4 1000 S 0 0 ∧ (L_X11_imagesKept_4 1000 S 0 0).1 = (if gI S 82 0 = 0 then (0 : Int32) else 1) + (if gI S 82 1 = 0 then (0 : Int32) else 1) := by
    have u0 : gI S (24 + 5 * (0 : Int32).toNatClampNeg) 2 = gI S 82 0 := hk 0 (by decide)
    have u1 : gI S (24 + 5 * ((0 : Int32) + 1).toNatClampNeg) 2 = gI S 82 1 := hk 1 (by decide)
    constructor
    · unfold T_X11_imagesKept_4
      refine ⟨fun _ => vp_in_nI (n := 0) (by omega) (by omega), fun _ x _ => ?_⟩
      unfold T_X11_imagesKept_4
      refine ⟨fun _ => vp_in_nI (n := 1) (by omega) (by omega), fun _ y _ => ?_⟩
      unfold T_X11_imagesKept_4
      exact ⟨fun q => absurd (by decide) q, fun q => absurd (by decide) q⟩
    · unfold L_X11_imagesKept_4
      rw [if_neg (by decide), bd_def, u0]
      unfold L_X11_imagesKept_4
      rw [if_neg (by decide), bd_def, u1]
      unfold L_X11_imagesKept_4
      rw [if_pos (by decide), pr_1]
      by_cases z0 : gI S 82 0 = 0
      · rw [if_pos z0, if_pos z0]
        by_cases z1 : gI S 82 1 = 0
        · rw [if_pos z1, if_pos z1]; rfl
        · rw [if_neg z1, if_neg z1]
      · rw [if_neg z0, if_neg z0]
        by_cases z1 : gI S 82 1 = 0
        · rw [if_pos z1, if_pos z1]; rfl
        · rw [if_neg z1, if_neg z1]; rfl
  refine ⟨⟨fun _ => a1, fun _ _ => p_many S 19 _, fun _ _ _ => p_many S 19 _, fun _ _ _ _ => p_many S 19 _, fun _ _ _ _ _ => p_many S 19 _, fun _ _ _ _ _ _ => p_many S 19 _, fun _ _ _ _ _ _ _ => b1, fun _ _ _ _ _ _ _ _ _ => kept.1⟩, ⟨fun S1 e1 _ => by rw [← e1]; exact a2, fun S1 e1 _ _ _ _ _ _ _ => by rw [← e1]; exact b2⟩, ?_, (hI.same (same_of_fr (by decide) (v_X12_count S 64 a))).mono (Nat.le_succ n)⟩
  show (F_X11_count S 0 a).1 = (f_X12_count S 64 a).1
  unfold F_X11_count f_X12_count
  simp only [bd_def]
  have h0 : f_X5_howMany S 1 = (L_X12_count_62 1000 (sI S 64 0 0) a 0 0).2.1 := a3
  have h6 : f_X10_howManyThrows S 19 = (L_X12_count_136 1000 (sI S 64 0 0) a 0 0).2.1 := b3
  have h8 : f_X11_imagesKept S 0 = _ := kept.2
  rw [h0, h6, h8, bytes_v, hI.2.1.1, gs_ne (show 68 ≠ 64 by decide), gs_o (show 9 ≠ 0 by decide), gs_ne (show 82 ≠ 64 by decide)]
  by_cases c0 : a = 0
  · rw [if_pos c0, if_pos c0, pr_1, pr_1]
  rw [if_neg c0, if_neg c0]
  by_cases c1 : a = 1
  · rw [if_pos c1, if_pos c1, pr_1, pr_1]
    exact congrArg Int32.toInt64 (hm 0 (by decide))
  rw [if_neg c1, if_neg c1]
  by_cases c2 : a = 2
  · rw [if_pos c2, if_pos c2, pr_1, pr_1]
    exact congrArg Int32.toInt64 (hm 1 (by decide))
  rw [if_neg c2, if_neg c2]
  by_cases c3 : a = 3
  · rw [if_pos c3, if_pos c3, pr_1, pr_1]
    exact congrArg Int32.toInt64 (hm 2 (by decide))
  rw [if_neg c3, if_neg c3]
  by_cases c4 : a = 4
  · rw [if_pos c4, if_pos c4, pr_1, pr_1]
    exact congrArg Int32.toInt64 (hm 3 (by decide))
  rw [if_neg c4, if_neg c4]
  by_cases c5 : a = 5
  · rw [if_pos c5, if_pos c5, pr_1, pr_1]
    exact congrArg Int32.toInt64 (hm 5 (by decide))
  rw [if_neg c5, if_neg c5]
  by_cases c6 : a = 6
  · rw [if_pos c6, if_pos c6, pr_1, pr_1]
  rw [if_neg c6, if_neg c6]
  by_cases c7 : a = 7
  · rw [if_pos c7, if_pos c7, pr_1, pr_1]
  rw [if_neg c7, if_neg c7]
  by_cases c8 : a = 8
  · rw [if_pos c8, if_pos c8, pr_1, pr_1]; rfl
  rw [if_neg c8, if_neg c8]
  rw [pr_1, pr_1]
