-- needs: 35.image
theorem k_restore : K_restore Inv0 := by
  intro n S a hn hI
  have hp : ∀ T : HSt, f_X12_in T a.toInt64 (0 : Int64) (1 : Int64) = f_X11_within S a 0 1 := fun T => by
    rw [show (0 : Int64) = (0 : Int32).toInt64 from rfl, show (1 : Int64) = (1 : Int32).toInt64 from rfl, in_within T S]
  have hIm := hI.2.2.2.2.2
  have hrx : ¬ f_X11_within S a 0 1 = 0 → ∃ r, r < 2 ∧ a = nI r := fun h => by
    have w := within_1 S h
    exact nI_of_bw (n := 2) w.1 (by have := w.2; rw [ti1] at this; omega) (by omega)
  have hcls : (f_X11_within S a 0 1 = 0 ∧ (f_X11_restore S 0 a).1 = -9000000000000000001 ∧ (f_X11_restore S 0 a).2 = S) ∨ (∃ r, r < 2 ∧ a = nI r ∧ ¬ f_X11_within S a 0 1 = 0 ∧ gI S 82 r = 0 ∧ (f_X11_restore S 0 a).1 = -9000000000000000002 ∧ (f_X11_restore S 0 a).2 = S) ∨ (∃ r, r < 2 ∧ a = nI r ∧ ¬ f_X11_within S a 0 1 = 0 ∧ ¬ gI S 82 r = 0 ∧ (f_X11_restore S 0 a).1 = 1 ∧ (f_X11_restore S 0 a).2 = f_X7_copyFrom S 18 (24 + 5 * r)) := by
    unfold f_X11_restore
    by_cases c1 : f_X11_within S a 0 1 = 0
    · left
      rw [if_pos c1]
      exact ⟨c1, pr_1 _ _, pr_2 _ _⟩
    · right
      rw [if_neg c1]
      obtain ⟨r, hr, rfl⟩ := hrx c1
      rw [nI_clamp' (by omega), (hIm r hr).1]
      by_cases c2 : gI S 82 r = 0
      · left
        rw [if_pos c2]
        exact ⟨r, hr, rfl, c1, c2, pr_1 _ _, pr_2 _ _⟩
      · right
        rw [if_neg c2, bd_def]
        exact ⟨r, hr, rfl, c1, c2, pr_1 _ _, pr_2 _ _⟩
  have f1 := v_X11_restore S 0 a
  have f2 := v_X12_restore (f_X11_restore S 0 a).2 64 a
  have hloop : ∀ r, r < 2 → ∀ T : HSt, T_X12_restore_34 1000 T (nI r) (0 : Int32) ∧ T_X12_restore_67 1000 (L_X12_restore_34 1000 T (nI r) (0 : Int32)).2.2 (L_X12_restore_34 1000 T (nI r) (0 : Int32)).1 (0 : Int32) ∧ (L_X12_restore_67 1000 (L_X12_restore_34 1000 T (nI r) (0 : Int32)).2.2 (L_X12_restore_34 1000 T (nI r) (0 : Int32)).1 (0 : Int32)).1 = nI r := fun r hr T => by
    obtain ⟨i1, i2, -, -⟩ := c_restore_34 hr 1000 T 0 (by omega) (by omega)
    obtain ⟨j1, j2, -, -⟩ := c_restore_67 hr 1000 (L_X12_restore_34 1000 T (nI r) (nI 0)).2.2 0 (by omega) (by omega)
    rw [show (0 : Int32) = nI 0 from rfl, i2]
    exact ⟨i1, j1, j2⟩
  refine ⟨⟨fun h => ?_, fun h _ => ?_, fun h h2 => ?_⟩, ⟨?_, ?_, ?_, ?_, ?_⟩, ?_⟩
  · obtain ⟨r, hr, rfl⟩ := hrx h
    exact vp_in_nI hr (by omega)
  · obtain ⟨r, hr, rfl⟩ := hrx h
    exact vp_in_nI hr (by omega)
  · obtain ⟨r, hr, rfl⟩ := hrx h
    rw [nI_clamp' (by omega)] at h2 ⊢
    obtain ⟨i1, i2, i3⟩ := hIm r hr
    rw [i1] at h2
    obtain ⟨-, hR, -⟩ := i3 (i2.resolve_left h2)
    refine p_copy (by omega) ?_ (by rw [i1]; exact i2)
    rw [hR.2.2.2.1.2.2.2.2.2.2]
    exact hR.2.2.2.2.2.2.2.2.2.1
  · intro S1 _ h
    rw [hp] at h
    obtain ⟨r, hr, rfl⟩ := hrx h
    exact vp_in_nI hr (by omega)
  · intro S1 _ h _
    rw [hp] at h
    obtain ⟨r, hr, rfl⟩ := hrx h
    exact (hloop r hr S1).1
  · intro S1 _ h _ r4 e4
    rw [hp] at h
    obtain ⟨r, hr, rfl⟩ := hrx h
    rw [← e4]
    exact (hloop r hr S1).2.1
  · intro S1 _ h _ r4 e4 r5 e5
    rw [hp] at h
    obtain ⟨r, hr, rfl⟩ := hrx h
    rw [← e5, ← e4, (hloop r hr S1).2.2]
    exact vp_in_nI hr (by omega)
  · intro S1 _ h _ r4 e4 r5 e5 _ _
    rw [hp] at h
    obtain ⟨r, hr, rfl⟩ := hrx h
    rw [← e5, ← e4, (hloop r hr S1).2.2]
    exact vp_in_nI hr (by omega)
  · have key : (f_X11_restore S 0 a).1 = (f_X12_restore (f_X11_restore S 0 a).2 64 a).1 ∧ IScn (n + 1) (f_X12_restore (f_X11_restore S 0 a).2 64 a).2 := by
      have hsame : IScn (n + 1) (sI S 64 0 0) := IScn.mono (Nat.le_succ n) (IScn.of (S := S) (T := sI S 64 0 0) (fun j _ _ _ => by rw [gs_ne (by decide)]) (gs_ne (by decide)) (gs_ne (by decide)) (gs_ne (by decide)) (gs_ne (by decide)) (gs_ne (by decide)) (gs_o (by decide)) (gs_o (by decide)) (gs_o (by decide)) hI.2.2.2.2.1)
      rcases hcls with ⟨c1, e1, e⟩ | ⟨r, hr, rfl, c1, c2, e1, e⟩ | ⟨r, hr, rfl, c1, c2, e1, e⟩
      · rw [e1, e]
        unfold f_X12_restore
        rw [bd_def, hp, if_pos c1, pr_1, pr_2]
        exact ⟨rfl, hsame⟩
      · rw [e1, e]
        unfold f_X12_restore
        rw [bd_def, hp, if_neg c1, gs_ne (by decide), nI_clamp' (by omega), if_pos c2, pr_1, pr_2]
        exact ⟨rfl, hsame⟩
      · rw [e] at f1
        rw [e1, e]
        obtain ⟨p1, p2, p3, p4⟩ := copy_at S (o := 18) (sc := 24 + 5 * r) (by omega)
        generalize f_X7_copyFrom S 18 (24 + 5 * r) = U at f1 p1 p2 p3 p4
        have g : ∀ x, (23 ≤ x) → gI U x = gI S x := fun x hx => fr_addr f1 x (fun q hq z => by
          have := (show ∀ q ∈ ([(((18 + 1) + 1), 1000), (((18 + 1) + 2), 1000), (18, 2), (18, 3), (18, 4), (18, 5), (18, 6), (18, 7), (18, 8), (18, 9), (22, 0), (22, 1), (22, 2), (22, 3), (22, 4), (22, 5), (22, 6)] : List (Nat × Nat)), q.1 ≤ 22 by decide) q hq
          omega)
        unfold f_X12_restore
        simp only [bd_def]
        rw [hp, if_neg c1, gs_ne (by decide), nI_clamp' (by omega), g 82 (by omega), if_neg c2]
        obtain ⟨-, i2, i3, i4⟩ := c_restore_34 hr 1000 (sI U 64 0 0) 0 (by omega) (by omega)
        obtain ⟨-, j2, j3, j4⟩ := c_restore_67 hr 1000 (L_X12_restore_34 1000 (sI U 64 0 0) (nI r) (nI 0)).2.2 0 (by omega) (by omega)
        rw [show nI 0 = (0 : Int32) from rfl] at i2 i3 i4 j2 j3 j4
        rw [i2, j2, nI_clamp' (by omega), pr_1, pr_2]
        generalize (L_X12_restore_34 1000 (sI U 64 0 0) (nI r) (0 : Int32)).2.2 = A at i3 i4 j3 j4 ⊢
        generalize (L_X12_restore_67 1000 A (nI r) (0 : Int32)).2.2 = B at j3 j4 ⊢
        refine ⟨rfl, ?_⟩
        have gB : ∀ x, x ≠ 68 → x ≠ 71 → x ≠ 64 → gI B x = gI U x := fun x h1 h2 h3 => by
          rw [j4 x h2, i4 x h1, gs_ne h3]
        have gB64 : ∀ j, j ≠ 0 → gI B 64 j = gI S 64 j := fun j hj => by
          rw [j4 64 (by decide), i4 64 (by decide), gs_o hj, g 64 (by omega)]
        have gB68 : ∀ j, j < 172 → gI B 68 j = gI S 83 (172 * r + j) := fun j hj => by
          rw [j4 68 (by decide), i3 j, if_pos (by omega), gs_ne (by decide), g 83 (by omega)]
        have gB71 : ∀ j, j < 7 → gI B 71 j = gI S 84 (7 * r + j) := fun j hj => by
          rw [j3 j, if_pos (by omega), i4 84 (by decide), gs_ne (by decide), g 84 (by omega)]
        rw [gB 85 (by decide) (by decide) (by decide), g 85 (by omega), gs_ne (by decide), gB 86 (by decide) (by decide) (by decide), g 86 (by omega)]
        generalize hT : sI (sI B 64 18 (gI S 85 r)) 64 19 (gI S 86 r) = T
        have gT : ∀ x, x ≠ 64 → gI T x = gI B x := fun x h1 => by
          rw [← hT, gs_ne h1, gs_ne h1]
        have t18 : gI T 64 18 = gI S 85 r := by
          rw [← hT, gs_o (by decide), gs_eq, if_pos rfl]
        have t19 : gI T 64 19 = gI S 86 r := by
          rw [← hT, gs_eq, if_pos rfl]
        have t7 : gI T 64 7 = gI S 64 7 := by
          rw [← hT, gs_o (by decide), gs_o (by decide), gB64 7 (by decide)]
        have gU : ∀ x, x ≠ 68 → x ≠ 71 → x ≠ 64 → gI T x = gI U x := fun x h1 h2 h3 => by rw [gT x h3, gB x h1 h2 h3]
        obtain ⟨q1, q2, q3⟩ := hIm r hr
        have q4 := q2.resolve_left c2
        obtain ⟨q5, hR, hH⟩ := q3 q4
        have hW : ∀ j, j < 172 → gI T 68 j = gI S 83 (172 * r + j) := fun j hj => by rw [gT 68 (by decide), gB68 j hj]
        unfold IScn
        rw [t18, t19, t7, q5, gU 18 (by decide) (by decide) (by decide), p3 2 (Or.inl rfl), q1, q4]
        refine ⟨SceneR.mono (Nat.le_succ n) (SceneR.cg (a := 24 + 5 * r) (S := S) (W := fun j => gI S 83 (172 * r + j)) (L := fun j => gI S 84 (7 * r + j)) ?_ ?_ ?_ ?_ hW ?_ hR), rfl, Or.inr rfl, fun _ => hH.cg hW, fun z => absurd z (by decide)⟩
        · intro j hj
          rw [gU _ (by decide) (by decide) (by decide)]; exact p1 j hj
        · intro j hj
          rw [gU _ (by decide) (by decide) (by decide)]; exact p2 j hj
        · intro j h1 h2
          rw [gU _ (by decide) (by decide) (by decide)]; exact p3 j (Or.inr ⟨h1, h2⟩)
        · intro j hj
          rw [gU _ (by decide) (by decide) (by decide)]; exact p4 j hj
        · intro j hj
          show gI T 71 j = _
          rw [gT 71 (by decide), gB71 j hj]
    exact ⟨key.1, inv_scn (Nat.le_succ n) f1 f2 (by decide) (by decide) key.2 hI⟩
