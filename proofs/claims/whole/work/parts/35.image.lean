-- needs: 34.img
def WI : List (Nat × Nat) := [(24, 1000), (25, 1000), (26, 1000), (27, 1000), (28, 1000), (29, 1000), (30, 1000), (31, 1000), (32, 1000), (33, 1000)]
theorem fr_wide {W W2 : List (Nat × Nat)} {S T : HSt} (hw : W.all (fun q => decide ((q.1, 1000) ∈ W2)) = true) (h : Fr W S T) : Fr W2 S T := fun a j _ h2 => h a j (fun q => h2 (of_decide_eq_true (List.all_eq_true.mp hw _ q))) (fun q => h2 (of_decide_eq_true (List.all_eq_true.mp hw _ q)))
theorem img_fr (S : HSt) {r : Nat} (hr : r < 2) : Fr WI S (f_X7_copyFrom S (24 + 5 * r) 18) := by
  have hc : r = 0 ∨ r = 1 := by omega
  rcases hc with rfl | rfl
  · exact fr_wide (by decide) (v_X7_copyFrom S 24 18)
  · exact fr_wide (by decide) (v_X7_copyFrom S 29 18)
/-- what the other image is: untouched -/
theorem img_other (S : HSt) {r k : Nat} (hr : r < 2) (hk : k < 2) (hne : k ≠ r) : ∀ a, 24 + 5 * k ≤ a → a ≤ 28 + 5 * k → gI (f_X7_copyFrom S (24 + 5 * r) 18) a = gI S a := by
  intro a h1 h2
  have hc : (r = 0 ∧ k = 1) ∨ (r = 1 ∧ k = 0) := by omega
  rcases hc with ⟨rfl, rfl⟩ | ⟨rfl, rfl⟩
  · exact fr_addr (v_X7_copyFrom S 24 18) a (fun q hq e => by
      have := (show ∀ q ∈ ([(((24 + 1) + 1), 1000), (((24 + 1) + 2), 1000), ((24 + 4), 0), ((24 + 4), 1), ((24 + 4), 2), ((24 + 4), 3), ((24 + 4), 4), ((24 + 4), 5), ((24 + 4), 6), (24, 2), (24, 3), (24, 4), (24, 5), (24, 6), (24, 7), (24, 8), (24, 9)] : List (Nat × Nat)), q.1 ≤ 28 by decide) q (by simpa using hq)
      omega)
  · exact fr_addr (v_X7_copyFrom S 29 18) a (fun q hq e => by
      have := (show ∀ q ∈ ([(((29 + 1) + 1), 1000), (((29 + 1) + 2), 1000), ((29 + 4), 0), ((29 + 4), 1), ((29 + 4), 2), ((29 + 4), 3), ((29 + 4), 4), ((29 + 4), 5), ((29 + 4), 6), (29, 2), (29, 3), (29, 4), (29, 5), (29, 6), (29, 7), (29, 8), (29, 9)] : List (Nat × Nat)), 29 ≤ q.1 by decide) q (by simpa using hq)
      omega)
theorem inv_img {n m : Nat} {W W2 : List (Nat × Nat)} {S S1 T : HSt} (hnm : n ≤ m) (h : Fr W S S1) (h2 : Fr W2 S1 T)
    (c1 : (W.all (fun q => !((decide (3 ≤ q.1) && decide (q.1 ≤ 12)) || (decide (65 ≤ q.1) && decide (q.1 ≤ 67)))) && W.all (fun q => !(decide (q.1 = 14) || decide (q.1 = 70) || decide (q = (13, 2)) || decide (q = (13, 1000)) || decide (q = (64, 9)) || decide (q = (64, 1000)))) && W.all (fun q => !(decide (q = (0, 10)) || decide (q = (0, 1000)) || decide (q = (13, 7)) || decide (q = (13, 1000)) || decide (q = (64, 1)) || decide (q = (64, 10)) || decide (q = (64, 1000)))) && W.all (fun q => !(decide (q.1 = 62) || decide (q.1 = 63) || decide (q.1 = 87) || decide (q = (64, 51)) || decide (q = (64, 1000)))) && W.all (fun q => !((decide (q.1 = 18) && !decide (q.2 = 3)) || decide (q.1 = 20) || decide (q.1 = 21) || decide (q.1 = 22) || decide (q.1 = 68) || decide (q.1 = 71) || decide (q = (64, 7)) || decide (q = (64, 18)) || decide (q = (64, 19)) || decide (q = (64, 1000))))) = true)
    (c2 : (W2.all (fun q => !((decide (3 ≤ q.1) && decide (q.1 ≤ 12)) || (decide (65 ≤ q.1) && decide (q.1 ≤ 67)))) && W2.all (fun q => !(decide (q.1 = 14) || decide (q.1 = 70) || decide (q = (13, 2)) || decide (q = (13, 1000)) || decide (q = (64, 9)) || decide (q = (64, 1000)))) && W2.all (fun q => !(decide (q = (0, 10)) || decide (q = (0, 1000)) || decide (q = (13, 7)) || decide (q = (13, 1000)) || decide (q = (64, 1)) || decide (q = (64, 10)) || decide (q = (64, 1000)))) && W2.all (fun q => !(decide (q.1 = 62) || decide (q.1 = 63) || decide (q.1 = 87) || decide (q = (64, 51)) || decide (q = (64, 1000)))) && W2.all (fun q => !((decide (q.1 = 18) && !decide (q.2 = 3)) || decide (q.1 = 20) || decide (q.1 = 21) || decide (q.1 = 22) || decide (q.1 = 68) || decide (q.1 = 71) || decide (q = (64, 7)) || decide (q = (64, 18)) || decide (q = (64, 19)) || decide (q = (64, 1000))))) = true)
    (hs : IImg m T) (hI : Inv0 n S) : Inv0 m T := by
  simp only [Bool.and_eq_true] at c1 c2
  obtain ⟨⟨⟨⟨a1, a2⟩, a3⟩, a4⟩, a5⟩ := c1
  obtain ⟨⟨⟨⟨b1, b2⟩, b3⟩, b4⟩, b5⟩ := c2
  obtain ⟨i1, i2, i3, i4, i5, i6⟩ := hI
  exact ⟨fr_row b1 h2 (fr_row a1 h i1), fr_tape b2 h2 (fr_tape a2 h i2), fr_stat b3 h2 (fr_stat a3 h i3), fr_tr b4 h2 (fr_tr a4 h i4), (fr_scn b5 h2 (fr_scn a5 h i5)).mono hnm, hs⟩
theorem gs_ne {S : HSt} {a b j : Nat} {v : Int32} (h : a ≠ b) : gI (sI S b j v) a = gI S a := by funext k; rw [gI_sI, if_neg h]
theorem gs_eq {S : HSt} {a j k : Nat} {v : Int32} : gI (sI S a j v) a k = if k = j then v else gI S a k := by rw [gI_sI, if_pos rfl]
theorem gs_o {S : HSt} {a j k : Nat} {v : Int32} (h : k ≠ j) : gI (sI S a j v) a k = gI S a k := by rw [gI_sI, if_pos rfl, if_neg h]
theorem k_image : K_image Inv0 := by
  intro n S a hn hI
  have hp : ∀ T : HSt, f_X12_in T a.toInt64 (0 : Int64) (1 : Int64) = f_X11_within S a 0 1 := fun T => by
    rw [show (0 : Int64) = (0 : Int32).toInt64 from rfl, show (1 : Int64) = (1 : Int32).toInt64 from rfl, in_within T S]
  obtain ⟨hR, hth, hbz, hH1, -⟩ := hI.2.2.2.2.1
  have hrx : ¬ f_X11_within S a 0 1 = 0 → ∃ r, r < 2 ∧ a = nI r := fun h => by
    have w := within_1 S h
    exact nI_of_bw (n := 2) w.1 (by have := w.2; rw [ti1] at this; omega) (by omega)
  have hk6 : Bz (gI S (18 + 4) 6) := by
    have : gI S 22 6 = gI S 71 5 := hR.2.2.2.1.2.2.2.2.2.2
    show Bz (gI S 22 6)
    rw [this]
    exact hR.2.2.2.2.2.2.2.2.2.1
  have hk2 : Bz (gI S 18 2) := by rw [hth]; exact hbz
  have hcls : (f_X11_within S a 0 1 = 0 ∧ (f_X11_image S 0 a).1 = -9000000000000000001 ∧ (f_X11_image S 0 a).2 = S) ∨ (¬ f_X11_within S a 0 1 = 0 ∧ gI S 64 7 = 0 ∧ (f_X11_image S 0 a).1 = -9000000000000000002 ∧ (f_X11_image S 0 a).2 = S) ∨ (∃ r, r < 2 ∧ a = nI r ∧ ¬ f_X11_within S a 0 1 = 0 ∧ ¬ gI S 64 7 = 0 ∧ (f_X11_image S 0 a).1 = 1 ∧ (f_X11_image S 0 a).2 = f_X7_copyFrom S (24 + 5 * r) 18) := by
    unfold f_X11_image
    rw [hth]
    by_cases c1 : f_X11_within S a 0 1 = 0
    · left
      rw [if_pos c1]
      exact ⟨c1, pr_1 _ _, pr_2 _ _⟩
    · right
      rw [if_neg c1]
      by_cases c2 : gI S 64 7 = 0
      · left
        rw [if_pos c2]
        exact ⟨c1, c2, pr_1 _ _, pr_2 _ _⟩
      · right
        rw [if_neg c2, bd_def]
        obtain ⟨r, hr, rfl⟩ := hrx c1
        rw [nI_clamp' (by omega)]
        exact ⟨r, hr, rfl, c1, c2, pr_1 _ _, pr_2 _ _⟩
  have f1 : Fr WI S (f_X11_image S 0 a).2 := by
    rcases hcls with ⟨-, -, e⟩ | ⟨-, -, -, e⟩ | ⟨r, hr, -, -, -, -, e⟩
    · rw [e]; exact Fr.refl _ _
    · rw [e]; exact Fr.refl _ _
    · rw [e]; exact img_fr S hr
  have f2 := v_X12_image (f_X11_image S 0 a).2 64 a
  -- the model's loops
  have hloop : ∀ r, r < 2 → ∀ T : HSt, T_X12_image_32 1000 T (nI r) (0 : Int32) ∧ T_X12_image_65 1000 (L_X12_image_32 1000 T (nI r) (0 : Int32)).2.2 (L_X12_image_32 1000 T (nI r) (0 : Int32)).1 (0 : Int32) ∧ (L_X12_image_65 1000 (L_X12_image_32 1000 T (nI r) (0 : Int32)).2.2 (L_X12_image_32 1000 T (nI r) (0 : Int32)).1 (0 : Int32)).1 = nI r := fun r hr T => by
    obtain ⟨i1, i2, -, -⟩ := c_image_32 hr 1000 T 0 (by omega) (by omega)
    obtain ⟨j1, j2, -, -⟩ := c_image_65 hr 1000 (L_X12_image_32 1000 T (nI r) (nI 0)).2.2 0 (by omega) (by omega)
    rw [show (0 : Int32) = nI 0 from rfl, i2]
    exact ⟨i1, j1, j2⟩
  refine ⟨⟨fun h _ => ?_, fun h _ => ?_⟩, ⟨?_, ?_, ?_, ?_, ?_⟩, ?_⟩
  · obtain ⟨r, hr, rfl⟩ := hrx h
    exact vp_in_nI hr (by omega)
  · obtain ⟨r, hr, rfl⟩ := hrx h
    rw [nI_clamp' (by omega)]
    exact p_copy (by omega) hk6 hk2
  · intro S1 _ h _
    rw [hp] at h
    obtain ⟨r, hr, rfl⟩ := hrx h
    exact (hloop r hr S1).1
  · intro S1 _ h _ r4 e4
    rw [hp] at h
    obtain ⟨r, hr, rfl⟩ := hrx h
    rw [← e4]
    exact (hloop r hr S1).2.1
  · intro S1 _ h _ r4 e4 r5 e5
    rw [hp] at h
    obtain ⟨r, hr, rfl⟩ := hrx h
    rw [← e5, ← e4, (hloop r hr S1).2.2]
    exact vp_in_nI hr (by omega)
  · intro S1 _ h _ r4 e4 r5 e5 _ _
    rw [hp] at h
    obtain ⟨r, hr, rfl⟩ := hrx h
    rw [← e5, ← e4, (hloop r hr S1).2.2]
    exact vp_in_nI hr (by omega)
  · intro S1 _ h _ r4 e4 r5 e5 _ _ _ _
    rw [hp] at h
    obtain ⟨r, hr, rfl⟩ := hrx h
    rw [← e5, ← e4, (hloop r hr S1).2.2]
    exact vp_in_nI hr (by omega)
  · have key : (f_X11_image S 0 a).1 = (f_X12_image (f_X11_image S 0 a).2 64 a).1 ∧ IImg (n + 1) (f_X12_image (f_X11_image S 0 a).2 64 a).2 := by
      have hsame : IImg (n + 1) (sI S 64 0 0) := IImg.mono (Nat.le_succ n) (IImg.of (S := S) (T := sI S 64 0 0) (fun x h1 h2 => by funext j; rw [gI_sI, if_neg (by omega)]) (fun x h1 h2 => by funext j; rw [gI_sI, if_neg (by omega)]) rfl hI.2.2.2.2.2)
      rcases hcls with ⟨c1, e1, e⟩ | ⟨c1, c2, e1, e⟩ | ⟨r, hr, rfl, c1, c2, e1, e⟩
      · rw [e1, e]
        unfold f_X12_image
        rw [bd_def, hp, if_pos c1, pr_1, pr_2]
        exact ⟨rfl, hsame⟩
      · rw [e1, e]
        unfold f_X12_image
        rw [bd_def, hp, if_neg c1, gs_o (by decide), if_pos c2, pr_1, pr_2]
        exact ⟨rfl, hsame⟩
      · rw [e1, e]
        have fU := img_fr S hr
        obtain ⟨p1, p2, p3, p4⟩ := copy_at S (o := 24 + 5 * r) (sc := 18) (by omega)
        have po : ∀ k, k < 2 → k ≠ r → ∀ x, 24 + 5 * k ≤ x → x ≤ 28 + 5 * k → gI (f_X7_copyFrom S (24 + 5 * r) 18) x = gI S x := fun k hk hne => img_other S hr hk hne
        generalize f_X7_copyFrom S (24 + 5 * r) 18 = U at fU p1 p2 p3 p4 po
        have g : ∀ x, (64 ≤ x ∨ x < 24) → gI U x = gI S x := fun x hx => fr_addr fU x (fun q hq z => by
          have := (show ∀ q ∈ WI, 24 ≤ q.1 ∧ q.1 ≤ 33 by decide) q hq
          omega)
        unfold f_X12_image
        simp only [bd_def]
        rw [hp, if_neg c1, gs_o (by decide), g 64 (by omega), if_neg c2]
        obtain ⟨-, i2, i3, i4⟩ := c_image_32 hr 1000 (sI U 64 0 0) 0 (by omega) (by omega)
        obtain ⟨-, j2, j3, j4⟩ := c_image_65 hr 1000 (L_X12_image_32 1000 (sI U 64 0 0) (nI r) (nI 0)).2.2 0 (by omega) (by omega)
        rw [show nI 0 = (0 : Int32) from rfl] at i2 i3 i4 j2 j3 j4
        rw [i2, j2, nI_clamp' (by omega), pr_1, pr_2, show vp_nar .boolean (1 : Int32) = 1 from by decide]
        generalize (L_X12_image_32 1000 (sI U 64 0 0) (nI r) (0 : Int32)).2.2 = A at i3 i4 j3 j4 ⊢
        generalize (L_X12_image_65 1000 A (nI r) (0 : Int32)).2.2 = B at j3 j4 ⊢
        -- B, place by place
        have gB : ∀ x, x ≠ 84 → x ≠ 83 → x ≠ 64 → gI B x = gI U x := fun x h1 h2 h3 => by
          rw [j4 x h1, i4 x h2]
          funext j
          rw [gI_sI, if_neg h3]
        have gB64 : ∀ j, j ≠ 0 → gI B 64 j = gI S 64 j := fun j hj => by
          rw [j4 64 (by decide), i4 64 (by decide), gI_sI, if_pos rfl, if_neg hj, g 64 (by omega)]
        have gB83 : ∀ j, gI B 83 j = if 172 * r + 0 ≤ j ∧ j < 172 * r + 172 then gI S 68 (j - 172 * r) else gI S 83 j := fun j => by
          rw [j4 83 (by decide), i3 j, gs_ne (by decide), gs_ne (by decide), g 68 (by omega), g 83 (by omega)]
        have gB84 : ∀ j, gI B 84 j = if 7 * r + 0 ≤ j ∧ j < 7 * r + 7 then gI S 71 (j - 7 * r) else gI S 84 j := fun j => by
          rw [j3 j, i4 71 (by decide), i4 84 (by decide), gs_ne (by decide), gs_ne (by decide), g 71 (by omega), g 84 (by omega)]
        rw [gB64 18 (by decide), show gI (sI B 85 r (gI S 64 18)) 64 19 = gI S 64 19 by rw [gI_sI, if_neg (by decide)]; exact gB64 19 (by decide)]
        refine ⟨rfl, ?_⟩
        generalize hT : sI (sI (sI B 85 r (gI S 64 18)) 86 r (gI S 64 19)) 82 r 1 = T
        have gT : ∀ x, x ≠ 82 → x ≠ 85 → x ≠ 86 → gI T x = gI B x := fun x h1 h2 h3 => by
          rw [← hT]
          funext j
          rw [gI_sI, if_neg h1, gI_sI, if_neg h3, gI_sI, if_neg h2]
        have t82 : ∀ k, gI T 82 k = if k = r then 1 else gI S 82 k := fun k => by
          rw [← hT, gs_eq, gs_ne (by decide), gs_ne (by decide), gB 82 (by decide) (by decide) (by decide), g 82 (by omega)]
        have t85 : ∀ k, gI T 85 k = if k = r then gI S 64 18 else gI S 85 k := fun k => by
          rw [← hT, gs_ne (by decide), gs_ne (by decide), gs_eq, gB 85 (by decide) (by decide) (by decide), g 85 (by omega)]
        have t86 : ∀ k, gI T 86 k = if k = r then gI S 64 19 else gI S 86 k := fun k => by
          rw [← hT, gs_ne (by decide), gs_eq, gs_ne (by decide), gB 86 (by decide) (by decide) (by decide), g 86 (by omega)]
        have gTo : ∀ x, 24 ≤ x → x ≤ 33 → gI T x = gI U x := fun x h1 h2 => by
          rw [gT x (by omega) (by omega) (by omega), gB x (by omega) (by omega) (by omega)]
        have t7 : gI T 64 7 = 1 := by
          rw [gT 64 (by decide) (by decide) (by decide), gB64 7 (by decide)]
          rcases hbz with q | q
          · exact absurd q c2
          · exact q
        intro k hk
        by_cases hkr : k = r
        · subst hkr
          rw [t82, if_pos rfl, t85, if_pos rfl, t86, if_pos rfl, gTo (24 + 5 * k) (by omega) (by omega), p3 2 (Or.inl rfl), hth]
          have h71 : gI S 64 7 = 1 := by rcases hbz with q | q; exact absurd q c2; exact q
          have hW : ∀ j, j < 172 → gI T 83 (172 * k + j) = gI S 68 j := fun j hj => by
            rw [gT 83 (by decide) (by decide) (by decide), gB83, if_pos (by omega), Nat.add_sub_cancel_left]
          refine ⟨h71, Or.inr rfl, fun _ => ⟨t7, SceneR.mono (Nat.le_succ n) (SceneR.cg (a := 18) (S := S) (W := gI S 68) (L := gI S 71) ?_ ?_ ?_ ?_ hW ?_ hR), (hH1 h71).cg hW⟩⟩
          · intro j hj
            rw [gTo _ (by omega) (by omega)]; exact p1 j hj
          · intro j hj
            rw [gTo _ (by omega) (by omega)]; exact p2 j hj
          · intro j h1 h2
            rw [gTo _ (by omega) (by omega)]; exact p3 j (Or.inr ⟨h1, h2⟩)
          · intro j hj
            rw [gTo _ (by omega) (by omega)]; exact p4 j hj
          · intro j hj
            show gI T 84 (7 * k + j) = _
            rw [gT 84 (by decide) (by decide) (by decide), gB84, if_pos (by omega), Nat.add_sub_cancel_left]
        · have hold := hI.2.2.2.2.2 k hk
          have go : ∀ x, 24 + 5 * k ≤ x → x ≤ 28 + 5 * k → gI T x = gI S x := fun x h1 h2 => by
            rw [gTo x (by omega) (by omega), po k hk hkr x h1 h2]
          rw [t82, if_neg hkr, t85, if_neg hkr, t86, if_neg hkr, go (24 + 5 * k) (by omega) (by omega)]
          have hW : ∀ j, j < 172 → gI T 83 (172 * k + j) = gI S 83 (172 * k + j) := fun j hj => by
            rw [gT 83 (by decide) (by decide) (by decide), gB83, if_neg (by omega)]
          refine ⟨hold.1, hold.2.1, fun q => ?_⟩
          obtain ⟨-, h2, h3⟩ := hold.2.2 q
          refine ⟨t7, SceneR.mono (Nat.le_succ n) (SceneR.cg (a := 24 + 5 * k) (S := S) (W := fun j => gI S 83 (172 * k + j)) (L := fun j => gI S 84 (7 * k + j)) ?_ ?_ ?_ ?_ hW ?_ h2), h3.cg hW⟩
          · intro j _; rw [go _ (by omega) (by omega)]
          · intro j _; rw [go _ (by omega) (by omega)]
          · intro j _ _; rw [go _ (by omega) (by omega)]
          · intro j _; rw [go _ (by omega) (by omega)]
          · intro j hj
            show gI T 84 (7 * k + j) = gI S 84 (7 * k + j)
            rw [gT 84 (by decide) (by decide) (by decide), gB84, if_neg (by omega)]
    exact ⟨key.1, inv_img (Nat.le_succ n) f1 f2 (by decide) (by decide) key.2 hI⟩
