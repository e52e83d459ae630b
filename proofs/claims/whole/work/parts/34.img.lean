-- needs: 33.row
/-! ===== images: what is copied ===== -/
theorem ActB.cg {W W' : Nat → Int32} (h : ∀ j, j < 172 → W' j = W j) {i : Nat} (hi : i < 20) (hA : ActB W i) : ActB W' i := by
  unfold ActB at hA ⊢
  rw [h (72 + 5 * i) (by omega), h (72 + 5 * i + 1) (by omega), h (72 + 5 * i + 2) (by omega), h (72 + 5 * i + 3) (by omega), h (72 + 5 * i + 4) (by omega), h 2 (by omega)]
  exact hA
theorem WayB.cg {W W' : Nat → Int32} (h : ∀ j, j < 172 → W' j = W j) (hB : WayB W) : WayB W' := by
  obtain ⟨c, r, hh, b, f, ru, a⟩ := hB
  refine ⟨?_, fun i hi => ?_, fun i hi => ?_, fun i hi => ?_, fun i hi => ?_, ?_, fun i hi h5 => ?_⟩
  · rw [h 0 (by omega), h 1 (by omega), h 2 (by omega), h 3 (by omega), h 4 (by omega), h 5 (by omega)]; exact c
  · rw [h 0 (by omega), h (6 + 3 * i) (by omega), h (6 + 3 * i + 1) (by omega), h (6 + 3 * i + 2) (by omega)]; exact r i hi
  · rw [h 1 (by omega), h (15 + 3 * i) (by omega), h (15 + 3 * i + 1) (by omega), h (15 + 3 * i + 2) (by omega)]; exact hh i hi
  · rw [h 2 (by omega), h (24 + 5 * i) (by omega), h (24 + 5 * i + 1) (by omega), h (24 + 5 * i + 2) (by omega), h (24 + 5 * i + 3) (by omega), h (24 + 5 * i + 4) (by omega)]; exact b i hi
  · rw [h (44 + 4 * i) (by omega), h (44 + 4 * i + 1) (by omega), h (44 + 4 * i + 2) (by omega), h (44 + 4 * i + 3) (by omega)]; exact f i hi
  · rw [h 68 (by omega), h 69 (by omega), h 70 (by omega), h 71 (by omega)]; exact ru
  · rw [h 5 (by omega)] at h5; exact (a i hi h5).cg h hi
theorem WayR.cg {C V C' V' W W' : Nat → Int32} (hC : ∀ j, j < 6 → C' j = C j) (hV : ∀ j, j < 185 → V' j = V j) (h : ∀ j, j < 172 → W' j = W j) (hR : WayR C V W) : WayR C' V' W' := by
  obtain ⟨a, b, c, d, e, f, g⟩ := hR
  refine ⟨fun j hj => ?_, fun i k hi hk => ?_, fun i k hi hk => ?_, fun i k hi hk => ?_, fun i k hi hk => ?_, fun k hk => ?_, fun i k hi hk => ?_⟩
  · rw [hC j hj, h j (by omega)]; exact a j hj
  · rw [hV _ (by omega), h _ (by omega)]; exact b i k hi hk
  · rw [hV _ (by omega), h _ (by omega)]; exact c i k hi hk
  · rw [hV _ (by omega), h _ (by omega)]; exact d i k hi hk
  · rw [hV _ (by omega), h _ (by omega)]; exact e i k hi hk
  · rw [hV _ (by omega), h _ (by omega)]; exact f k hk
  · rw [hV _ (by omega), h _ (by omega)]; exact g i k hi hk
theorem HeldR.cg {O O' W W' : Nat → Int32} {r k : Int32} (hO : ∀ j, 4 ≤ j → j ≤ 9 → O' j = O j) (h : ∀ j, j < 172 → W' j = W j) (hR : HeldR O W r k) : HeldR O' W' r k := by
  obtain ⟨a, b, c, d, e, f, g⟩ := hR
  obtain ⟨i, hi, rfl⟩ := nI_of_bw (n := 3) a.1 (by have := a.2; omega) (by omega)
  rw [nI_clamp' (by omega)] at c d e
  refine ⟨a, b, ?_, ?_, ?_, ?_, fun hk => ?_⟩
  · rw [hO 4 (by omega) (by omega), nI_clamp' (by omega), h _ (by omega)]; exact c
  · rw [hO 5 (by omega) (by omega), nI_clamp' (by omega), h _ (by omega)]; exact d
  · rw [hO 6 (by omega) (by omega), nI_clamp' (by omega), h _ (by omega)]; exact e
  · rw [hO 7 (by omega) (by omega), hO 8 (by omega) (by omega), hO 9 (by omega) (by omega)]; exact f
  · rcases b with q | q
    · exact absurd q hk
    · have g' := g hk
      obtain ⟨i2, hi2, rfl⟩ := nI_of_bw (n := 3) q.1 (by have := q.2; omega) (by omega)
      rw [nI_clamp' (by omega)] at g' ⊢
      rw [hO 7 (by omega) (by omega), hO 8 (by omega) (by omega), hO 9 (by omega) (by omega), h _ (by omega), h _ (by omega), h _ (by omega)]
      exact g'
theorem HeldB.cg {W W' : Nat → Int32} {r k : Int32} (h : ∀ j, j < 172 → W' j = W j) (hR : HeldB W r k) : HeldB W' r k := by
  unfold HeldB
  rw [h 0 (by omega), h 1 (by omega)]
  exact hR
theorem LoopR.cg2 {O O' L : Nat → Int32} (h : ∀ j, j < 7 → O' j = O j) (hR : LoopR O L) : LoopR O' L := by
  unfold LoopR
  rw [h 0 (by decide), h 1 (by decide), h 2 (by decide), h 3 (by decide), h 4 (by decide), h 5 (by decide), h 6 (by decide)]
  exact hR
/-- a scene that was copied -/
theorem SceneR.cg {n a b : Nat} {S T : HSt} {W W' L L' : Nat → Int32} {r k : Int32} (h1 : ∀ j, j < 6 → gI T (b + 2) j = gI S (a + 2) j) (h2 : ∀ j, j < 185 → gI T (b + 3) j = gI S (a + 3) j) (h3 : ∀ j, 4 ≤ j → j ≤ 9 → gI T b j = gI S a j) (h4 : ∀ j, j < 7 → gI T (b + 4) j = gI S (a + 4) j) (hW : ∀ j, j < 172 → W' j = W j) (hL : ∀ j, j < 7 → L' j = L j) (hR : SceneR n a S W L r k) : SceneR n b T W' L' r k := by
  obtain ⟨p1, p2, p3, p4, p5⟩ := hR
  have hr := p3.1
  refine ⟨p1.cg h1 h2 hW, p2.cg hW, p3.cg h3 hW, (p4.cg2 h4).cg hL, ?_⟩
  obtain ⟨i, hi, rfl⟩ := nI_of_bw (n := 3) hr.1 (by have := hr.2; omega) (by omega)
  rw [nI_clamp' (by omega)] at p5 ⊢
  rw [hW _ (by omega), hW _ (by omega)]
  exact p5.cg hL
/-- copyFrom of a scene -/
theorem copy_at (S : HSt) {o sc : Nat} (h : o + 5 ≤ sc ∨ sc + 5 ≤ o) : (∀ j, j < 6 → gI (f_X7_copyFrom S o sc) (o + 2) j = gI S (sc + 2) j) ∧ (∀ j, j < 185 → gI (f_X7_copyFrom S o sc) (o + 3) j = gI S (sc + 3) j) ∧ (∀ j, j = 2 ∨ (4 ≤ j ∧ j ≤ 9) → gI (f_X7_copyFrom S o sc) o j = gI S sc j) ∧ (∀ j, j < 7 → gI (f_X7_copyFrom S o sc) (o + 4) j = gI S (sc + 4) j) := by
  have e6 : (6 : Int32).toNatClampNeg = 6 := rfl
  have e185 : (185 : Int32).toNatClampNeg = 185 := rfl
  have e0 : (0 : Int32).toNatClampNeg = 0 := rfl
  have n1 : ¬ o + 2 = o := by omega
  have n2 : ¬ o + 2 = o + 4 := by omega
  have n3 : ¬ o + 2 = o + 3 := by omega
  have n4 : ¬ o + 3 = o := by omega
  have n5 : ¬ o + 3 = o + 4 := by omega
  have n6 : ¬ o + 3 = o + 2 := by omega
  have n7 : ¬ sc + 3 = o + 2 := by omega
  have n8 : ¬ sc = o := by omega
  have n9 : ¬ sc = o + 4 := by omega
  have n10 : ¬ sc = o + 3 := by omega
  have n11 : ¬ sc = o + 2 := by omega
  have n12 : ¬ sc + 4 = o + 4 := by omega
  have n13 : ¬ sc + 4 = o + 3 := by omega
  have n14 : ¬ sc + 4 = o + 2 := by omega
  have n15 : ¬ o = o + 4 := by omega
  have n16 : ¬ o + 4 = o := by omega
  have n17 : ¬ sc + 2 = o := by omega
  have n18 : ¬ sc + 1 = o := by omega
  unfold f_X7_copyFrom f_X10_copyFrom f_X1_copyFrom
  simp only [bd_def, Nat.add_assoc, Nat.reduceAdd, e6, e185, e0]
  refine ⟨fun j hj => ?_, fun j hj => ?_, fun j hj => ?_, fun j hj => ?_⟩
  · simp only [gI_sI, gI_rI, if_neg n1, if_neg n2, if_neg n3, if_true, reduceIte, Nat.reduceAdd]
    show va_cpy _ _ 0 0 6 j = _
    rw [pk_cpy_in (by omega) (by omega)]
    simp
  · simp only [gI_sI, gI_rI, if_neg n4, if_neg n5, if_neg n7, if_true, reduceIte, Nat.reduceAdd]
    show va_cpy _ _ 0 0 185 j = _
    rw [pk_cpy_in (by omega) (by omega)]
    simp
  · have hc : j = 2 ∨ j = 4 ∨ j = 5 ∨ j = 6 ∨ j = 7 ∨ j = 8 ∨ j = 9 := by omega
    rcases hc with rfl | rfl | rfl | rfl | rfl | rfl | rfl <;> simp only [gI_sI, gI_rI, if_neg n8, if_neg n9, if_neg n10, if_neg n11, if_neg n15, if_true, if_false, reduceIte, Nat.reduceEqDiff]
  · have hc : j = 0 ∨ j = 1 ∨ j = 2 ∨ j = 3 ∨ j = 4 ∨ j = 5 ∨ j = 6 := by omega
    rcases hc with rfl | rfl | rfl | rfl | rfl | rfl | rfl <;> simp only [gI_sI, gI_rI, if_neg n12, if_neg n13, if_neg n14, if_neg n16, if_neg n17, if_neg n18, if_neg n8, if_true, if_false, reduceIte, Nat.reduceEqDiff]
theorem p_copy {S : HSt} {o sc : Nat} (h : o + 5 ≤ sc ∨ sc + 5 ≤ o) (h6 : Bz (gI S (sc + 4) 6)) (h2 : Bz (gI S sc 2)) : p_X7_copyFrom S o sc := by
  have n9 : ¬ sc = o + 4 := by omega
  have n10 : ¬ sc = o + 3 := by omega
  have n11 : ¬ sc = o + 2 := by omega
  have n12 : ¬ sc + 4 = o + 4 := by omega
  have n13 : ¬ sc + 4 = o + 3 := by omega
  have n14 : ¬ sc + 4 = o + 2 := by omega
  refine ⟨fun r1 e1 => ?_, fun r1 e1 r2 e2 => ?_⟩
  · intro S1 s1 S2 s2 S3 s3 S4 s4 S5 s5 S6 s6
    rw [← s6, ← s5, ← s4, ← s3, ← s2, ← s1, ← e1]
    unfold f_X10_copyFrom
    simp only [bd_def, Nat.add_assoc, Nat.reduceAdd, gI_sI, gI_rI, if_neg n12, if_neg n13, if_neg n14]
    exact h6
  · rw [← e2, ← e1]
    unfold f_X10_copyFrom f_X1_copyFrom
    simp only [bd_def, Nat.add_assoc, Nat.reduceAdd, gI_sI, gI_rI, if_neg n9, if_neg n10, if_neg n11]
    exact h2
theorem c_image_32 {r : Nat} (hr : r < 2) : ∀ (n : Nat) (T : HSt) (k : Nat), k ≤ 172 → 172 - k < n → T_X12_image_32 n T (nI r) (nI k) ∧ (L_X12_image_32 n T (nI r) (nI k)).1 = nI r ∧ (∀ j, gI (L_X12_image_32 n T (nI r) (nI k)).2.2 83 j = if 172 * r + k ≤ j ∧ j < 172 * r + 172 then gI T 68 (j - 172 * r) else gI T 83 j) ∧ (∀ x, x ≠ 83 → gI (L_X12_image_32 n T (nI r) (nI k)).2.2 x = gI T x) := by
  intro n
  induction n with
  | zero => intro T k _ h; omega
  | succ n ih =>
    intro T k hk hn
    unfold T_X12_image_32 L_X12_image_32
    by_cases c : k = 172
    · subst c
      have a1 : (172 : Int32) ≤ nI 172 := nI_le (a := 172) (b := 172) (by omega) (by omega)
      refine ⟨⟨fun q => absurd a1 q, fun q => absurd a1 q, fun q => absurd a1 q⟩, ?_⟩
      rw [if_pos a1]
      refine ⟨rfl, fun j => ?_, fun x _ => rfl⟩
      rw [if_neg (by omega)]
      rfl
    · have a1 : ¬ (172 : Int32) ≤ nI k := nI_ge (a := k) (b := 172) (by omega) (by omega)
      have hx : ((172 : Int32) * nI r) + nI k = nI (172 * r + k) := by rw [show (172 : Int32) = nI 172 from rfl, pk_mul, nI_add]
      obtain ⟨i1, i2, i3, i4⟩ := ih (sI T 83 (172 * r + k) (gI T 68 k)) (k + 1) (by omega) (by omega)
      rw [nI_succ] at i1 i2 i3 i4
      rw [hx, nI_clamp' (i := 172 * r + k) (by omega), nI_clamp' (i := k) (by omega)]
      refine ⟨⟨fun _ => vp_in_nI (by omega) (by omega), fun _ => vp_in_nI (by omega) (by omega), fun _ S1 e1 => by rw [← e1]; exact i1⟩, ?_⟩
      rw [if_neg a1, bd_def]
      refine ⟨i2, fun j => ?_, fun x hx => ?_⟩
      · rw [i3 j]
        by_cases d : 172 * r + (k + 1) ≤ j ∧ j < 172 * r + 172
        · rw [if_pos d, if_pos (by omega), gI_sI, if_neg (by decide)]
        · rw [if_neg d, gI_sI, if_pos rfl]
          by_cases e : j = 172 * r + k
          · exact by
              rw [if_pos e, if_pos (by omega), e, Nat.add_sub_cancel_left]
          · rw [if_neg e, if_neg (by omega)]
      · rw [i4 x hx]
        funext j
        rw [gI_sI, if_neg hx]
theorem c_image_65 {r : Nat} (hr : r < 2) : ∀ (n : Nat) (T : HSt) (k : Nat), k ≤ 7 → 7 - k < n → T_X12_image_65 n T (nI r) (nI k) ∧ (L_X12_image_65 n T (nI r) (nI k)).1 = nI r ∧ (∀ j, gI (L_X12_image_65 n T (nI r) (nI k)).2.2 84 j = if 7 * r + k ≤ j ∧ j < 7 * r + 7 then gI T 71 (j - 7 * r) else gI T 84 j) ∧ (∀ x, x ≠ 84 → gI (L_X12_image_65 n T (nI r) (nI k)).2.2 x = gI T x) := by
  intro n
  induction n with
  | zero => intro T k _ h; omega
  | succ n ih =>
    intro T k hk hn
    unfold T_X12_image_65 L_X12_image_65
    by_cases c : k = 7
    · subst c
      have a1 : (7 : Int32) ≤ nI 7 := nI_le (a := 7) (b := 7) (by omega) (by omega)
      refine ⟨⟨fun q => absurd a1 q, fun q => absurd a1 q, fun q => absurd a1 q⟩, ?_⟩
      rw [if_pos a1]
      refine ⟨rfl, fun j => ?_, fun x _ => rfl⟩
      rw [if_neg (by omega)]
      rfl
    · have a1 : ¬ (7 : Int32) ≤ nI k := nI_ge (a := k) (b := 7) (by omega) (by omega)
      have hx : ((7 : Int32) * nI r) + nI k = nI (7 * r + k) := by rw [show (7 : Int32) = nI 7 from rfl, pk_mul, nI_add]
      obtain ⟨i1, i2, i3, i4⟩ := ih (sI T 84 (7 * r + k) (gI T 71 k)) (k + 1) (by omega) (by omega)
      rw [nI_succ] at i1 i2 i3 i4
      rw [hx, nI_clamp' (i := 7 * r + k) (by omega), nI_clamp' (i := k) (by omega)]
      refine ⟨⟨fun _ => vp_in_nI (by omega) (by omega), fun _ => vp_in_nI (by omega) (by omega), fun _ S1 e1 => by rw [← e1]; exact i1⟩, ?_⟩
      rw [if_neg a1, bd_def]
      refine ⟨i2, fun j => ?_, fun x hx => ?_⟩
      · rw [i3 j]
        by_cases d : 7 * r + (k + 1) ≤ j ∧ j < 7 * r + 7
        · rw [if_pos d, if_pos (by omega), gI_sI, if_neg (by decide)]
        · rw [if_neg d, gI_sI, if_pos rfl]
          by_cases e : j = 7 * r + k
          · exact by
              rw [if_pos e, if_pos (by omega), e, Nat.add_sub_cancel_left]
          · rw [if_neg e, if_neg (by omega)]
      · rw [i4 x hx]
        funext j
        rw [gI_sI, if_neg hx]
theorem c_restore_34 {r : Nat} (hr : r < 2) : ∀ (n : Nat) (T : HSt) (k : Nat), k ≤ 172 → 172 - k < n → T_X12_restore_34 n T (nI r) (nI k) ∧ (L_X12_restore_34 n T (nI r) (nI k)).1 = nI r ∧ (∀ j, gI (L_X12_restore_34 n T (nI r) (nI k)).2.2 68 j = if k ≤ j ∧ j < 172 then gI T 83 (172 * r + j) else gI T 68 j) ∧ (∀ x, x ≠ 68 → gI (L_X12_restore_34 n T (nI r) (nI k)).2.2 x = gI T x) := by
  intro n
  induction n with
  | zero => intro T k _ h; omega
  | succ n ih =>
    intro T k hk hn
    unfold T_X12_restore_34 L_X12_restore_34
    by_cases c : k = 172
    · subst c
      have a1 : (172 : Int32) ≤ nI 172 := nI_le (a := 172) (b := 172) (by omega) (by omega)
      refine ⟨⟨fun q => absurd a1 q, fun q => absurd a1 q, fun q => absurd a1 q⟩, ?_⟩
      rw [if_pos a1]
      refine ⟨rfl, fun j => ?_, fun x _ => rfl⟩
      rw [if_neg (by omega)]
      rfl
    · have a1 : ¬ (172 : Int32) ≤ nI k := nI_ge (a := k) (b := 172) (by omega) (by omega)
      have hx : ((172 : Int32) * nI r) + nI k = nI (172 * r + k) := by rw [show (172 : Int32) = nI 172 from rfl, pk_mul, nI_add]
      obtain ⟨i1, i2, i3, i4⟩ := ih (sI T 68 k (gI T 83 (172 * r + k))) (k + 1) (by omega) (by omega)
      rw [nI_succ] at i1 i2 i3 i4
      rw [hx, nI_clamp' (i := 172 * r + k) (by omega), nI_clamp' (i := k) (by omega)]
      refine ⟨⟨fun _ => vp_in_nI (by omega) (by omega), fun _ => vp_in_nI (by omega) (by omega), fun _ S1 e1 => by rw [← e1]; exact i1⟩, ?_⟩
      rw [if_neg a1, bd_def]
      refine ⟨i2, fun j => ?_, fun x hx => ?_⟩
      · rw [i3 j]
        by_cases d : k + 1 ≤ j ∧ j < 172
        · rw [if_pos d, if_pos (by omega), gI_sI, if_neg (by decide)]
        · rw [if_neg d, gI_sI, if_pos rfl]
          by_cases e : j = k
          · exact by
              rw [if_pos e, if_pos (by omega), e]
          · rw [if_neg e, if_neg (by omega)]
      · rw [i4 x hx]
        funext j
        rw [gI_sI, if_neg hx]
theorem c_restore_67 {r : Nat} (hr : r < 2) : ∀ (n : Nat) (T : HSt) (k : Nat), k ≤ 7 → 7 - k < n → T_X12_restore_67 n T (nI r) (nI k) ∧ (L_X12_restore_67 n T (nI r) (nI k)).1 = nI r ∧ (∀ j, gI (L_X12_restore_67 n T (nI r) (nI k)).2.2 71 j = if k ≤ j ∧ j < 7 then gI T 84 (7 * r + j) else gI T 71 j) ∧ (∀ x, x ≠ 71 → gI (L_X12_restore_67 n T (nI r) (nI k)).2.2 x = gI T x) := by
  intro n
  induction n with
  | zero => intro T k _ h; omega
  | succ n ih =>
    intro T k hk hn
    unfold T_X12_restore_67 L_X12_restore_67
    by_cases c : k = 7
    · subst c
      have a1 : (7 : Int32) ≤ nI 7 := nI_le (a := 7) (b := 7) (by omega) (by omega)
      refine ⟨⟨fun q => absurd a1 q, fun q => absurd a1 q, fun q => absurd a1 q⟩, ?_⟩
      rw [if_pos a1]
      refine ⟨rfl, fun j => ?_, fun x _ => rfl⟩
      rw [if_neg (by omega)]
      rfl
    · have a1 : ¬ (7 : Int32) ≤ nI k := nI_ge (a := k) (b := 7) (by omega) (by omega)
      have hx : ((7 : Int32) * nI r) + nI k = nI (7 * r + k) := by rw [show (7 : Int32) = nI 7 from rfl, pk_mul, nI_add]
      obtain ⟨i1, i2, i3, i4⟩ := ih (sI T 71 k (gI T 84 (7 * r + k))) (k + 1) (by omega) (by omega)
      rw [nI_succ] at i1 i2 i3 i4
      rw [hx, nI_clamp' (i := 7 * r + k) (by omega), nI_clamp' (i := k) (by omega)]
      refine ⟨⟨fun _ => vp_in_nI (by omega) (by omega), fun _ => vp_in_nI (by omega) (by omega), fun _ S1 e1 => by rw [← e1]; exact i1⟩, ?_⟩
      rw [if_neg a1, bd_def]
      refine ⟨i2, fun j => ?_, fun x hx => ?_⟩
      · rw [i3 j]
        by_cases d : k + 1 ≤ j ∧ j < 7
        · rw [if_pos d, if_pos (by omega), gI_sI, if_neg (by decide)]
        · rw [if_neg d, gI_sI, if_pos rfl]
          by_cases e : j = k
          · exact by
              rw [if_pos e, if_pos (by omega), e]
          · rw [if_neg e, if_neg (by omega)]
      · rw [i4 x hx]
        funext j
        rw [gI_sI, if_neg hx]
