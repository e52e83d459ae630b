-- needs: 32.set
/-! ===== row ===== -/
theorem fill_L (r : Nat) (v : Int32) {N : Nat} (hN : N < 1000) : ∀ (n : Nat) (S : HSt) (i : Nat), i ≤ N → N - i < n → ∀ j, gI (L_J7_fill_53178_5 r n S v (nI i) (nI N)).2.2.2 r j = if i ≤ j ∧ j < N then v else gI S r j := by
  intro n
  induction n with
  | zero => intro S i _ h; omega
  | succ n ih =>
    intro S i hi hn j
    unfold L_J7_fill_53178_5
    by_cases c : i = N
    · subst c
      rw [if_pos (nI_le (Nat.le_refl _) (by omega)), if_neg (by omega)]
      rfl
    · rw [if_neg (nI_ge (a := i) (b := N) (by omega) (by omega)), bd_def, nI_clamp' (by omega), ← nI_succ, ih _ (i + 1) (by omega) (by omega) j]
      by_cases d : i + 1 ≤ j ∧ j < N
      · rw [if_pos d, if_pos (by omega)]
      · rw [if_neg d, gI_sI, if_pos rfl]
        by_cases e : j = i
        · rw [if_pos e, if_pos (by omega)]
        · rw [if_neg e, if_neg (by omega)]
theorem fill_at {S : HSt} {r N : Nat} (v : Int32) (hL : gL S r = N) (hN : N < 1000) : (∀ j, j < N → gI (f_J7_fill_53178 S r v) r j = v) ∧ (∀ x, x ≠ r → gI (f_J7_fill_53178 S r v) x = gI S x) := by
  constructor
  · intro j hj
    unfold f_J7_fill_53178
    rw [bd_def, bd_def, hL, show (0 : Int32) = nI 0 from rfl, fill_L r v hN 1000 S 0 (by omega) (by omega) j, if_pos (by omega)]
  · intro x hx
    unfold f_J7_fill_53178
    simp only [bd_def]
    exact (fJ7_fill r _ _ _ _ _ x hx).1
theorem mrow_L (v2 v3 : Int32) {r : Nat} (hr : r < 8) : ∀ (n : Nat) (T : HSt) (k : Nat), k ≤ 40 → 40 - k < n → T_X12_row_66 n T (nI r) v2 v3 (nI k) ∧ (L_X12_row_66 n T (nI r) v2 v3 (nI k)).2.2.1 = v3 ∧ (∀ j, gI (L_X12_row_66 n T (nI r) v2 v3 (nI k)).2.2.2.2 67 j = if 40 * r + k ≤ j ∧ j < 40 * r + 40 then 0 else gI T 67 j) ∧ (∀ x, x ≠ 67 → gI (L_X12_row_66 n T (nI r) v2 v3 (nI k)).2.2.2.2 x = gI T x) := by
  intro n
  induction n with
  | zero => intro T k _ h; omega
  | succ n ih =>
    intro T k hk hn
    unfold T_X12_row_66 L_X12_row_66
    by_cases c : k = 40
    · subst c
      have a1 : (40 : Int32) ≤ nI 40 := nI_le (a := 40) (b := 40) (by omega) (by omega)
      refine ⟨⟨fun q => absurd a1 q, fun q => absurd a1 q⟩, ?_⟩
      rw [if_pos a1]
      refine ⟨rfl, fun j => ?_, fun x _ => rfl⟩
      rw [if_neg (by omega)]
      rfl
    · have a1 : ¬ (40 : Int32) ≤ nI k := nI_ge (a := k) (b := 40) (by omega) (by omega)
      have hx : (40 : Int32) * nI r + nI k = nI (40 * r + k) := by rw [show (40 : Int32) = nI 40 from rfl, pk_mul, nI_add]
      obtain ⟨i1, i2, i3, i4⟩ := ih (sI T 67 (40 * r + k) 0) (k + 1) (by omega) (by omega)
      rw [nI_succ] at i1 i2 i3 i4
      rw [hx, nI_clamp' (i := 40 * r + k) (by omega)]
      refine ⟨⟨fun _ => vp_in_nI (by omega) (by omega), fun _ S1 e1 => by rw [← e1]; exact i1⟩, ?_⟩
      rw [if_neg a1, bd_def]
      refine ⟨i2, fun j => ?_, fun x hx => ?_⟩
      · rw [i3 j]
        by_cases d : 40 * r + (k + 1) ≤ j ∧ j < 40 * r + 40
        · rw [if_pos d, if_pos (by omega)]
        · rw [if_neg d, gI_sI, if_pos rfl]
          by_cases e : j = 40 * r + k
          · rw [if_pos e, if_pos (by omega)]
          · rw [if_neg e, if_neg (by omega)]
      · rw [i4 x hx]
        funext j
        rw [gI_sI, if_neg hx]
theorem kk_row : ∀ (n : Nat) (S : HSt) (a b c : Int32), n < 512 → CS S → Inv0 n S → p_X11_row S 0 a b c ∧ p_X12_row (f_X11_row S 0 a b c).2 64 a b c ∧ (f_X11_row S 0 a b c).1 = (f_X12_row (f_X11_row S 0 a b c).2 64 a b c).1 ∧ Inv0 (n + 1) (f_X12_row (f_X11_row S 0 a b c).2 64 a b c).2 := by
  intro n S a b c hn hS hI
  have hst := hI.2.2.1.1
  have e40 : (40 : Int32).toInt = 40 := rfl
  have hp : ∀ T : HSt, f_X12_in T b.toInt64 (0 : Int64) (2 : Int64) = f_X11_within S b 0 2 := fun T => by
    rw [show (0 : Int64) = (0 : Int32).toInt64 from rfl, show (2 : Int64) = (2 : Int32).toInt64 from rfl, in_within T S]
  have hgl : ∀ (T : HSt) r, r < 8 → gL T = gL S → gL T (3 + r) = 40 := fun T r hr h => by
    rw [h]
    exact cs_l (3 + r) 14 40 ((show ∀ r, r < 8 → (3 + r, 14, 40) ∈ cKT by decide) r hr) hS
  have hv : ∀ T : HSt, ¬ f_X12_isRow T a = 0 → ∃ r, r < 8 ∧ a = nI r := fun T h => by
    have := Classical.not_not.mp (fun q => h ((isRowM_iff T a).mpr q))
    exact nI_of_bw (n := 8) this.1 this.2 (by omega)
  -- what the class does
  have hcls : (f_X11_row S 0 a b c = (-9000000000000000001, S) ∧ (f_X5_isRow S a = 0 ∨ f_X11_within S b 0 2 = 0 ∨ ¬ c ≤ 40)) ∨ (∃ r, r < 8 ∧ a = nI r ∧ ¬ f_X11_within S b 0 2 = 0 ∧ c ≤ 40 ∧ ((¬ 0 ≤ c ∧ f_X11_row S 0 a b c = ((f_X11_found S 0 4).1, sI S 0 10 4)) ∨ (0 ≤ c ∧ f_X11_row S 0 a b c = (c.toInt64, sI (f_J7_fill_53178 (sI (sI S 11 r b) 12 r c) (3 + r) 0) 0 10 0)))) := by
    unfold f_X11_row
    simp only [bd_def]
    by_cases c1 : f_X5_isRow S a = 0
    · left
      rw [if_pos c1]
      exact ⟨rfl, Or.inl c1⟩
    · rw [if_neg c1]
      by_cases c2 : f_X11_within S b 0 2 = 0
      · left
        rw [if_pos c2]
        exact ⟨rfl, Or.inr (Or.inl c2)⟩
      · rw [if_neg c2]
        by_cases c3 : c ≤ 40
        · right
          rw [if_pos c3]
          obtain ⟨r, hr, rfl⟩ := row_in c1
          refine ⟨r, hr, rfl, c2, c3, ?_⟩
          by_cases c4 : 0 ≤ c
          · right
            rw [if_pos c4, fine_1, fine_2]
            refine ⟨c4, ?_⟩
            unfold f_X5_make
            rw [bd_def, if_neg c1, if_neg (by rw [ti_lt]; rw [ti_le] at c4; omega), if_neg (by rw [ti_lt]; rw [ti_le] at c3; omega)]
            simp only [bd_def]
            rw [nI_clamp' (by omega)]
            rfl
          · left
            rw [if_neg c4, found_2]
            exact ⟨c4, rfl⟩
        · left
          rw [if_neg c3]
          exact ⟨rfl, Or.inr (Or.inr c3)⟩
  have hfa : ∀ r, r < 8 → (∀ j, j < 40 → gI (f_J7_fill_53178 (sI (sI S 11 r b) 12 r c) (3 + r) 0) (3 + r) j = 0) ∧ (∀ x, x ≠ 3 + r → gI (f_J7_fill_53178 (sI (sI S 11 r b) 12 r c) (3 + r) 0) x = gI (sI (sI S 11 r b) 12 r c) x) := fun r hr => fill_at 0 (hgl (sI (sI S 11 r b) 12 r c) r hr rfl) (by omega)
  have f1 : Fr WR S (f_X11_row S 0 a b c).2 := by
    rcases hcls with ⟨e, -⟩ | ⟨r, hr, -, -, -, ⟨-, e⟩ | ⟨-, e⟩⟩
    · rw [e]; exact Fr.refl _ _
    · rw [e]; exact Fr.s1 (by decide) (Fr.refl _ _)
    · rw [e]
      refine Fr.s1 (by decide) (fun x j h1 h2 => ?_)
      by_cases q : x = 3 + r
      · exact absurd (q ▸ WR_in r hr) h2
      · rw [(hfa r hr).2 x q]
        exact (Fr.s1 (W := WR) (Or.inr (by decide)) (Fr.s1 (Or.inr (by decide)) (Fr.refl _ _))) x j h1 h2
  have f2 := v_X12_row (f_X11_row S 0 a b c).2 64 a b c
  refine ⟨fun h _ _ _ => ?_, ⟨?_, ?_, ?_⟩, ?_⟩
  · obtain ⟨r, hr, rfl⟩ := row_in h
    have hvp : vp_in (nI r) 8 := vp_in_nI hr (by omega)
    refine ⟨fun _ _ _ => hvp, fun _ _ _ _ _ => hvp, fun _ _ _ _ _ _ _ => hvp, fun _ _ _ S4 e4 S5 e5 => ?_⟩
    rw [nI_clamp' (by omega)] at *
    exact p_fill 0 (hgl S5 r hr (by rw [← e5, ← e4]; rfl)) (by omega)
  · intro S1 _ h _ _ _ _ _
    obtain ⟨r, hr, rfl⟩ := hv S1 h
    exact vp_in_nI hr (by omega)
  · intro S1 _ h _ _ _ _ _ _ _
    obtain ⟨r, hr, rfl⟩ := hv S1 h
    exact vp_in_nI hr (by omega)
  · intro S1 _ h _ _ _ _ _ _ _ S8 _
    obtain ⟨r, hr, rfl⟩ := hv S1 h
    exact (mrow_L b c hr 1000 S8 0 (by omega) (by omega)).1
  · have key : (f_X11_row S 0 a b c).1 = (f_X12_row (f_X11_row S 0 a b c).2 64 a b c).1 ∧ gI (f_X12_row (f_X11_row S 0 a b c).2 64 a b c).2 0 10 = gI (f_X12_row (f_X11_row S 0 a b c).2 64 a b c).2 64 1 ∧ IRow (f_X12_row (f_X11_row S 0 a b c).2 64 a b c).2 := by
      have same : ∀ T : HSt, (∀ x, (3 ≤ x ∧ x ≤ 12) ∨ (65 ≤ x ∧ x ≤ 67) → gI T x = gI S x) → IRow T := fun T h => hI.1.of h
      rcases hcls with ⟨e, hb⟩ | ⟨r, hr, rfl, hw, h40, hc⟩
      · rw [e]
        have hres : f_X12_row S 64 a b c = (-9000000000000000001, sI S 64 0 0) := by
          unfold f_X12_row
          rw [bd_def, hp]
          by_cases c1 : f_X12_isRow (sI S 64 0 0) a = 0
          · rw [if_pos c1]; rfl
          · rw [if_neg c1]
            by_cases c2 : f_X11_within S b 0 2 = 0
            · rw [if_pos c2]; rfl
            · rw [if_neg c2]
              rcases hb with q | q | q
              · exact absurd ((isRowM_iff _ a).mpr ((isRow_iff S a).mp q)) c1
              · exact absurd q c2
              · rw [if_neg q]; rfl
        rw [hres]
        refine ⟨rfl, hst, same _ (fun x hx => ?_)⟩
        funext j
        show gI (sI S 64 0 0) x j = _
        rw [gI_sI, if_neg (by omega)]
      · have d2 : ∀ T, ¬ f_X12_isRow T (nI r) = 0 := fun T q => (isRowM_iff T _).mp q (by rw [nI_ti (by omega)]; omega)
        rcases hc with ⟨c4, e⟩ | ⟨c4, e⟩
        · rw [e]
          unfold f_X12_row
          simp only [bd_def]
          rw [if_neg (d2 _), hp, if_neg hw, if_pos h40, if_neg c4, pr_1, pr_2, finding_2]
          refine ⟨found_eq _ _ _, rfl, same _ (fun x hx => ?_)⟩
          funext j
          simp only [gI_sI, if_neg (show ¬ x = 64 by omega), if_neg (show ¬ x = 0 by omega)]
        · rw [e]
          obtain ⟨hf1, hf2⟩ := hfa r hr
          generalize hF : f_J7_fill_53178 (sI (sI S 11 r b) 12 r c) (3 + r) 0 = F at hf1 hf2
          unfold f_X12_row
          simp only [bd_def]
          rw [if_neg (d2 _), hp, if_neg hw, if_pos h40, if_pos c4, pr_1, pr_2, nI_clamp' (by omega)]
          obtain ⟨-, i2, i3, i4⟩ := mrow_L b c hr 1000 (sI (sI (sI (sI (sI F 0 10 0) 64 0 0) 64 1 0) 65 r b) 66 r c) 0 (by omega) (by omega)
          rw [show (0 : Int32) = nI 0 from rfl] at *
          generalize hLL : L_X12_row_66 1000 (sI (sI (sI (sI (sI F 0 10 (nI 0)) 64 0 (nI 0)) 64 1 (nI 0)) 65 r b) 66 r c) (nI r) b c (nI 0) = R at i2 i3 i4 ⊢
          have gx : ∀ x j, x ≠ 67 → x ≠ 64 → x ≠ 0 → x ≠ 65 → x ≠ 66 → x ≠ 3 + r → x ≠ 11 → x ≠ 12 → gI R.2.2.2.2 x j = gI S x j := fun x j h1 h2 h3 h4 h5 h6 h7 h8 => by
            rw [i4 x h1]
            simp only [gI_sI, if_neg h2, if_neg h3, if_neg h4, if_neg h5]
            rw [hf2 x h6]
            simp only [gI_sI, if_neg h7, if_neg h8]
          refine ⟨?_, ?_, ?_⟩
          · show c.toInt64 = _
            rw [i2]
          · rw [i4 0 (by decide), i4 64 (by decide)]
            simp only [gI_sI, if_true, if_false, reduceIte, Nat.reduceEqDiff]
          · have w := within_1 S hw
            have w : 0 ≤ b.toInt ∧ b.toInt ≤ 2 := w
            have cc1 : 0 ≤ c.toInt := by have := ti_le.mp c4; rw [show (nI 0).toInt = 0 from rfl] at this; exact this
            have cc2 : c.toInt ≤ 40 := by have := ti_le.mp h40; rw [e40] at this; exact this
            have k11 : ∀ j, gI R.2.2.2.2 11 j = if j = r then b else gI S 11 j := fun j => by
              rw [i4 11 (by decide)]
              simp only [gI_sI, if_true, if_false, reduceIte, Nat.reduceEqDiff]
              rw [hf2 11 (by omega)]
              simp only [gI_sI, if_true, if_false, reduceIte, Nat.reduceEqDiff]
            have k12 : ∀ j, gI R.2.2.2.2 12 j = if j = r then c else gI S 12 j := fun j => by
              rw [i4 12 (by decide)]
              simp only [gI_sI, if_true, if_false, reduceIte, Nat.reduceEqDiff]
              rw [hf2 12 (by omega)]
              simp only [gI_sI, if_true, if_false, reduceIte, Nat.reduceEqDiff]
            have k65 : ∀ j, gI R.2.2.2.2 65 j = if j = r then b else gI S 65 j := fun j => by
              rw [i4 65 (by decide)]
              simp only [gI_sI, if_true, if_false, reduceIte, Nat.reduceEqDiff]
              rw [hf2 65 (by omega)]
              simp only [gI_sI, if_true, if_false, reduceIte, Nat.reduceEqDiff]
            have k66 : ∀ j, gI R.2.2.2.2 66 j = if j = r then c else gI S 66 j := fun j => by
              rw [i4 66 (by decide)]
              simp only [gI_sI, if_true, if_false, reduceIte, Nat.reduceEqDiff]
              rw [hf2 66 (by omega)]
              simp only [gI_sI, if_true, if_false, reduceIte, Nat.reduceEqDiff]
            refine ⟨fun r' hr' => ?_, fun r' k hr' hk => ?_⟩
            · rw [k11, k12, k65, k66]
              by_cases q : r' = r
              · rw [if_pos q, if_pos q, if_pos q, if_pos q]
                exact Or.inr ⟨w.1, w.2, rfl, rfl, cc1, cc2⟩
              · rw [if_neg q, if_neg q, if_neg q, if_neg q]
                exact hI.1.1 r' hr'
            · rw [i3]
              by_cases q : r' = r
              · rw [if_pos (by omega), i4 (3 + r') (by omega)]
                simp only [gI_sI, if_neg (show ¬ 3 + r' = 64 by omega), if_neg (show ¬ 3 + r' = 0 by omega), if_neg (show ¬ 3 + r' = 65 by omega), if_neg (show ¬ 3 + r' = 66 by omega)]
                rw [q]
                exact hf1 k hk
              · rw [if_neg (by omega), gx (3 + r') k (by omega) (by omega) (by omega) (by omega) (by omega) (by omega) (by omega) (by omega)]
                simp only [gI_sI, if_true, if_false, reduceIte, Nat.reduceEqDiff]
                rw [hf2 67 (by omega)]
                simp only [gI_sI, if_true, if_false, reduceIte, Nat.reduceEqDiff]
                exact hI.1.2 r' k hr' hk
    exact ⟨key.1, (inv_rows f1 f2 (by decide) (by decide) key.2.1 key.2.2 hI).mono (Nat.le_succ n)⟩
