-- needs: 94.pure
/-! ===== moves: the model's path ===== -/
theorem of_72 (T : HSt) (i : Nat) (v x : Int32) : f_X12_of (sI T 72 i v) 64 x = f_X12_of T 64 x := by
  have e : ∀ j, gI (sI T 72 i v) 64 j = gI T 64 j := fun j => by rw [gI_sI, if_neg (by decide)]
  show (F_X12_of (sI T 72 i v) 64 x).1 = (F_X12_of T 64 x).1
  unfold F_X12_of
  simp only [e, bd_def]
  repeat' split
  all_goals rfl
theorem path_L {d : Nat} (hd : d < 6) : ∀ (n : Nat) (T : HSt) (k : Nat), k ≤ 7 → 7 - k < n → T_X12_keepPath_2 n T (nI d) (nI k) ∧ (∀ i, gI (L_X12_keepPath_2 n T (nI d) (nI k)).2.2 72 i = if 7 * d + k ≤ i ∧ i < 7 * d + 7 then f_X12_of T 64 (nI (i - 7 * d)) else gI T 72 i) ∧ (∀ x, x ≠ 72 → gI (L_X12_keepPath_2 n T (nI d) (nI k)).2.2 x = gI T x) := by
  have e7 : (7 : Int32) * nI d = nI (7 * d) := by rw [show (7 : Int32) = nI 7 from rfl, pk_mul]
  intro n
  induction n with
  | zero => intro T k _ h; omega
  | succ n ih =>
    intro T k hk hn
    unfold T_X12_keepPath_2 L_X12_keepPath_2
    rw [e7]
    by_cases c : k = 7
    · subst c
      have a1 : (7 : Int32) ≤ nI 7 := by decide
      rw [if_pos a1]
      refine ⟨⟨fun q => absurd a1 q, fun q => absurd a1 q⟩, fun i => ?_, fun x _ => rfl⟩
      rw [if_neg (by omega)]; rfl
    · have a1 : ¬ (7 : Int32) ≤ nI k := nI_ge (a := k) (b := 7) (by omega) (by omega)
      obtain ⟨i1, i2, i3⟩ := ih (sI T 72 (7 * d + k) (f_X12_of T 64 (nI k))) (k + 1) (by omega) (by omega)
      rw [nI_succ] at i1 i2 i3
      rw [if_neg a1, bd_def, nI_add, nI_clamp' (by omega)]
      refine ⟨⟨fun _ => vp_in_nI (by omega) (by omega), fun _ S1 e1 => by rw [← e1]; exact i1⟩, fun i => ?_, fun x hx => (i3 x hx).trans (gs_ne hx)⟩
      rw [i2 i, of_72, gs_eq]
      by_cases q : 7 * d + (k + 1) ≤ i ∧ i < 7 * d + 7
      · rw [if_pos q, if_pos (by omega)]
      · rw [if_neg q]
        by_cases e : i = 7 * d + k
        · rw [if_pos e, if_pos (by omega), show i - 7 * d = k by omega]
        · rw [if_neg e, if_neg (by omega)]
theorem path_at (T : HSt) {d : Nat} (hd : d < 6) (h5 : Bz (gI T 64 25)) : p_X12_keepPath T 64 (nI d) ∧ (∀ j, j < 7 → gI (f_X12_keepPath T 64 (nI d)) 72 (7 * d + j) = WL T j) ∧ (∀ i, ¬ (7 * d ≤ i ∧ i < 7 * d + 7) → gI (f_X12_keepPath T 64 (nI d)) 72 i = gI T 72 i) ∧ (∀ x, x ≠ 72 → gI (f_X12_keepPath T 64 (nI d)) x = gI T x) := by
  obtain ⟨a1, a2, a3⟩ := path_L hd 1000 T 0 (by omega) (by omega)
  have e : f_X12_keepPath T 64 (nI d) = (L_X12_keepPath_2 1000 T (nI d) (nI 0)).2.2 := by
    unfold f_X12_keepPath
    rw [bd_def]
    rw [show nI 0 = (0 : Int32) from rfl]
  rw [e]
  refine ⟨a1, fun j hj => ?_, fun i hi => ?_, a3⟩
  · rw [a2, if_pos (by omega), show 7 * d + j - 7 * d = j by omega, of_at T h5 j hj]
  · rw [a2, if_neg (by omega)]
theorem layP_at (T : HSt) {d : Nat} (hd : d < 6) (h5 : Bz (gI T 72 (7 * d + 5))) : p_X12_layPath T 64 (nI d) ∧ (∀ j, j < 7 → WL (f_X12_layPath T 64 (nI d)) j = gI T 72 (7 * d + j)) ∧ (∀ x k, ¬ (x = 64 ∧ 20 ≤ k ∧ k ≤ 26) → gI (f_X12_layPath T 64 (nI d)) x k = gI T x k) := by
  have e7 : (7 : Int32) * nI d = nI (7 * d) := by rw [show (7 : Int32) = nI 7 from rfl, pk_mul]
  have e : ∀ j, j < 7 → (nI (7 * d) + nI j).toNatClampNeg = 7 * d + j := fun j hj => by rw [nI_add, nI_clamp' (by omega)]
  have e0 : (nI (7 * d)).toNatClampNeg = 7 * d := nI_clamp' (by omega)
  have vp : ∀ j, j < 7 → vp_in (nI (7 * d) + nI j) 42 := fun j hj => by rw [nI_add]; exact vp_in_nI (by omega) (by omega)
  have vp0 : vp_in (nI (7 * d)) 42 := vp_in_nI (by omega) (by omega)
  have e5 : (if gI T 72 (7 * d + 5) = (1 : Int32) then (1 : Int32) else 0) = gI T 72 (7 * d + 5) := by
    rcases h5 with h | h
    · rw [h]; rfl
    · rw [h]; rfl
  have eF : f_X12_layPath T 64 (nI d) = sI (sI (sI (sI (sI (sI (sI T 64 20 (gI T 72 (7 * d))) 64 21 (gI T 72 (7 * d + 1))) 64 22 (gI T 72 (7 * d + 2))) 64 23 (gI T 72 (7 * d + 3))) 64 24 (gI T 72 (7 * d + 4))) 64 25 (gI T 72 (7 * d + 5))) 64 26 (gI T 72 (7 * d + 6)) := by
    have n72 : ∀ (U : HSt) (k : Nat) (v : Int32), gI (sI U 64 k v) 72 = gI U 72 := fun U k v => gs_ne (by decide)
    unfold f_X12_layPath
    simp only [bd_def]
    rw [e7, show (1 : Int32) = nI 1 from rfl, show (2 : Int32) = nI 2 from rfl, show (3 : Int32) = nI 3 from rfl, show (4 : Int32) = nI 4 from rfl, show (5 : Int32) = nI 5 from rfl, show (6 : Int32) = nI 6 from rfl, e0, e 1 (by omega), e 2 (by omega), e 3 (by omega), e 4 (by omega), e 5 (by omega), e 6 (by omega)]
    simp only [n72]
    rw [show nI 1 = (1 : Int32) from rfl, e5]
  refine ⟨?_, fun j hj => ?_, fun x k hx => ?_⟩
  · unfold p_X12_layPath
    rw [e7]
    exact ⟨vp0, fun _ _ => vp 1 (by omega), fun _ _ _ _ => vp 2 (by omega), fun _ _ _ _ _ _ => vp 3 (by omega), fun _ _ _ _ _ _ _ _ => vp 4 (by omega), fun _ _ _ _ _ _ _ _ _ _ => vp 5 (by omega), fun _ _ _ _ _ _ _ _ _ _ _ _ _ _ => vp 6 (by omega)⟩
  · rw [eF]
    unfold WL
    have hc : j = 0 ∨ j = 1 ∨ j = 2 ∨ j = 3 ∨ j = 4 ∨ j = 5 ∨ j = 6 := by omega
    rcases hc with rfl | rfl | rfl | rfl | rfl | rfl | rfl <;> simp only [gI_sI, if_true, if_false, reduceIte, Nat.reduceEqDiff, Nat.reduceAdd, Nat.add_zero]
  · rw [eF]
    by_cases q : x = 64
    · subst q
      rw [gs_o (by omega), gs_o (by omega), gs_o (by omega), gs_o (by omega), gs_o (by omega), gs_o (by omega), gs_o (by omega)]
    · rw [gs_ne q, gs_ne q, gs_ne q, gs_ne q, gs_ne q, gs_ne q, gs_ne q]
