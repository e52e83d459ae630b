-- needs: 73.main
/-! ===== way: the model's whole ===== -/
noncomputable def wB (T : HSt) : HSt := sI (sI (sI (sI (sI T 64 0 (0 : Int32)) 64 11 (gI (sI T 64 0 (0 : Int32)) 64 9)) 64 9 (0 : Int32)) 64 12 (0 : Int32)) 64 16 (0 : Int32)
noncomputable def wA (T : HSt) : HSt := sI (sI (sI (L_X12_way_30 1000 (wB T) (0 : Int32)).2 69 (68 : Int32).toNatClampNeg (200 : Int32)) 69 (69 : Int32).toNatClampNeg (1 : Int32)) 69 (70 : Int32).toNatClampNeg (1 : Int32)
noncomputable def wM (T : HSt) : HSt := if lg_cmp (f_X12_word (f_X12_next (wA T) 64) 64) (Int64.ofNat (cV 0)) = 0 then f_X12_next (wA T) 64 else f_X12_bad (f_X12_next (wA T) 64) 64 (1 : Int32)
noncomputable def wC (D : HSt) : HSt := sI (sI (L_X12_way_232 1000 D (0 : Int32)).2 64 7 (1 : Int32)) 64 18 (0 : Int32)
noncomputable def wF (D : HSt) : HSt := f_X12_first (sI (wC D) 64 19 (if gI (wC D) 68 (1 : Int32).toNatClampNeg ≤ 0 then (-1000000 : Int32) else (0 : Int32))) 64
noncomputable def wE (D : HSt) : Int64 × HSt := if gI D 64 16 ≤ 0 then pr ((gI (f_X12_keepLive (wF D) 64) 68 (5 : Int32).toNatClampNeg).toInt64) (f_X12_keepLive (wF D) 64) else pr ((-9000000000000000100 : Int64) - (gI (sI D 64 10 (gI D 64 16)) 64 17).toInt64) (sI D 64 10 (gI D 64 16))
theorem Mk5 (M : HSt) : Mk 5 1000 M = g5 1000 (if lg_cmp (f_X12_word (gl 3 1000 (gl 2 1000 (gl 1 1000 (gl 0 1000 M)))) 64) (Int64.ofNat (cV 4)) = 0 then Rm 4 (gl 3 1000 (gl 2 1000 (gl 1 1000 (gl 0 1000 M)))) else gl 3 1000 (gl 2 1000 (gl 1 1000 (gl 0 1000 M)))) := by
  rw [Mk, Mk, Mk, Mk, Mk]
theorem pMk5 {M : HSt} (h : pMk 5 1000 M) : pgl 0 1000 M ∧ pgl 1 1000 (gl 0 1000 M) ∧ pgl 2 1000 (gl 1 1000 (gl 0 1000 M)) ∧ pgl 3 1000 (gl 2 1000 (gl 1 1000 (gl 0 1000 M))) ∧ p_X12_word (gl 3 1000 (gl 2 1000 (gl 1 1000 (gl 0 1000 M)))) 64 ∧ (lg_cmp (f_X12_word (gl 3 1000 (gl 2 1000 (gl 1 1000 (gl 0 1000 M)))) 64) (Int64.ofNat (cV 4)) = 0 → pRm 4 (gl 3 1000 (gl 2 1000 (gl 1 1000 (gl 0 1000 M))))) ∧ pg5 1000 (if lg_cmp (f_X12_word (gl 3 1000 (gl 2 1000 (gl 1 1000 (gl 0 1000 M)))) 64) (Int64.ofNat (cV 4)) = 0 then Rm 4 (gl 3 1000 (gl 2 1000 (gl 1 1000 (gl 0 1000 M)))) else gl 3 1000 (gl 2 1000 (gl 1 1000 (gl 0 1000 M)))) := by
  rw [pMk, pMk, pMk, pMk, pMk] at h
  exact h
theorem e0 (x : Int64) : lg_cmp x (1919905893 : Int64) = lg_cmp x (Int64.ofNat (cV 0)) := by rw [← cJ.1]
theorem e4 (x : Int64) : lg_cmp x (1920298085 : Int64) = lg_cmp x (Int64.ofNat (cV 4)) := by rw [← cJ.2.2.2.2.1]
theorem eX (Y : HSt) : (if lg_cmp (f_X12_word Y 64) (1920298085 : Int64) = 0 then (bd (f_X12_readRule Y 64) fun r19 => r19) else Y) = (if lg_cmp (f_X12_word Y 64) (Int64.ofNat (cV 4)) = 0 then Rm 4 Y else Y) := by
  rw [e4, bd_def]
  rfl
theorem way_eq (T : HSt) : f_X12_way T 64 = wE (Mk 5 1000 (wM T)) := by
  rw [Mk5]
  unfold f_X12_way
  rw [bd_def, bd_def, bd_def, bd_def, bd_def, bd_def, bd_def, bd_def, bd_def, bd_def, bd_def, bd_def]
  have eM : (if lg_cmp (f_X12_word (f_X12_next (wA T) 64) 64) (1919905893 : Int64) = 0 then f_X12_next (wA T) 64 else bd (f_X12_bad (f_X12_next (wA T) 64) 64 (1 : Int32)) fun r12 => r12) = wM T := by
    unfold wM
    rw [e0, bd_def]
  unfold wA wB at eM
  rw [eM, (L96 _ _ _).1]
  dsimp only
  rw [bd_def, (L114 _ _ _).1]
  dsimp only
  rw [bd_def, (L132 _ _ _).1]
  dsimp only
  rw [bd_def, (L150 _ _ _).1]
  dsimp only
  rw [bd_def, bd_def, (L183 _ _ _).1, e4]
  rw [bd_def (f_X12_readRule _ 64)]
  have eR : ∀ X, f_X12_readRule X 64 = Rm 4 X := fun _ => rfl
  rw [eR]
  generalize g5 1000 _ = D
  unfold wE wF wC
  simp only [bd_def]
theorem copy_L : ∀ (n k : Nat) (T : HSt), k ≤ 172 → 172 - k < n → T_X12_way_232 n T (nI k) ∧ (∀ j, gI (L_X12_way_232 n T (nI k)).2 68 j = if k ≤ j ∧ j < 172 then gI T 69 j else gI T 68 j) ∧ (∀ x, x ≠ 68 → gI (L_X12_way_232 n T (nI k)).2 x = gI T x) := by
  intro n
  induction n with
  | zero => intro k T _ h; omega
  | succ n ih =>
    intro k T hk hn
    unfold T_X12_way_232 L_X12_way_232
    by_cases c : k = 172
    · subst c
      have a1 : (172 : Int32) ≤ nI 172 := nI_le (a := 172) (b := 172) (by omega) (by omega)
      rw [if_pos a1]
      refine ⟨?_, fun j => ?_, fun x _ => rfl⟩
      · refine ⟨fun q => absurd a1 q, ?_⟩
        first | exact fun q => absurd a1 q | exact ⟨fun q => absurd a1 q, fun q => absurd a1 q⟩
      · rw [if_neg (by omega)]; rfl
    · have a1 : ¬ (172 : Int32) ≤ nI k := nI_ge (a := k) (b := 172) (by omega) (by omega)
      obtain ⟨i1, i2, i3⟩ := ih (k + 1) (sI T 68 k (gI T 69 k)) (by omega) (by omega)
      rw [nI_succ] at i1 i2 i3
      rw [if_neg a1, bd_def, nI_clamp' (i := k) (by omega)]
      refine ⟨?_, fun j => ?_, fun x hx => (i3 x hx).trans (gs_ne hx)⟩
      · first
        | exact ⟨fun _ => vp_in_nI (by omega) (by omega), fun _ S1 e1 => by rw [← e1]; exact i1⟩
        | exact ⟨fun _ => vp_in_nI (by omega) (by omega), fun _ => vp_in_nI (by omega) (by omega), fun _ S1 e1 => by rw [← e1]; exact i1⟩
      · rw [i2 j, gs_ne (show (69 : Nat) ≠ 68 by decide), gs_eq]
        by_cases d : k + 1 ≤ j ∧ j < 172
        · rw [if_pos d, if_pos (by omega)]
        · rw [if_neg d]
          by_cases e : j = k
          · subst e; rw [if_pos rfl, if_pos (by omega)]
          · rw [if_neg e, if_neg (by omega)]
theorem zero_L : ∀ (n k : Nat) (T : HSt), k ≤ 172 → 172 - k < n → T_X12_way_30 n T (nI k) ∧ (∀ j, gI (L_X12_way_30 n T (nI k)).2 69 j = if k ≤ j ∧ j < 172 then 0 else gI T 69 j) ∧ (∀ x, x ≠ 69 → gI (L_X12_way_30 n T (nI k)).2 x = gI T x) := by
  intro n
  induction n with
  | zero => intro k T _ h; omega
  | succ n ih =>
    intro k T hk hn
    unfold T_X12_way_30 L_X12_way_30
    by_cases c : k = 172
    · subst c
      have a1 : (172 : Int32) ≤ nI 172 := nI_le (a := 172) (b := 172) (by omega) (by omega)
      rw [if_pos a1]
      refine ⟨⟨fun q => absurd a1 q, fun q => absurd a1 q⟩, fun j => ?_, fun x _ => rfl⟩
      rw [if_neg (by omega)]; rfl
    · have a1 : ¬ (172 : Int32) ≤ nI k := nI_ge (a := k) (b := 172) (by omega) (by omega)
      obtain ⟨i1, i2, i3⟩ := ih (k + 1) (sI T 69 k 0) (by omega) (by omega)
      rw [nI_succ] at i1 i2 i3
      rw [if_neg a1, bd_def, nI_clamp' (i := k) (by omega)]
      refine ⟨⟨fun _ => vp_in_nI (by omega) (by omega), fun _ S1 e1 => by rw [← e1]; exact i1⟩, fun j => ?_, fun x hx => (i3 x hx).trans (gs_ne hx)⟩
      rw [i2 j, gs_eq]
      by_cases d : k + 1 ≤ j ∧ j < 172
      · rw [if_pos d, if_pos (by omega)]
      · rw [if_neg d]
        by_cases e : j = k
        · rw [if_pos e, if_pos (by omega)]
        · rw [if_neg e, if_neg (by omega)]
theorem way_p {T : HSt} (h2 : p_X12_next (wA T) 64) (h3 : p_X12_word (f_X12_next (wA T) 64) 64) (h4 : pMk 5 1000 (wM T)) : p_X12_way T 64 := by
  obtain ⟨q0, q1, q2, q3, q4, q5, q6⟩ := pMk5 h4
  have eM : (if lg_cmp (f_X12_word (f_X12_next (wA T) 64) 64) (1919905893 : Int64) = 0 then f_X12_next (wA T) 64 else bd (f_X12_bad (f_X12_next (wA T) 64) 64 (1 : Int32)) fun r12 => r12) = wM T := by
    unfold wM
    rw [e0, bd_def]
  have hpk : ∀ r, p_X12_keepLive (f_X12_first r 64) 64 := fun r => (keep_at _ (Or.inl (first_at r).2.2.2.2.2.1)).1
  unfold wA wB at eM h2 h3
  refine ⟨?_, ?_, ?_, ?_, ?_, ?_, ?_, ?_, ?_, ?_, ?_, ?_⟩
  · intro S1 e1 S2 e2 S3 e3 S4 e4 S5 e5
    exact (zero_L 1000 0 _ (by omega) (by omega)).1
  · rintro _ rfl _ rfl _ rfl _ rfl _ rfl _ rfl _ rfl _ rfl _ rfl
    exact h2
  · rintro _ rfl _ rfl _ rfl _ rfl _ rfl _ rfl _ rfl _ rfl _ rfl _ rfl
    exact h3
  · rintro _ rfl _ rfl _ rfl _ rfl _ rfl _ rfl _ rfl _ rfl _ rfl _ rfl S13 e13
    rw [eM] at e13
    subst e13
    exact (L96 _ _ _).2 q0
  · rintro _ rfl _ rfl _ rfl _ rfl _ rfl _ rfl _ rfl _ rfl _ rfl _ rfl S13 e13 r14 e14
    rw [eM] at e13
    subst e13
    rw [(L96 _ _ _).1] at e14; subst e14
    dsimp only
    exact (L114 _ _ _).2 q1
  · rintro _ rfl _ rfl _ rfl _ rfl _ rfl _ rfl _ rfl _ rfl _ rfl _ rfl S13 e13 r14 e14 r15 e15
    rw [eM] at e13
    subst e13
    rw [(L96 _ _ _).1] at e14; subst e14
    rw [(L114 _ _ _).1] at e15; subst e15
    dsimp only
    exact (L132 _ _ _).2 q2
  · rintro _ rfl _ rfl _ rfl _ rfl _ rfl _ rfl _ rfl _ rfl _ rfl _ rfl S13 e13 r14 e14 r15 e15 r16 e16
    rw [eM] at e13
    subst e13
    rw [(L96 _ _ _).1] at e14; subst e14
    rw [(L114 _ _ _).1] at e15; subst e15
    rw [(L132 _ _ _).1] at e16; subst e16
    dsimp only
    exact (L150 _ _ _).2 q3
  · rintro _ rfl _ rfl _ rfl _ rfl _ rfl _ rfl _ rfl _ rfl _ rfl _ rfl S13 e13 r14 e14 r15 e15 r16 e16 r17 e17
    rw [eM] at e13
    subst e13
    rw [(L96 _ _ _).1] at e14; subst e14
    rw [(L114 _ _ _).1] at e15; subst e15
    rw [(L132 _ _ _).1] at e16; subst e16
    rw [(L150 _ _ _).1] at e17; subst e17
    dsimp only
    exact q4
  · rintro _ rfl _ rfl _ rfl _ rfl _ rfl _ rfl _ rfl _ rfl _ rfl _ rfl S13 e13 r14 e14 r15 e15 r16 e16 r17 e17 hq
    rw [eM] at e13
    subst e13
    rw [(L96 _ _ _).1] at e14; subst e14
    rw [(L114 _ _ _).1] at e15; subst e15
    rw [(L132 _ _ _).1] at e16; subst e16
    rw [(L150 _ _ _).1] at e17; subst e17
    dsimp only at hq ⊢
    rw [e4] at hq
    exact q5 hq
  · rintro _ rfl _ rfl _ rfl _ rfl _ rfl _ rfl _ rfl _ rfl _ rfl _ rfl S13 e13 r14 e14 r15 e15 r16 e16 r17 e17 S20 e20
    rw [eM] at e13
    subst e13
    rw [(L96 _ _ _).1] at e14; subst e14
    rw [(L114 _ _ _).1] at e15; subst e15
    rw [(L132 _ _ _).1] at e16; subst e16
    rw [(L150 _ _ _).1] at e17; subst e17
    dsimp only at e20 ⊢
    clear q0 q1 q2 q3 q4 q5 h4 h3 h2 eM
    generalize gl 3 1000 (gl 2 1000 (gl 1 1000 (gl 0 1000 (wM T)))) = Y at e20 q6
    rw [eX] at e20; subst e20
    exact (L183 _ _ _).2 q6
  · intro S1 e1 S2 e2 S3 e3 S4 e4 S5 e5 r6 e6 S7 e7 S8 e8 S9 e9 r10 e10 S13 e13 r14 e14 r15 e15 r16 e16 r17 e17 S20 e20 r21 e21 hq
    exact (copy_L 1000 0 _ (by omega) (by omega)).1
  · intro S1 e1 S2 e2 S3 e3 S4 e4 S5 e5 r6 e6 S7 e7 S8 e8 S9 e9 r10 e10 S13 e13 r14 e14 r15 e15 r16 e16 r17 e17 S20 e20 r21 e21 hq r23 e23 S24 e24 S25 e25 x27 e27 S28 e28 r29 e29
    rw [← e29]
    exact hpk _
