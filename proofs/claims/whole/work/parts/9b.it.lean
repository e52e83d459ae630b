-- needs: 9a.do2
/-! ===== moves: one round of the model's search ===== -/
theorem scan_L {T B : HSt} {L : Nat → Int32} (h : EqB T B L) {s d A : Nat} (hs : s < 64) (hd : d < 6) (hA : A ≤ 14) (h74 : gI T 74 d = nI s) (v1 v4 : Int32) : ∀ (n m : Nat), m ≤ A → A - m < n → T_X12_seekRows_94 n T v1 (nI A) (nI d) v4 (nI m) ∧ ∃ f, m ≤ f ∧ f ≤ A ∧ L_X12_seekRows_94 n T v1 (nI A) (nI d) v4 (nI m) = (v1, nI A, nI d, v4, nI f) ∧ (∀ k, m ≤ k → k < f → may6 B (L, s) k = false) ∧ (f < A → may6 B (L, s) f = true) := by
  intro n
  induction n with
  | zero => intro m _ h; omega
  | succ n ih =>
    intro m hm hn
    unfold T_X12_seekRows_94 L_X12_seekRows_94
    by_cases z : nI A ≤ nI m
    · have : m = A := by
        rw [ti_le, nI_ti (by omega), nI_ti (by omega)] at z
        omega
      subst this
      rw [if_pos z]
      exact ⟨⟨fun q => absurd z q, fun q => absurd z q⟩, m, Nat.le_refl _, Nat.le_refl _, rfl, fun k h1 h2 => by omega, fun h => by omega⟩
    · have hmA : m < A := by
        rw [ti_le, nI_ti (by omega), nI_ti (by omega)] at z
        omega
      obtain ⟨i1, f, i2, i3, i4, i5, i6⟩ := ih (m + 1) (by omega) (by omega)
      rw [nI_succ] at i1 i4
      rw [if_neg z, nI_clamp' (i := d) (by omega), h74, may_at h hs (by omega)]
      by_cases q : may6 B (L, s) m = true
      · have ne : ¬ (if may6 B (L, s) m = true then (1 : Int32) else 0) = 0 := by rw [if_pos q]; decide
        rw [if_neg ne]
        exact ⟨⟨fun _ => vp_in_nI (by omega) (by omega), fun _ w => absurd w ne⟩, m, Nat.le_refl _, by omega, rfl, fun k h1 h2 => by omega, fun _ => q⟩
      · have ne : (if may6 B (L, s) m = true then (1 : Int32) else 0) = 0 := by rw [if_neg q]
        rw [if_pos ne]
        refine ⟨⟨fun _ => vp_in_nI (by omega) (by omega), fun _ _ => i1⟩, f, by omega, i3, i4, fun k h1 h2 => ?_, i6⟩
        by_cases e : k = m
        · subst e; simpa using q
        · exact i5 k (by omega) h2
/-- a round that goes back -/
theorem it_up {T : HSt} {n d A f : Nat} (hd : d < 6) {x : Int32} (hx : (if nI d = nI n then nI A else (gI (f_X12_layPath T 64 (nI d)) 73 d + 1)) = x) {y : Int32} (hy : (if gI (f_X12_layPath T 64 (nI d)) 73 d < 0 then (0 : Int32) else 1) = y) (hp : p_X12_layPath T 64 (nI d)) (hT : T_X12_seekRows_94 1000 (f_X12_layPath T 64 (nI d)) (nI n) (nI A) (nI d) y x) (hLe : L_X12_seekRows_94 1000 (f_X12_layPath T 64 (nI d)) (nI n) (nI A) (nI d) y x = (nI n, nI A, nI d, y, nI f)) (hf : nI A ≤ nI f) (hl : p_X12_lookRow (f_X12_layPath T 64 (nI d)) 64 (nI d)) (k : Nat) :
    (T_X12_seekRows_50 k (if y = 0 then f_X12_lookRow (f_X12_layPath T 64 (nI d)) 64 (nI d) else f_X12_layPath T 64 (nI d)) (nI n) (nI A) (nI d + (-1)) → T_X12_seekRows_50 (k + 1) T (nI n) (nI A) (nI d)) ∧ L_X12_seekRows_50 (k + 1) T (nI n) (nI A) (nI d) = L_X12_seekRows_50 k (if y = 0 then f_X12_lookRow (f_X12_layPath T 64 (nI d)) 64 (nI d) else f_X12_layPath T 64 (nI d)) (nI n) (nI A) (nI d + (-1)) := by
  have nn : ¬ nI d < 0 := by rw [ti_lt, ti0, nI_ti (by omega)]; omega
  have v6 : vp_in (nI d) 6 := vp_in_nI (by omega) (by omega)
  have ec : (nI d).toNatClampNeg = d := nI_clamp' (by omega)
  constructor
  · intro ht
    unfold T_X12_seekRows_50
    rw [ec]
    refine ⟨fun _ => hp, fun _ _ _ => v6, fun _ _ _ _ _ _ => v6, fun _ r er a ea b eb => ?_, fun _ r er a ea b eb r2 er2 _ _ => ?_, fun _ r er a ea b eb r2 er2 z => ?_, fun _ r er a ea b eb r2 er2 z => ?_, fun _ r er a ea b eb r2 er2 z => ?_, fun _ r er a ea b eb r2 er2 c3 ec3 S3 eS3 => ?_⟩
    all_goals
      subst er
      rw [hy] at ea
      subst ea
      rw [hx] at eb
      subst eb
    · exact hT
    all_goals
      rw [hLe] at er2
      subst er2
    · exact hl
    · exact absurd hf z
    · exact absurd hf z
    · exact absurd hf z
    · simp only [bd_def] at ec3 eS3
      rw [if_pos hf] at ec3 eS3
      rw [← ec3, ← eS3]
      exact ht
  · rw [L_X12_seekRows_50]
    rw [if_neg nn]
    simp only [bd_def]
    rw [ec, hy, hx, hLe]
    simp only []
    rw [if_pos hf, if_pos hf]
/-- the heap behind a move -/
noncomputable def dnT (T : HSt) (d f : Nat) : HSt := sI (f_X12_doMove (sI (f_X12_layPath T 64 (nI d)) 73 d (nI f)) 64 (nI f) (nI d)) 73 (d + 1) (-1)
/-- a round that goes on -/
theorem it_dn {T : HSt} {n d A f : Nat} (hd : d < 5) {x : Int32} (hx : (if nI d = nI n then nI A else (gI (f_X12_layPath T 64 (nI d)) 73 d + 1)) = x) {y : Int32} (hy : (if gI (f_X12_layPath T 64 (nI d)) 73 d < 0 then (0 : Int32) else 1) = y) (hp : p_X12_layPath T 64 (nI d)) (hT : T_X12_seekRows_94 1000 (f_X12_layPath T 64 (nI d)) (nI n) (nI A) (nI d) y x) (hLe : L_X12_seekRows_94 1000 (f_X12_layPath T 64 (nI d)) (nI n) (nI A) (nI d) y x = (nI n, nI A, nI d, y, nI f)) (hf : ¬ nI A ≤ nI f) (hm : p_X12_doMove (sI (f_X12_layPath T 64 (nI d)) 73 d (nI f)) 64 (nI f) (nI d)) (k : Nat) :
    (T_X12_seekRows_50 k (dnT T d f) (nI n) (nI A) (nI (d + 1)) → T_X12_seekRows_50 (k + 1) T (nI n) (nI A) (nI d)) ∧ L_X12_seekRows_50 (k + 1) T (nI n) (nI A) (nI d) = L_X12_seekRows_50 k (dnT T d f) (nI n) (nI A) (nI (d + 1)) := by
  have nn : ¬ nI d < 0 := by rw [ti_lt, ti0, nI_ti (by omega)]; omega
  have v6 : vp_in (nI d) 6 := vp_in_nI (by omega) (by omega)
  have v7 : vp_in (nI d + 1) 6 := by rw [nsucc]; exact vp_in_nI (by omega) (by omega)
  have ec : (nI d).toNatClampNeg = d := nI_clamp' (by omega)
  have ec1 : (nI d + 1).toNatClampNeg = d + 1 := by rw [nsucc]; exact nI_clamp' (by omega)
  constructor
  · intro ht
    unfold T_X12_seekRows_50
    rw [ec]
    refine ⟨fun _ => hp, fun _ _ _ => v6, fun _ _ _ _ _ _ => v6, fun _ r er a ea b eb => ?_, fun _ r er a ea b eb r2 er2 z => ?_, fun _ r er a ea b eb r2 er2 z => ?_, fun _ r er a ea b eb r2 er2 z S9 eS9 => ?_, fun _ r er a ea b eb r2 er2 z S9 eS9 r3 er3 => ?_, fun _ r er a ea b eb r2 er2 c3 ec3 S3 eS3 => ?_⟩
    all_goals
      subst er
      rw [hy] at ea
      subst ea
      rw [hx] at eb
      subst eb
    · exact hT
    all_goals
      rw [hLe] at er2
      subst er2
    · exact absurd z hf
    · exact v6
    · rw [← eS9]
      show p_X12_doMove (sI (f_X12_layPath T 64 (nI d)) 73 (nI d).toNatClampNeg (nI f)) 64 (nI f) (nI d)
      rw [ec]
      exact hm
    · exact v7
    · simp only [bd_def] at ec3 eS3
      rw [if_neg hf] at ec3 eS3
      rw [ec, ec1] at eS3
      rw [nsucc] at ec3
      rw [← ec3, ← eS3]
      exact ht
  · rw [L_X12_seekRows_50]
    rw [if_neg nn]
    simp only [bd_def]
    rw [ec, hy, hx, hLe]
    simp only []
    rw [if_neg hf, if_neg hf, ec, ec1, nsucc]
    rfl
