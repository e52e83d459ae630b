-- needs: 9r.seek 33.row
/-! ===== moves: seekRow ===== -/
def Z0 : HSt := (0, fun _ => 0, fun _ => 0, fun _ _ => 0, fun _ _ => 0, fun _ _ => none)
/-- way, rope and horse alone -/
def ropB (S : HSt) : HSt := rI (sI (sI Z0 64 18 (gI S 64 18)) 64 19 (gI S 64 19)) 68 (gI S 68)
theorem ropB_at (S : HSt) : gI (ropB S) 68 = gI S 68 ∧ gI (ropB S) 64 18 = gI S 64 18 ∧ gI (ropB S) 64 19 = gI S 64 19 := by
  unfold ropB
  refine ⟨?_, ?_, ?_⟩
  · rw [gI_rI, if_pos rfl]
  · rw [gI_rI, if_neg (by decide), gs_o (by decide), gs_eq, if_pos rfl]
  · rw [gI_rI, if_neg (by decide), gs_eq, if_pos rfl]
theorem ropB_cg {S T : HSt} (h1 : gI T 68 = gI S 68) (h2 : gI T 64 18 = gI S 64 18) (h3 : gI T 64 19 = gI S 64 19) : ropB T = ropB S := by
  unfold ropB
  rw [h1, h2, h3]
theorem ly_cg {B : HSt} {L L' : Nat → Int32} (h : ∀ j, j < 6 → L j = L' j) : ly B L = ly B L' := by
  unfold ly
  rw [h 0 (by omega), h 1 (by omega), h 2 (by omega), h 3 (by omega), h 4 (by omega), h 5 (by omega)]
theorem bs6_cg {B : HSt} {A : Nat} {L L' : Nat → Int32} (h : ∀ j, j < 6 → L j = L' j) (s k : Nat) : bs6 B A k (L, s) = bs6 B A k (L', s) := by
  cases k with
  | zero => rfl
  | succ k =>
    have e := ly_cg (B := B) h
    have e1 : ∀ m, stp6 B (L, s) m = stp6 B (L', s) m := fun m => by unfold stp6; simp only [e]
    have e2 : ∀ m, gn6 B (L, s) m = gn6 B (L', s) m := fun m => by unfold gn6; simp only [e]
    have e3 : ∀ m, may6 B (L, s) m = may6 B (L', s) m := fun m => by unfold may6; simp only [e]
    rw [bs6_s, bs6_s]
    congr 1
    refine scn_cg A 0 (fun i _ _ => ?_)
    unfold it6
    rw [e1, e2, e3]

theorem pfill_L {a M : Nat} (hM : M < 1000) (v : Int32) : ∀ (n k : Nat) (S : HSt), gL S a = M → k ≤ M → M - k < n → T_J7_fill_53178_5 a n S v (nI k) (nI M) := by
  intro n
  induction n with
  | zero => intro k S _ _ h; omega
  | succ n ih =>
    intro k S hl hk hn
    rw [T_J7_fill_53178_5]
    by_cases c : k = M
    · subst c
      have z : nI k ≤ nI k := by rw [ti_le]; exact Int.le_refl _
      exact ⟨fun q => absurd z q, fun q => absurd z q⟩
    · refine ⟨fun _ => by rw [hl]; exact vp_in_nI (by omega) (by omega), fun _ S1 e => ?_⟩
      rw [← e, nsucc]
      exact ih (k + 1) _ hl (by omega) (by omega)
theorem p_fillA {S : HSt} {a M : Nat} (hM : M < 1000) (hl : gL S a = M) (v : Int32) : p_J7_fill_53178 S a v := fun x ex => by
  rw [← ex, hl]
  exact pfill_L hM v 1000 0 S hl (Nat.zero_le _) (by omega)
noncomputable def go5 (S : HSt) (n : Int32) : HSt := sI (sI (sI (f_X1_copyFrom S 56 22) 43 6 n) 43 7 (gI (sI (f_X1_copyFrom S 56 22) 43 6 n) 18 3)) 43 8 0
noncomputable def go7 (S : HSt) (n : Int32) : HSt := f_J7_fill_53178 (f_J7_fill_53178 (go5 S n) 54 (-1)) 52 0
theorem seekRow_v (S : HSt) {n : Nat} (hn : n ≤ 5) : f_X2_seekRow S 43 18 (nI n) = (if nI n = gI S 43 6 ∧ gI S 43 7 = gI S 18 3 ∧ ¬ f_X1_isLike S 56 22 = 0 then pr (gI S 53 0) S else pr (f_X2_seekFrom (go7 S (nI n)) 43 18 0).1 (f_X2_seekFrom (go7 S (nI n)) 43 18 0).2) := by
  have e5 : (if (5 : Int32) < nI n then (5 : Int32) else nI n) = nI n := by
    rw [if_neg]
    rw [ti_lt, nI_ti (by omega), show (5 : Int32).toInt = 5 from rfl]; omega
  have z : (0 : Int32).toNatClampNeg = 0 := rfl
  unfold f_X2_seekRow go7 go5
  simp only [bd_def]
  rw [e5, z, show 56 + 0 = 56 from rfl, show 18 + 4 = 22 from rfl]
  by_cases c1 : nI n = gI S 43 6
  · rw [if_pos c1]
    by_cases c2 : gI S 43 7 = gI S 18 3
    · rw [if_pos c2]
      by_cases c3 : f_X1_isLike S 56 22 = 0
      · rw [if_pos c3, if_neg (fun q => q.2.2 c3)]
      · rw [if_neg c3, if_pos ⟨c1, c2, c3⟩]
    · rw [if_neg c2, if_neg (fun q => c2 q.2.1)]
  · rw [if_neg c1, if_neg (fun q => c1 q.1)]
theorem p_seekRow (S : HSt) {n : Nat} (hn : n ≤ 5) (h1 : p_X1_copyFrom S 56 22) (h2 : p_J7_fill_53178 (go5 S (nI n)) 54 (-1)) (h3 : p_J7_fill_53178 (f_J7_fill_53178 (go5 S (nI n)) 54 (-1)) 52 0) (h4 : p_X2_seekFrom (go7 S (nI n)) 43 18 0) : p_X2_seekRow S 43 18 (nI n) := by
  have e5 : (if (5 : Int32) < nI n then (5 : Int32) else nI n) = nI n := by
    rw [if_neg]
    rw [ti_lt, nI_ti (by omega), show (5 : Int32).toInt = 5 from rfl]; omega
  have z : (0 : Int32).toNatClampNeg = 0 := rfl
  unfold p_X2_seekRow
  rw [e5, z, show 56 + 0 = 56 from rfl, show 18 + 4 = 22 from rfl]
  have a2 : ∀ r2, f_X1_copyFrom S 56 22 = r2 → ∀ S3, sI r2 43 6 (nI n) = S3 → ∀ S4, sI S3 43 7 (gI S3 18 3) = S4 → ∀ S5, sI S4 43 8 0 = S5 → p_J7_fill_53178 S5 54 (-1) := fun r2 e2 S3 e3 S4 e4 S5 e5 => by
    subst e2; subst e3; subst e4; subst e5; exact h2
  have a3 : ∀ r2, f_X1_copyFrom S 56 22 = r2 → ∀ S3, sI r2 43 6 (nI n) = S3 → ∀ S4, sI S3 43 7 (gI S3 18 3) = S4 → ∀ S5, sI S4 43 8 0 = S5 → ∀ r6, f_J7_fill_53178 S5 54 (-1) = r6 → p_J7_fill_53178 r6 52 0 := fun r2 e2 S3 e3 S4 e4 S5 e5 r6 e6 => by
    subst e2; subst e3; subst e4; subst e5; subst e6; exact h3
  have a4 : ∀ r2, f_X1_copyFrom S 56 22 = r2 → ∀ S3, sI r2 43 6 (nI n) = S3 → ∀ S4, sI S3 43 7 (gI S3 18 3) = S4 → ∀ S5, sI S4 43 8 0 = S5 → ∀ r6, f_J7_fill_53178 S5 54 (-1) = r6 → ∀ r7, f_J7_fill_53178 r6 52 0 = r7 → p_X2_seekFrom r7 43 18 0 := fun r2 e2 S3 e3 S4 e4 S5 e5 r6 e6 r7 e7 => by
    subst e2; subst e3; subst e4; subst e5; subst e6; subst e7; exact h4
  exact ⟨fun _ => h1, fun _ => a2, fun _ => a3, fun _ => a4, fun _ _ => h1, fun _ _ => a2, fun _ _ => a3, fun _ _ => a4, fun _ _ _ => h1, fun _ _ _ => a2, fun _ _ _ => a3, fun _ _ _ => a4⟩
