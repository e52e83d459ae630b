-- needs: 98.move
/-! ===== moves: one move of the model ===== -/
theorem gn_bw {S B : HSt} {x : (Nat → Int32) × Nat} {N m c : Nat} (hE : EV S B) (hL : LB S N x.1) (hN : N ≤ 2000) (hc : (gI B 68 2).toInt = c) (hm : m < 6 + 2 * c) : -99 ≤ gn6 B x m ∧ gn6 B x m ≤ 99 := by
  unfold gn6
  by_cases q : m < 6
  · rw [if_pos q]; omega
  · rw [if_neg q]
    have hc4 : c ≤ 4 := by have := hE.2.1.1.2.2.1.2; omega
    have he : nI (m % 2) = 0 ∨ nI (m % 2) = 1 := by
      rcases Nat.mod_two_eq_zero_or_one m with e | e <;> rw [e]
      · exact Or.inl rfl
      · exact Or.inr rfl
    have h := (ly_E B x.1).tmod hE hL hN (i := (m - 6) / 2) (by omega) (by omega)
    obtain ⟨T, hC⟩ := ctos_ex B (nI (m % 2)) (tD (gI B 68 (24 + 5 * ((m - 6) / 2))) (gI S 18 7) (gI S 18 8) (x.1 4)) (gI B 68 (24 + 5 * ((m - 6) / 2) + 1)) (gI B 68 (24 + 5 * ((m - 6) / 2) + 2)) (gI B 68 (24 + 5 * ((m - 6) / 2) + 3)) (gI B 68 (24 + 5 * ((m - 6) / 2) + 4)) (gI S 18 9)
    obtain ⟨-, a2, -, -, a5⟩ := oddsOf_at h hC
    obtain ⟨-, e⟩ := counts_at h he a2 a5
    rw [e, (ly_E B x.1).1]
    obtain ⟨-, -, -, -, -, ⟨-, r69, r70, r71⟩, -⟩ := hE.2.1
    have n71 : (-(gI B 68 71)).toInt = -(gI B 68 71).toInt := ti_neg (by have := r71.1; have := r71.2; omega)
    split
    · split
      · rw [n71]; have := r71.1; have := r71.2; omega
      · rcases he with e | e <;> rw [e]
        · rw [if_pos rfl, show ((68 : Int32) + 1).toNatClampNeg = 69 from rfl]; have := r69.1; have := r69.2; omega
        · rw [if_neg (by decide), show ((68 : Int32) + 2).toNatClampNeg = 70 from rfl]; have := r70.1; have := r70.2; omega
    · rw [ti0]; omega
theorem nsucc (d : Nat) : nI d + (1 : Int32) = nI (d + 1) := (nI_succ d).symm
/-- what lies in rows 74 and 75 before the move -/
noncomputable def dm2 (T : HSt) (d : Nat) : HSt := sI (sI T 74 (d + 1) (gI T 74 d)) 75 (d + 1) (gI (sI T 74 (d + 1) (gI T 74 d)) 75 d)
noncomputable def dm5 (T : HSt) (d b : Nat) : HSt := sI (dm2 T d) 74 (d + 1) (gI (dm2 T d) 74 (d + 1) ||| ((1 : Int32) <<< (nI b &&& 31)))
noncomputable def dm9 (T : HSt) (d b e : Nat) : HSt := sI (f_X12_counts (dm5 T d b) 64 (nI e) (nI b)).2 75 (d + 1) (gI (dm5 T d b) 75 (d + 1) + (f_X12_counts (dm5 T d b) 64 (nI e) (nI b)).1)
theorem do_lo (T : HSt) {d m : Nat} (hd : d < 5) (hm : m < 6) : f_X12_doMove T 64 (nI m) (nI d) = f_X12_keepPath (f_X12_doTick (dm2 T d) 64 0 (nI (m / 2 + 1)) (if m % 2 = 0 then 4 else 8) (-1000000)) 64 (nI (d + 1)) := by
  have c : ¬ (6 : Int32) ≤ nI m := fun z => by have := (le6 (show m < 14 by omega)).mp z; omega
  have hx : (if nI (m % 2) = 0 then (4 : Int32) else 8) = if m % 2 = 0 then 4 else 8 := by
    rcases Nat.mod_two_eq_zero_or_one m with e | e <;> rw [e]
    · rfl
    · rfl
  unfold f_X12_doMove
  simp only [bd_def]
  rw [if_neg c, m2 m (by omega), md2 m (by omega), hx, nsucc, nI_clamp' (i := d) (by omega), nI_clamp' (i := d + 1) (by omega)]
  rfl
theorem do_hi (T : HSt) {d m : Nat} (hd : d < 5) (hm : m < 14) (h6 : 6 ≤ m) : f_X12_doMove T 64 (nI m) (nI d) = f_X12_keepPath (f_X12_shut (dm9 T d ((m - 6) / 2) (m % 2)) 64) 64 (nI (d + 1)) := by
  have c : (6 : Int32) ≤ nI m := (le6 hm).mpr h6
  have hx : (if nI (m % 2) = 1 then (1 : Int32) else 0) = nI (m % 2) := by
    rcases Nat.mod_two_eq_zero_or_one m with e | e <;> rw [e]
    · rfl
    · rfl
  unfold f_X12_doMove
  simp only [bd_def]
  rw [if_pos c, m2 m (by omega), m6 m hm h6, hx, nsucc, nI_clamp' (i := d) (by omega), nI_clamp' (i := d + 1) (by omega)]
  rfl
theorem dm2_at (T : HSt) (d : Nat) : gI (dm2 T d) 74 (d + 1) = gI T 74 d ∧ gI (dm2 T d) 75 (d + 1) = gI T 75 d ∧ (∀ x k, ¬ (x = 74 ∧ k = d + 1) → ¬ (x = 75 ∧ k = d + 1) → gI (dm2 T d) x k = gI T x k) := by
  unfold dm2
  refine ⟨?_, ?_, fun x k h1 h2 => ?_⟩
  · rw [gs_ne (by decide), gs_eq, if_pos rfl]
  · rw [gs_eq, if_pos rfl, gs_ne (by decide)]
  · by_cases q : x = 75
    · subst q; rw [gs_o (by omega), gs_ne (by decide)]
    · rw [gs_ne q]
      by_cases q2 : x = 74
      · subst q2; rw [gs_o (by omega)]
      · rw [gs_ne q2]
theorem dm5_at (T : HSt) {d b s : Nat} (hs : s < 64) (hb : b < 6) (h : gI T 74 d = nI s) : gI (dm5 T d b) 74 (d + 1) = nI (s ||| 2 ^ b) ∧ gI (dm5 T d b) 75 (d + 1) = gI T 75 d ∧ (∀ x k, ¬ (x = 74 ∧ k = d + 1) → ¬ (x = 75 ∧ k = d + 1) → gI (dm5 T d b) x k = gI T x k) := by
  obtain ⟨a1, a2, a3⟩ := dm2_at T d
  unfold dm5
  refine ⟨?_, ?_, fun x k h1 h2 => ?_⟩
  · rw [gs_eq, if_pos rfl, a1, h, b_or s hs b hb]
  · rw [gs_ne (by decide), a2]
  · by_cases q : x = 74
    · subst q; rw [gs_o (by omega), a3 74 k h1 h2]
    · rw [gs_ne q, a3 x k h1 h2]
