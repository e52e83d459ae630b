-- needs: 74.form
/-! ===== way: the start, on both sides ===== -/
theorem clear_at {S : HSt} (hS : CS S) : p_X10_clear S 15 ∧ (∀ j, j < 6 → gI (f_X10_clear S 15) 16 j = 0) ∧ (∀ j, j < 185 → gI (f_X10_clear S 15) 17 j = if j = 80 then 200 else if j = 81 then 1 else if j = 82 then 1 else 0) ∧ (∀ x, x ≠ 16 → x ≠ 17 → gI (f_X10_clear S 15) x = gI S x) := by
  have l16 : gL S 16 = 6 := cs_l 16 14 6 (by decide) hS
  have hS1 : CS (f_J7_fill_53178 S 16 0) := CS.of (q_J7_fill_53178 _ _ _) hS
  have l17 : gL (f_J7_fill_53178 S 16 0) 17 = 185 := cs_l 17 14 185 (by decide) hS1
  obtain ⟨a1, a2⟩ := fill_at (r := 16) 0 l16 (by omega)
  obtain ⟨b1, b2⟩ := fill_at (r := 17) 0 l17 (by omega)
  have e3 : ∀ U, f_X10_put U 15 (4 : Int32) (0 : Int32) (0 : Int32) (200 : Int32) = sI U 17 80 200 := fun U => put_at U 15 (s := 4) (i := 0) (f := 0) (by decide) (by decide) (by decide) 200
  have e4' : ∀ U, f_X10_put U 15 (4 : Int32) (0 : Int32) (1 : Int32) (1 : Int32) = sI U 17 81 1 := fun U => put_at U 15 (s := 4) (i := 0) (f := 1) (by decide) (by decide) (by decide) 1
  have e5 : ∀ U, f_X10_put U 15 (4 : Int32) (0 : Int32) (2 : Int32) (1 : Int32) = sI U 17 82 1 := fun U => put_at U 15 (s := 4) (i := 0) (f := 2) (by decide) (by decide) (by decide) 1
  have eC : f_X10_clear S 15 = sI (sI (sI (f_J7_fill_53178 (f_J7_fill_53178 S 16 0) 17 0) 17 80 200) 17 81 1) 17 82 1 := by
    unfold f_X10_clear
    simp only [bd_def]
    rw [e3, e4', e5]
  refine ⟨⟨p_fill 0 l16 (by omega), fun r e => by rw [← e]; exact p_fill 0 l17 (by omega), fun _ _ _ _ => p_put _ 15 (s := 4) (i := 0) (f := 0) (by decide) (by decide) (by decide) 200, fun _ _ _ _ _ _ => p_put _ 15 (s := 4) (i := 0) (f := 1) (by decide) (by decide) (by decide) 1, fun _ _ _ _ _ _ _ _ => p_put _ 15 (s := 4) (i := 0) (f := 2) (by decide) (by decide) (by decide) 1⟩, fun j hj => ?_, fun j hj => ?_, fun x h1 h2 => ?_⟩
  · rw [eC, gs_ne (show (16 : Nat) ≠ 17 by decide), gs_ne (show (16 : Nat) ≠ 17 by decide), gs_ne (show (16 : Nat) ≠ 17 by decide), b2 16 (by decide)]
    exact a1 j hj
  · rw [eC, gs_eq, gs_eq, gs_eq, b1 j hj]
    by_cases q0 : j = 80
    · subst q0; rfl
    · by_cases q1 : j = 81
      · subst q1; rfl
      · by_cases q2 : j = 82
        · subst q2; rfl
        · rw [if_neg q2, if_neg q1, if_neg q0, if_neg q0, if_neg q1, if_neg q2]
  · rw [eC, gs_ne h2, gs_ne h2, gs_ne h2, b2 x h2, a2 x h1]
theorem start_M (T : HSt) : (∀ j, j < 172 → gI (wA T) 69 j = if j = 68 then 200 else if j = 69 then 1 else if j = 70 then 1 else 0) ∧ (∀ x, x ≠ 69 → x ≠ 64 → gI (wA T) x = gI T x) ∧ gI (wA T) 64 11 = gI T 64 9 ∧ gI (wA T) 64 12 = 0 ∧ gI (wA T) 64 16 = 0 ∧ gI (wA T) 64 9 = 0 ∧ (∀ k, k ≠ 0 → k ≠ 9 → k ≠ 11 → k ≠ 12 → k ≠ 16 → gI (wA T) 64 k = gI T 64 k) := by
  obtain ⟨-, z2, z3⟩ := zero_L 1000 0 (wB T) (by omega) (by omega)
  have e68 : (68 : Int32).toNatClampNeg = 68 := rfl
  have e69 : (69 : Int32).toNatClampNeg = 69 := rfl
  have e70 : (70 : Int32).toNatClampNeg = 70 := rfl
  rw [show nI 0 = (0 : Int32) from rfl] at z2 z3
  have h64 : gI (wA T) 64 = gI (wB T) 64 := by
    unfold wA
    rw [gs_ne (show (64 : Nat) ≠ 69 by decide), gs_ne (show (64 : Nat) ≠ 69 by decide), gs_ne (show (64 : Nat) ≠ 69 by decide), z3 64 (by decide)]
  refine ⟨fun j hj => ?_, fun x h1 h2 => ?_, ?_, ?_, ?_, ?_, fun k h1 h2 h3 h4 h5 => ?_⟩
  · unfold wA
    rw [e68, e69, e70, gs_eq, gs_eq, gs_eq, z2 j, if_pos (show 0 ≤ j ∧ j < 172 from ⟨Nat.zero_le _, hj⟩)]
    by_cases q0 : j = 68
    · subst q0; rfl
    · by_cases q1 : j = 69
      · subst q1; rfl
      · by_cases q2 : j = 70
        · subst q2; rfl
        · rw [if_neg q2, if_neg q1, if_neg q0, if_neg q0, if_neg q1, if_neg q2]
  · unfold wA
    rw [gs_ne h1, gs_ne h1, gs_ne h1, z3 x h1]
    unfold wB
    rw [gs_ne h2, gs_ne h2, gs_ne h2, gs_ne h2, gs_ne h2]
  · rw [h64]; unfold wB; rw [gs_o (by decide), gs_o (by decide), gs_o (by decide), gs_eq, if_pos rfl, gs_o (by decide)]
  · rw [h64]; unfold wB; rw [gs_o (by decide), gs_eq, if_pos rfl]
  · rw [h64]; unfold wB; rw [gs_eq, if_pos rfl]
  · rw [h64]; unfold wB; rw [gs_o (by decide), gs_o (by decide), gs_eq, if_pos rfl]
  · rw [h64]; unfold wB; rw [gs_o (by omega), gs_o (by omega), gs_o (by omega), gs_o (by omega), gs_o (by omega)]
theorem way0 {C V W : Nat → Int32} (hC : ∀ j, j < 6 → C j = 0) (hV : ∀ j, j < 185 → V j = if j = 80 then 200 else if j = 81 then 1 else if j = 82 then 1 else 0) (hW : ∀ j, j < 172 → W j = if j = 68 then 200 else if j = 69 then 1 else if j = 70 then 1 else 0) : WayR C V W ∧ WayB W ∧ (∀ i : Nat, (W 5).toInt ≤ i → i < 20 → ∀ f, f < 5 → W (72 + 5 * i + f) = 0) := by
  have w0 : ∀ j, j < 172 → (j < 68 ∨ 70 < j) → W j = 0 := fun j h1 h2 => by rw [hW j h1, if_neg (by omega), if_neg (by omega), if_neg (by omega)]
  have v0 : ∀ j, j < 185 → (j < 80 ∨ 82 < j) → V j = 0 := fun j h1 h2 => by rw [hV j h1, if_neg (by omega), if_neg (by omega), if_neg (by omega)]
  have b0 : ∀ j (hi : Int), j < 172 → (j < 68 ∨ 70 < j) → 0 ≤ hi → bw (W j) 0 hi := fun j hi h1 h2 h3 => by rw [w0 j h1 h2]; exact ⟨by decide, h3⟩
  refine ⟨⟨fun j hj => ?_, fun i f hi hf => ?_, fun i f hi hf => ?_, fun i f hi hf => ?_, fun i f hi hf => ?_, fun f hf => ?_, fun i f hi hf => ?_⟩, ⟨⟨?_, ?_, ?_, ?_, ?_, ?_⟩, fun i hi => ⟨?_, ?_, ?_, fun q => ?_⟩, fun i hi => ⟨?_, ?_, ?_, fun _ => ⟨?_, ?_, ?_⟩⟩, fun i hi => ⟨?_, ?_, ?_, ?_, ?_, fun q => ?_⟩, fun i hi => ⟨?_, ?_, ?_, ?_⟩, ⟨?_, ?_, ?_, ?_⟩, fun i hi q => ?_⟩, fun i _ hi f hf => w0 _ (by omega) (by omega)⟩
  · rw [hC j hj, w0 j (by omega) (by omega)]
  · rw [v0 _ (by omega) (by omega), w0 _ (by omega) (by omega)]
  · rw [v0 _ (by omega) (by omega), w0 _ (by omega) (by omega)]
  · rw [v0 _ (by omega) (by omega), w0 _ (by omega) (by omega)]
  · rw [v0 _ (by omega) (by omega), w0 _ (by omega) (by omega)]
  · rw [hV _ (by omega), hW _ (by omega)]
    have hc : f = 0 ∨ f = 1 ∨ f = 2 ∨ f = 3 := by omega
    rcases hc with rfl | rfl | rfl | rfl <;> rfl
  · rw [v0 _ (by omega) (by omega), w0 _ (by omega) (by omega)]; rfl
  · exact b0 _ _ (by omega) (by omega) (by omega)
  · exact b0 _ _ (by omega) (by omega) (by omega)
  · exact b0 _ _ (by omega) (by omega) (by omega)
  · exact b0 _ _ (by omega) (by omega) (by omega)
  · exact b0 _ _ (by omega) (by omega) (by omega)
  · exact b0 _ _ (by omega) (by omega) (by omega)
  · exact b0 _ _ (by omega) (by omega) (by omega)
  · exact b0 _ _ (by omega) (by omega) (by omega)
  · exact b0 _ _ (by omega) (by omega) (by omega)
  · rw [w0 0 (by omega) (by omega), ti0] at q; omega
  · exact b0 _ _ (by omega) (by omega) (by omega)
  · exact b0 _ _ (by omega) (by omega) (by omega)
  · exact b0 _ _ (by omega) (by omega) (by omega)
  · exact w0 _ (by omega) (by omega)
  · exact w0 _ (by omega) (by omega)
  · exact w0 _ (by omega) (by omega)
  · exact b0 _ _ (by omega) (by omega) (by omega)
  · exact b0 _ _ (by omega) (by omega) (by omega)
  · exact b0 _ _ (by omega) (by omega) (by omega)
  · exact b0 _ _ (by omega) (by omega) (by omega)
  · exact b0 _ _ (by omega) (by omega) (by omega)
  · rw [w0 2 (by omega) (by omega), ti0] at q; omega
  · exact b0 _ _ (by omega) (by omega) (by omega)
  · exact b0 _ _ (by omega) (by omega) (by omega)
  · exact b0 _ _ (by omega) (by omega) (by omega)
  · exact b0 _ _ (by omega) (by omega) (by omega)
  · rw [hW 68 (by omega)]; exact ⟨by decide, by decide⟩
  · rw [hW 69 (by omega)]; exact ⟨by decide, by decide⟩
  · rw [hW 70 (by omega)]; exact ⟨by decide, by decide⟩
  · exact b0 _ _ (by omega) (by omega) (by omega)
  · rw [w0 5 (by omega) (by omega), ti0] at q; omega
/-- the stages write only 64 12..17 and 69 -/
def QP (a k : Nat) : Prop := a ≠ 69 ∧ (a = 64 → ¬ (12 ≤ k ∧ k ≤ 17))
def W69 : List (Nat × Nat) := [(64, 12), (64, 13), (64, 14), (64, 15), (64, 16), (64, 17), (69, 1000)]
theorem fr69 {S T : HSt} (h : Fr W69 S T) {a k : Nat} (hq : QP a k) : gI T a k = gI S a k := by
  refine h a k (fun q => ?_) (fun q => ?_)
  all_goals
    unfold QP at hq
    unfold W69 at q
    simp only [List.mem_cons, Prod.mk.injEq, List.not_mem_nil, or_false] at q
    omega
theorem Rm_q {j : Nat} (T : HSt) {a k : Nat} (hq : QP a k) : gI (Rm j T) a k = gI T a k := by
  unfold Rm
  split
  · exact fr69 (v_X12_readRope T 64) hq
  · exact fr69 (v_X12_readHorse T 64) hq
  · exact fr69 (v_X12_readBeast T 64) hq
  · exact fr69 (v_X12_readForm T 64) hq
  · exact fr69 (v_X12_readRule T 64) hq
theorem gl_q {j : Nat} {a k : Nat} (hq : QP a k) : ∀ (n : Nat) (T : HSt), gI (gl j n T) a k = gI T a k := by
  intro n
  induction n with
  | zero => intro T; rfl
  | succ n ih =>
    intro T
    rw [gl]
    split
    · rw [ih, Rm_q T hq]
    · rfl
theorem g5_q {a k : Nat} (hq : QP a k) : ∀ (n : Nat) (T : HSt), gI (g5 n T) a k = gI T a k := by
  intro n
  induction n with
  | zero => intro T; rfl
  | succ n ih =>
    intro T
    rw [g5]
    split
    · split
      · rfl
      · rw [ih]; exact fr69 (v_X12_readAct T 64) hq
    · rfl
theorem Mk_q {a k : Nat} (hq : QP a k) (M : HSt) : gI (Mk 5 1000 M) a k = gI M a k := by
  rw [Mk5, g5_q hq]
  split
  · rw [Rm_q _ hq, gl_q hq, gl_q hq, gl_q hq, gl_q hq]
  · rw [gl_q hq, gl_q hq, gl_q hq, gl_q hq]
theorem wM_q {a k : Nat} (hq : QP a k) (T : HSt) : gI (wM T) a k = gI (wA T) a k := by
  have hn : gI (f_X12_next (wA T) 64) a k = gI (wA T) a k := by
    refine v_X12_next (wA T) 64 a k (fun q => ?_) (fun q => ?_)
    all_goals
      unfold QP at hq
      simp only [List.mem_cons, Prod.mk.injEq, List.not_mem_nil, or_false] at q
      omega
  unfold wM
  split
  · exact hn
  · by_cases q : gI (f_X12_next (wA T) 64) 64 16 = 0
    · rw [bad_0 q]
      unfold QP at hq
      by_cases q2 : a = 64
      · subst q2
        have := hq.2 rfl
        rw [gs_o (by omega), gs_o (by omega)]; exact hn
      · rw [gs_ne q2, gs_ne q2]; exact hn
    · rw [bad_1 q]; exact hn
