-- needs: 41.aim
/-! ===== ask ===== -/
def TrR (S T : HSt) : Prop := gI S 62 1 = gI T 64 51 ∧ (0 ≤ (gI T 64 51).toInt ∧ (gI T 64 51).toInt ≤ 16) ∧ ∀ k, k < 16 → gI S 63 k = gI T 87 k
theorem t16 : (16 : Int32).toInt = 16 := rfl
/-- the two traces, over ways that stay -/
def BR (S0 T0 S T : HSt) : Prop := TrR S T ∧ gI S 21 = gI S0 21 ∧ gI T 68 = gI T0 68
theorem beg_R {S T : HSt} (b : Int32) (h : TrR S T) : TrR (f_X0_begin S 62 b) (f_X12_began T 64 b) := by
  obtain ⟨h1, ⟨h2, h3⟩, h4⟩ := h
  unfold f_X0_begin f_X12_began
  simp only [bd_def]
  rw [h1]
  by_cases c : (16 : Int32) ≤ gI T 64 51
  · rw [if_pos c, if_pos c]; exact ⟨h1, ⟨h2, h3⟩, h4⟩
  · rw [if_neg c, if_neg c]
    rw [ti_le, t16] at c
    have e : (gI T 64 51 + 1).toInt = (gI T 64 51).toInt + 1 := by rw [ti_add (by rw [ti1]; omega) (by rw [ti1]; omega), ti1]
    refine ⟨?_, ?_, fun k hk => ?_⟩
    · rw [gs_eq, if_pos rfl, gs_ne (by decide), gs_eq, if_pos rfl, gs_ne (by decide), h1]
    · rw [gs_eq, if_pos rfl, gs_ne (by decide), e]; omega
    · rw [gs_ne (show (63 : Nat) ≠ 62 by decide), gs_ne (show (87 : Nat) ≠ 64 by decide), gs_eq, gs_eq]
      by_cases d : k = (gI T 64 51).toNatClampNeg
      · rw [if_pos d, if_pos d]
      · rw [if_neg d, if_neg d]; exact h4 k hk
theorem BR.b {S0 T0 S T : HSt} (b : Int32) (h : BR S0 T0 S T) : BR S0 T0 (f_X0_begin S 62 b) (f_X12_began T 64 b) := ⟨beg_R b h.1, (fr_addr (v_X0_begin S 62 b) 21 (by decide)).trans h.2.1, (fr_addr (v_X12_began T 64 b) 68 (by decide)).trans h.2.2⟩
theorem BR.p {S0 T0 S T : HSt} (b : Int32) (h : BR S0 T0 S T) : p_X0_begin S 62 b := fun q => by
  obtain ⟨⟨h1, ⟨h2, h3⟩, h4⟩, -⟩ := h
  rw [h1] at q ⊢
  rw [ti_le, t16] at q
  exact vp_in_iff.mpr ⟨h2, by omega⟩
/-- the model's trace alone -/
def TB (T0 T : HSt) : Prop := (0 ≤ (gI T 64 51).toInt ∧ (gI T 64 51).toInt ≤ 16) ∧ gI T 68 = gI T0 68
theorem BR.t {S0 T0 S T : HSt} (h : BR S0 T0 S T) : TB T0 T := ⟨h.1.2.1, h.2.2⟩
theorem TB.p {T0 T : HSt} (b : Int32) (h : TB T0 T) : p_X12_began T 64 b := fun q => by
  rw [ti_le, t16] at q
  exact vp_in_iff.mpr ⟨h.1.1, by have := h.1.2; omega⟩
theorem TB.b {T0 T : HSt} (b : Int32) (h : TB T0 T) : TB T0 (f_X12_began T 64 b) := by
  refine ⟨?_, (fr_addr (v_X12_began T 64 b) 68 (by decide)).trans h.2⟩
  obtain ⟨⟨h2, h3⟩, h4⟩ := h
  unfold f_X12_began
  simp only [bd_def]
  by_cases c : (16 : Int32) ≤ gI T 64 51
  · rw [if_pos c]; exact ⟨h2, h3⟩
  · rw [if_neg c]
    rw [ti_le, t16] at c
    have e : (gI T 64 51 + 1).toInt = (gI T 64 51).toInt + 1 := by rw [ti_add (by rw [ti1]; omega) (by rw [ti1]; omega), ti1]
    rw [gs_eq, if_pos rfl, gs_ne (by decide), e]; omega
theorem TB.i {T0 A B : HSt} {c : Prop} [Decidable c] (h1 : TB T0 A) (h2 : TB T0 B) : TB T0 (if c then A else B) := by
  by_cases h : c
  · rw [if_pos h]; exact h1
  · rw [if_neg h]; exact h2
theorem p_edge {T0 T : HSt} (h : TB T0 T) (a : Int32) : p_X12_edgedMark T 64 a := ⟨h.p _, fun r e => by rw [← e]; exact (h.b _).p _⟩
theorem p_size {T0 T : HSt} (h : TB T0 T) (a k : Int32) (hd : ∀ U, p_X12_deed U 64 a 1) (hb : f_X12_isOf T0 k 1 = 0 → ¬ f_X12_isOf T0 k 4 = 0 → ∀ U, gI U 68 = gI T0 68 → p_X12_beast U 64 (f_X12_deed U 64 a 1) 0) : p_X12_sizeAsked T 64 a k := by
  unfold p_X12_sizeAsked
  simp only [bd_def]
  refine ⟨?_, ?_, ?_, ?_, ?_, ?_, ?_, ?_, ?_⟩
  · intro _ x _; exact h.p _
  · intro _ _ x _; exact h.p _
  · intro S9 e9 x10 _ x11 _ _ x _
    rw [← e9]
    exact (TB.i (h.b _) (TB.i (h.b _) h)).p _
  · intro S9 e9 x10 _ x11 _ _ _ x _
    rw [← e9]
    exact (TB.i (h.b _) (TB.i (h.b _) h)).p _
  · intro S9 e9 x10 _ x11 _ S20 e20
    have h9 : TB T0 S9 := by rw [← e9]; exact TB.i (h.b _) (TB.i (h.b _) h)
    rw [← e20]
    exact (TB.i (TB.i h9 (h9.b _)) (h9.b _)).p _
  · intro S9 e9 x10 _ x11 _ S20 e20 r21 _ _ _
    exact hd _
  · intro S9 e9 x10 q10 x11 q11 S20 e20 r21 e21 z1 z2
    have h9 : TB T0 S9 := by rw [← e9]; exact TB.i (h.b _) (TB.i (h.b _) h)
    have h20 : TB T0 S20 := by rw [← e20]; exact TB.i (TB.i h9 (h9.b _)) (h9.b _)
    rw [← q10] at z1
    rw [← q11] at z2
    refine hb z1 z2 r21 ?_
    rw [← e21]
    exact (h20.b _).2
  · intro S9 e9 x10 _ x11 _ S20 e20 r21 _ _
    exact hd _
  · intro S9 e9 x10 q10 x11 q11 S20 e20 r21 e21 x24 _ x25 _ _ _
    have h9 : TB T0 S9 := by rw [← e9]; exact TB.i (h.b _) (TB.i (h.b _) h)
    have h20 : TB T0 S20 := by rw [← e20]; exact TB.i (TB.i h9 (h9.b _)) (h9.b _)
    rw [← e21]
    exact p_edge (h20.b _) _
theorem p_mark {T0 T : HSt} (h : TB T0 T) (a k : Int32) (hd : ∀ U, p_X12_deed U 64 a 1) (hd3 : ∀ U, p_X12_deed U 64 a 3) (hb : f_X12_isOf T0 k 1 = 0 → ¬ f_X12_isOf T0 k 4 = 0 → ∀ U, gI U 68 = gI T0 68 → p_X12_beast U 64 (f_X12_deed U 64 a 1) 0) : p_X12_markAsked T 64 a k := by
  unfold p_X12_markAsked
  simp only [bd_def]
  refine ⟨?_, ?_, ?_, ?_, ?_, ?_, ?_⟩
  · intro _ _ x _; exact h.p _
  · intro _ _ _ x _; exact h.p _
  · intro _ S9 e9 x10 _ _
    rw [← e9]
    exact (TB.i (h.b _) (TB.i (h.b _) h)).p _
  · intro _ S9 e9 x10 _ S20 e20
    have h9 : TB T0 S9 := by rw [← e9]; exact TB.i (h.b _) (TB.i (h.b _) h)
    rw [← e20]
    exact (TB.i h9 (h9.b _)).p _
  · intro _ S9 e9 x10 _ S20 e20 r _ _
    exact hd3 _
  · intro _ S9 e9 x10 _ S20 e20 r e x17 _ x18 _ _ _
    have h9 : TB T0 S9 := by rw [← e9]; exact TB.i (h.b _) (TB.i (h.b _) h)
    have h20 : TB T0 S20 := by rw [← e20]; exact TB.i h9 (h9.b _)
    rw [← e]
    exact p_size (h20.b _) a k hd hb
  · intro _; exact p_edge h _
theorem p_body11 {S0 T0 S T : HSt} (h : BR S0 T0 S T) (a : Int32) : p_X0_body11 S 62 19 a := ⟨h.p _, fun r e => by rw [← e]; exact (h.b 11).p _, fun _ _ _ _ => p_val _ _ _ _ _⟩
theorem p_body13 {S0 T0 S T : HSt} (h : BR S0 T0 S T) (a : Int32) : p_X0_body13 S 62 19 a := ⟨h.p _, fun _ _ => p_val _ _ _ _ _, fun r e _ _ => by rw [← e]; exact (h.b 13).p _, fun _ _ _ _ _ _ => p_val _ _ _ _ _⟩
theorem p_body24 {S0 T0 S T : HSt} (h : BR S0 T0 S T) (a : Int32) : p_X0_body24 S 62 a := ⟨h.p _, fun r e => by rw [← e]; exact (h.b 24).p _⟩
theorem p_body21 {S0 T0 S T : HSt} (h : BR S0 T0 S T) (a : Int32) : p_X0_body21 S 62 19 a := ⟨h.p _, fun r e => by rw [← e]; exact (h.b 21).p _, fun _ _ _ _ => p_val _ _ _ _ _⟩
theorem n23 : ¬ (2 : Int32) = 3 := by decide
theorem n24 : ¬ (2 : Int32) = 4 := by decide
theorem n25 : ¬ (2 : Int32) = 5 := by decide
theorem n26 : ¬ (2 : Int32) = 6 := by decide
theorem n32 : ¬ (3 : Int32) = 2 := by decide
theorem n35 : ¬ (3 : Int32) = 5 := by decide
theorem n36 : ¬ (3 : Int32) = 6 := by decide
theorem n42 : ¬ (4 : Int32) = 2 := by decide
theorem n43 : ¬ (4 : Int32) = 3 := by decide
theorem n45 : ¬ (4 : Int32) = 5 := by decide
theorem n46 : ¬ (4 : Int32) = 6 := by decide
theorem n52 : ¬ (5 : Int32) = 2 := by decide
theorem n53 : ¬ (5 : Int32) = 3 := by decide
theorem n62 : ¬ (6 : Int32) = 2 := by decide
theorem n63 : ¬ (6 : Int32) = 3 := by decide
theorem n65 : ¬ (6 : Int32) = 5 := by decide
theorem n10 : ¬ (1 : Int32) = 0 := by decide
theorem of21 (T : HSt) : f_X12_isOf T 2 1 = 1 := rfl
theorem of31 (T : HSt) : f_X12_isOf T 3 1 = 1 := rfl
theorem of41 (T : HSt) : f_X12_isOf T 4 1 = 0 := rfl
theorem of51 (T : HSt) : f_X12_isOf T 5 1 = 0 := rfl
theorem of61 (T : HSt) : f_X12_isOf T 6 1 = 0 := rfl
theorem of24 (T : HSt) : f_X12_isOf T 2 4 = 0 := rfl
theorem of34 (T : HSt) : f_X12_isOf T 3 4 = 0 := rfl
theorem of44 (T : HSt) : f_X12_isOf T 4 4 = 1 := rfl
theorem of54 (T : HSt) : f_X12_isOf T 5 4 = 1 := rfl
theorem of64 (T : HSt) : f_X12_isOf T 6 4 = 0 := rfl
theorem sz2 (T : HSt) (a : Int32) : f_X12_sizeAsked T 64 a 2 = pr (1 + f_X12_deed (f_X12_began (f_X12_began T 64 11) 64 10) 64 a 1) (f_X12_began (f_X12_began T 64 11) 64 10) := by
  unfold f_X12_sizeAsked
  simp only [bd_def, of21, of24, n23, n25, n26, n10, if_true, if_false]
theorem sz3 (T : HSt) (a : Int32) : f_X12_sizeAsked T 64 a 3 = pr (2 * (1 + f_X12_deed (f_X12_began (f_X12_began (f_X12_began T 64 12) 64 11) 64 10) 64 a 1)) (f_X12_began (f_X12_began (f_X12_began T 64 12) 64 11) 64 10) := by
  unfold f_X12_sizeAsked
  simp only [bd_def, of31, of34, n32, n35, n36, n10, if_true, if_false]
theorem sz4 (T : HSt) (a : Int32) : f_X12_sizeAsked T 64 a 4 = pr (1 + f_X12_beast (f_X12_began (f_X12_began T 64 13) 64 10) 64 (f_X12_deed (f_X12_began (f_X12_began T 64 13) 64 10) 64 a 1) 0) (f_X12_began (f_X12_began T 64 13) 64 10) := by
  unfold f_X12_sizeAsked
  simp only [bd_def, of41, of44, n42, n43, n45, n46, n10, if_true, if_false]
theorem sz6 (T : HSt) (a : Int32) : f_X12_sizeAsked T 64 a 6 = pr (1 + 0) (f_X12_began T 64 10) := by
  unfold f_X12_sizeAsked
  simp only [bd_def, of61, of64, n62, n63, n65, n10, if_true, if_false]
theorem sz5 (T : HSt) (a : Int32) : f_X12_sizeAsked T 64 a 5 = pr ((1 + f_X12_beast (f_X12_began (f_X12_began (f_X12_began T 64 14) 64 13) 64 10) 64 (f_X12_deed (f_X12_began (f_X12_began (f_X12_began T 64 14) 64 13) 64 10) 64 a 1) 0) - (a + 50)) (f_X12_began (f_X12_began (f_X12_began (f_X12_began (f_X12_began T 64 14) 64 13) 64 10) 64 24) 64 20) := by
  unfold f_X12_sizeAsked f_X12_edgedMark
  simp only [bd_def, of51, of54, n52, n53, n10, if_true, if_false]
  rw [pr_1, pr_2]
theorem mk2 (T : HSt) (a : Int32) : f_X12_markAsked T 64 a 2 = pr ((a + f_X12_deed (f_X12_began (f_X12_began (f_X12_began T 64 22) 64 21) 64 20) 64 a 3) + (1 + f_X12_deed (f_X12_began (f_X12_began (f_X12_began (f_X12_began (f_X12_began T 64 22) 64 21) 64 20) 64 11) 64 10) 64 a 1)) (f_X12_began (f_X12_began (f_X12_began (f_X12_began (f_X12_began T 64 22) 64 21) 64 20) 64 11) 64 10) := by
  unfold f_X12_markAsked
  simp only [bd_def, of21, of24, n23, n25, n26, n10, if_true, if_false]
  rw [sz2, pr_1, pr_2]
theorem mk3 (T : HSt) (a : Int32) : f_X12_markAsked T 64 a 3 = pr (a + f_X12_deed (f_X12_began (f_X12_began T 64 21) 64 20) 64 a 3) (f_X12_began (f_X12_began T 64 21) 64 20) := by
  unfold f_X12_markAsked
  simp only [bd_def, of31, of34, n32, n35, n36, n10, if_true, if_false]
theorem mk4 (T : HSt) (a : Int32) : f_X12_markAsked T 64 a 4 = pr (a + 0) (f_X12_began T 64 20) := by
  unfold f_X12_markAsked
  simp only [bd_def, of41, of44, n42, n43, n45, n46, n10, if_true, if_false]
theorem mk5 (T : HSt) (a : Int32) : f_X12_markAsked T 64 a 5 = pr (a + 50) (f_X12_began (f_X12_began T 64 24) 64 20) := by
  unfold f_X12_markAsked f_X12_edgedMark
  simp only [bd_def, if_true]
  rw [pr_1, pr_2]
theorem mk6 (T : HSt) (a : Int32) : f_X12_markAsked T 64 a 6 = pr (-(a + 0)) (f_X12_began (f_X12_began T 64 23) 64 20) := by
  unfold f_X12_markAsked
  simp only [bd_def, of61, of64, n62, n63, n65, n10, if_true, if_false]
theorem c10 (S : HSt) : f_X0_body10 S 62 = pr 1 (f_X0_begin S 62 10) := by
  unfold f_X0_body10
  rw [bd_def]
theorem c11 (S : HSt) (a : Int32) : f_X0_body11 S 62 19 a = pr (1 + f_X10_value (f_X0_begin (f_X0_begin S 62 11) 62 10) 19 5 a 1) (f_X0_begin (f_X0_begin S 62 11) 62 10) := by
  unfold f_X0_body11
  simp only [bd_def]
  rw [c10, pr_1, pr_2]
theorem c12 (S : HSt) (a : Int32) : f_X0_body12 S 62 19 a = pr (2 * (1 + f_X10_value (f_X0_begin (f_X0_begin (f_X0_begin S 62 12) 62 11) 62 10) 19 5 a 1)) (f_X0_begin (f_X0_begin (f_X0_begin S 62 12) 62 11) 62 10) := by
  unfold f_X0_body12
  simp only [bd_def]
  rw [c11, pr_1, pr_2]
theorem c13 (S : HSt) (a : Int32) : f_X0_body13 S 62 19 a = pr (1 + f_X10_value (f_X0_begin (f_X0_begin S 62 13) 62 10) 19 2 (f_X10_value (f_X0_begin S 62 13) 19 5 a 1) 0) (f_X0_begin (f_X0_begin S 62 13) 62 10) := by
  unfold f_X0_body13
  simp only [bd_def]
  rw [c10, pr_1, pr_2]
theorem c20 (S : HSt) (a : Int32) : f_X0_body20 S 62 a = pr a (f_X0_begin S 62 20) := by
  unfold f_X0_body20
  rw [bd_def]
theorem c24 (S : HSt) (a : Int32) : f_X0_body24 S 62 a = pr (a + 50) (f_X0_begin (f_X0_begin S 62 24) 62 20) := by
  unfold f_X0_body24
  simp only [bd_def]
  rw [c20, pr_1, pr_2]
theorem c14 (S : HSt) (a : Int32) : f_X0_body14 S 62 19 a = pr ((1 + f_X10_value (f_X0_begin (f_X0_begin (f_X0_begin S 62 14) 62 13) 62 10) 19 2 (f_X10_value (f_X0_begin (f_X0_begin S 62 14) 62 13) 19 5 a 1) 0) - (a + 50)) (f_X0_begin (f_X0_begin (f_X0_begin (f_X0_begin (f_X0_begin S 62 14) 62 13) 62 10) 62 24) 62 20) := by
  unfold f_X0_body14
  simp only [bd_def]
  rw [c13, pr_1, pr_2, c24, pr_1, pr_2]
theorem c21 (S : HSt) (a : Int32) : f_X0_body21 S 62 19 a = pr (a + f_X10_value (f_X0_begin (f_X0_begin S 62 21) 62 20) 19 5 a 3) (f_X0_begin (f_X0_begin S 62 21) 62 20) := by
  unfold f_X0_body21
  simp only [bd_def]
  rw [c20, pr_1, pr_2]
theorem c22 (S : HSt) (a : Int32) : f_X0_body22 S 62 19 a = pr ((a + f_X10_value (f_X0_begin (f_X0_begin (f_X0_begin S 62 22) 62 21) 62 20) 19 5 a 3) + (1 + f_X10_value (f_X0_begin (f_X0_begin (f_X0_begin (f_X0_begin (f_X0_begin S 62 22) 62 21) 62 20) 62 11) 62 10) 19 5 a 1)) (f_X0_begin (f_X0_begin (f_X0_begin (f_X0_begin (f_X0_begin S 62 22) 62 21) 62 20) 62 11) 62 10) := by
  unfold f_X0_body22
  simp only [bd_def]
  rw [c21, pr_1, pr_2, c11, pr_1, pr_2]
theorem c23 (S : HSt) (a : Int32) : f_X0_body23 S 62 a = pr (-a) (f_X0_begin (f_X0_begin S 62 23) 62 20) := by
  unfold f_X0_body23
  simp only [bd_def]
  rw [c20, pr_1, pr_2]
theorem p_cSize {S0 T0 S T : HSt} (h : BR S0 T0 (sI S 62 1 0) T) (a : Int32) : p_X0_sizeOf S 62 19 a := by
  refine ⟨fun _ _ => p_kind _ _ _, fun S1 e _ _ _ _ => ?_, fun S1 e _ => ?_, fun S1 e _ _ => ?_, fun S1 e _ _ _ => ?_, fun S1 e _ _ _ _ => ?_⟩
  · rw [← e]; exact h.p _
  · rw [← e]; exact p_body11 h a
  · rw [← e]; exact ⟨h.p _, fun r q => by rw [← q]; exact p_body11 (h.b 12) a⟩
  · rw [← e]; exact p_body13 h a
  · rw [← e]
    refine ⟨h.p _, fun r q => by rw [← q]; exact p_body13 (h.b 14) a, fun r q r2 q2 _ _ => ?_⟩
    rw [← q2, ← q, c13, pr_2]
    exact p_body24 (((h.b 14).b 13).b 10) a
theorem p_cMark {S0 T0 S T : HSt} (h : BR S0 T0 (sI S 62 1 0) T) (a : Int32) : p_X0_markOf S 62 19 a := by
  refine ⟨fun _ _ => p_kind _ _ _, fun S1 e _ _ _ _ _ => ?_, fun S1 e _ => ?_, fun S1 e _ _ => ?_, fun S1 e _ _ _ => ?_, fun S1 e _ _ _ _ => ?_, fun S1 e _ _ _ _ _ => ?_⟩
  · rw [← e]; exact h.p _
  · rw [← e]
    refine ⟨h.p _, fun r q => by rw [← q]; exact p_body21 (h.b 22) a, fun r q r2 q2 _ _ => ?_⟩
    rw [← q2, ← q, c21, pr_2]
    exact p_body11 (((h.b 22).b 21).b 20) a
  · rw [← e]; exact p_body21 h a
  · rw [← e]; exact h.p _
  · rw [← e]; exact p_body24 h a
  · rw [← e]; exact ⟨h.p _, fun r q => by rw [← q]; exact (h.b 23).p _⟩
theorem nz_of_nI {k m : Nat} (hk : k < 100) (hm : m < 100) (h : k ≠ m) : ¬ nI k = nI m := fun q => by
  have := congrArg Int32.toInt q
  rw [nI_ti (by omega), nI_ti (by omega)] at this
  omega
/-- what both sides read of the act -/
theorem ask_size {S0 S T : HSt} {i kd : Nat} (hi : i < 20) (hk : f_X10_kindOf (sI S 62 1 0) 19 (nI i) = nI kd) (h : BR S0 S0 (sI S 62 1 0) T) (h5 : kd = 2 ∨ kd = 3 ∨ kd = 4 ∨ kd = 5 ∨ kd = 6)
    (hV : kd < 4 → ∀ U : HSt, gI U 21 = gI S0 21 → ∀ X : HSt, gI X 68 = gI S0 68 → f_X10_value U 19 5 (nI i) 1 = f_X12_deed X 64 (nI i) 1) (hB : ∀ U : HSt, gI U 21 = gI S0 21 → ∀ U2 : HSt, gI U2 21 = gI S0 21 → ∀ X : HSt, gI X 68 = gI S0 68 → kd = 4 ∨ kd = 5 → f_X10_value U 19 2 (f_X10_value U2 19 5 (nI i) 1) 0 = f_X12_beast X 64 (f_X12_deed X 64 (nI i) 1) 0) : (f_X0_sizeOf S 62 19 (nI i)).1 = (f_X12_sizeAsked T 64 (nI i) (nI kd)).1 ∧ BR S0 S0 (f_X0_sizeOf S 62 19 (nI i)).2 (f_X12_sizeAsked T 64 (nI i) (nI kd)).2 := by
  unfold f_X0_sizeOf
  rw [bd_def, hk]
  generalize sI S 62 1 0 = S1 at h hk
  rcases h5 with rfl | rfl | rfl | rfl | rfl
  · rw [if_pos (by decide), bd_def, c11, show nI 2 = (2 : Int32) from rfl, sz2]
    simp only [pr_1, pr_2]
    have h2 := (h.b 11).b 10
    refine ⟨?_, h2⟩
    rw [hV (by decide) _ h2.2.1 _ h2.2.2]
  · rw [if_neg (by decide), if_pos (by decide), bd_def, c12, show nI 3 = (3 : Int32) from rfl, sz3]
    simp only [pr_1, pr_2]
    have h2 := ((h.b 12).b 11).b 10
    refine ⟨?_, h2⟩
    rw [hV (by decide) _ h2.2.1 _ h2.2.2]
  · rw [if_neg (by decide), if_neg (by decide), if_pos (by decide), bd_def, c13, show nI 4 = (4 : Int32) from rfl, sz4]
    simp only [pr_1, pr_2]
    have h1 := h.b 13
    have h2 := h1.b 10
    refine ⟨?_, h2⟩
    rw [hB _ h2.2.1 _ h1.2.1 _ h2.2.2 (Or.inl rfl)]
  · rw [if_neg (by decide), if_neg (by decide), if_neg (by decide), if_pos (by decide), bd_def, c14, show nI 5 = (5 : Int32) from rfl, sz5]
    simp only [pr_1, pr_2]
    have h1 := (h.b 14).b 13
    have h2 := h1.b 10
    refine ⟨?_, (h2.b 24).b 20⟩
    rw [hB _ h2.2.1 _ h1.2.1 _ h2.2.2 (Or.inr rfl)]
  · rw [if_neg (by decide), if_neg (by decide), if_neg (by decide), if_neg (by decide), bd_def, c10, show nI 6 = (6 : Int32) from rfl, sz6]
    simp only [pr_1, pr_2]
    exact ⟨by decide, h.b 10⟩
theorem ask_mark {S0 S T : HSt} {i kd : Nat} (hi : i < 20) (hk : f_X10_kindOf (sI S 62 1 0) 19 (nI i) = nI kd) (h : BR S0 S0 (sI S 62 1 0) T) (h5 : kd = 2 ∨ kd = 3 ∨ kd = 4 ∨ kd = 5 ∨ kd = 6)
    (hV : kd < 4 → ∀ U : HSt, gI U 21 = gI S0 21 → ∀ X : HSt, gI X 68 = gI S0 68 → f_X10_value U 19 5 (nI i) 1 = f_X12_deed X 64 (nI i) 1) (hV3 : kd < 4 → ∀ U : HSt, gI U 21 = gI S0 21 → ∀ X : HSt, gI X 68 = gI S0 68 → f_X10_value U 19 5 (nI i) 3 = f_X12_deed X 64 (nI i) 3) : (f_X0_markOf S 62 19 (nI i)).1 = (f_X12_markAsked T 64 (nI i) (nI kd)).1 ∧ BR S0 S0 (f_X0_markOf S 62 19 (nI i)).2 (f_X12_markAsked T 64 (nI i) (nI kd)).2 := by
  unfold f_X0_markOf
  rw [bd_def, hk]
  generalize sI S 62 1 0 = S1 at h hk
  have z0 : nI i + (0 : Int32) = nI i := by rw [show (0 : Int32) = nI 0 from rfl, nI_add]; rfl
  rcases h5 with rfl | rfl | rfl | rfl | rfl
  · rw [if_pos (by decide), bd_def, c22, show nI 2 = (2 : Int32) from rfl, mk2]
    simp only [pr_1, pr_2]
    have h2 := ((h.b 22).b 21).b 20
    have h3 := (h2.b 11).b 10
    refine ⟨?_, h3⟩
    rw [hV (by decide) _ h3.2.1 _ h3.2.2, hV3 (by decide) _ h2.2.1 _ h2.2.2]
  · rw [if_neg (by decide), if_pos (by decide), bd_def, c21, show nI 3 = (3 : Int32) from rfl, mk3]
    simp only [pr_1, pr_2]
    have h2 := (h.b 21).b 20
    refine ⟨?_, h2⟩
    rw [hV3 (by decide) _ h2.2.1 _ h2.2.2]
  · rw [if_neg (by decide), if_neg (by decide), if_pos (by decide), bd_def, c20, show nI 4 = (4 : Int32) from rfl, mk4]
    simp only [pr_1, pr_2]
    refine ⟨?_, h.b 20⟩
    rw [z0]
  · rw [if_neg (by decide), if_neg (by decide), if_neg (by decide), if_pos (by decide), bd_def, c24, show nI 5 = (5 : Int32) from rfl, mk5]
    simp only [pr_1, pr_2]
    exact ⟨trivial, (h.b 24).b 20⟩
  · rw [if_neg (by decide), if_neg (by decide), if_neg (by decide), if_neg (by decide), if_pos (by decide), bd_def, c23, show nI 6 = (6 : Int32) from rfl, mk6]
    simp only [pr_1, pr_2]
    refine ⟨?_, (h.b 23).b 20⟩
    rw [z0]
theorem k_ask : K_ask Inv0 := by
  intro n S a b hn hI
  have f1 := v_X11_ask S 0 a b
  have f2 := v_X12_ask (f_X11_ask S 0 a b).2 64 a b
  have hp : ∀ T : HSt, f_X12_in T b.toInt64 (0 : Int64) (1 : Int64) = f_X11_within S b 0 1 := fun T => by
    rw [show (0 : Int64) = (0 : Int32).toInt64 from rfl, show (1 : Int64) = (1 : Int32).toInt64 from rfl, in_within T S]
  have key : p_X11_ask S 0 a b ∧ p_X12_ask (f_X11_ask S 0 a b).2 64 a b ∧ (f_X11_ask S 0 a b).1 = (f_X12_ask (f_X11_ask S 0 a b).2 64 a b).1 ∧ ITr (f_X12_ask (f_X11_ask S 0 a b).2 64 a b).2 := by
    have h68 : gI (f_X11_ask S 0 a b).2 68 = gI S 68 := fr_addr f1 68 (by decide)
    have h87 : gI (f_X11_ask S 0 a b).2 87 = gI S 87 := fr_addr f1 87 (by decide)
    have h64 : gI (f_X11_ask S 0 a b).2 64 = gI S 64 := fr_addr f1 64 (by decide)
    have m62 : gI (f_X12_ask (f_X11_ask S 0 a b).2 64 a b).2 62 = gI (f_X11_ask S 0 a b).2 62 := fr_addr f2 62 (by decide)
    have m63 : gI (f_X12_ask (f_X11_ask S 0 a b).2 64 a b).2 63 = gI (f_X11_ask S 0 a b).2 63 := fr_addr f2 63 (by decide)
    have hfin : TrR (f_X11_ask S 0 a b).2 (f_X12_ask (f_X11_ask S 0 a b).2 64 a b).2 → ITr (f_X12_ask (f_X11_ask S 0 a b).2 64 a b).2 := fun q => by
      unfold ITr
      rw [m62, m63]
      exact q
    have hI4 : TrR S S := hI.2.2.2.1
    generalize hU : (f_X11_ask S 0 a b).2 = U at h68 h87 h64 hfin ⊢
    have hUr : gI U 62 = gI (f_X11_ask S 0 a b).2 62 ∧ gI U 63 = gI (f_X11_ask S 0 a b).2 63 := by rw [hU]; exact ⟨rfl, rfl⟩
    have hd0 : TrR S (sI U 64 0 0) := by
      unfold TrR
      rw [gs_o (by decide), gs_ne (by decide), h64, h87]
      exact hI4
    rcases act_case hI a with ⟨c, hc⟩ | ⟨i, kd, hi, rfl, hA, k1, k2, k3, k4, c, hc⟩
    · have cm := hc (sI U 64 0 0) (by rw [gs_ne (by decide)]; exact h68)
      refine ⟨⟨p_has S 19 _ _, fun q => absurd c q, fun q => absurd c q⟩, ⟨?_, ?_, ?_, ?_⟩, ?_, hfin ?_⟩
      · intro S1 e q; rw [← e] at q; exact absurd cm q
      · intro S1 e q; rw [← e] at q; exact absurd cm q
      · intro S1 e q; rw [← e] at q; exact absurd cm q
      · intro S1 e q; rw [← e] at q; exact absurd cm q
      · unfold f_X11_ask f_X12_ask
        rw [if_pos c, bd_def, if_pos cm, pr_1, pr_1]
      · unfold f_X11_ask at hU
        rw [if_pos c, pr_2] at hU
        unfold f_X12_ask
        rw [bd_def, if_pos cm, pr_2]
        rw [← hU] at hd0 ⊢
        exact hd0
    · have cm := hc (sI U 64 0 0) (by rw [gs_ne (by decide)]; exact h68)
      obtain ⟨⟨hW, hB, -⟩, -⟩ := hI.2.2.2.2.1
      by_cases c1 : f_X11_within S b 0 1 = 0
      · have cm1 : f_X12_in (sI U 64 0 0) b.toInt64 (0 : Int64) (1 : Int64) = 0 := by rw [hp]; exact c1
        refine ⟨⟨p_has S 19 _ _, fun _ q => absurd c1 q, fun _ q => absurd c1 q⟩, ⟨?_, ?_, ?_, ?_⟩, ?_, hfin ?_⟩
        · intro S1 e _ q; rw [← e] at q; exact absurd cm1 q
        · intro S1 e _ q; rw [← e] at q; exact absurd cm1 q
        · intro S1 e _ q; rw [← e] at q; exact absurd cm1 q
        · intro S1 e _ q; rw [← e] at q; exact absurd cm1 q
        · unfold f_X11_ask f_X12_ask
          rw [if_neg c, if_pos c1, bd_def, if_neg cm, if_pos cm1, pr_1, pr_1]
        · unfold f_X11_ask at hU
          rw [if_neg c, if_pos c1, pr_2] at hU
          unfold f_X12_ask
          rw [bd_def, if_neg cm, if_pos cm1, pr_2]
          rw [← hU] at hd0 ⊢
          exact hd0
      · have cm1 : ¬ f_X12_in (sI U 64 0 0) b.toInt64 (0 : Int64) (1 : Int64) = 0 := by rw [hp]; exact c1
        have hBR : BR S S (sI S 62 1 0) (sI (sI U 64 0 0) 64 51 0) := by
          refine ⟨⟨?_, ?_, ?_⟩, ?_, ?_⟩
          · rw [gs_eq, if_pos rfl, gs_eq, if_pos rfl]
          · rw [gs_eq, if_pos rfl]; exact ⟨by decide, by decide⟩
          · rw [gs_ne (by decide), gs_ne (by decide), gs_ne (by decide), h87]; exact hI4.2.2
          · rw [gs_ne (by decide)]
          · rw [gs_ne (by decide), gs_ne (by decide), h68]
        have hD : ∀ (X : HSt) (f : Nat), f < 5 → f_X12_deed X 64 (nI i) (nI f) = gI X 68 (72 + 5 * i + f) := fun X f hf => (deed_at X hi hf).1
        have hv : ∀ (X : HSt) (f : Nat), f < 5 → gI X 21 = gI S 21 → f_X10_value X 19 5 (nI i) (nI f) = cl0 (gI S 68 (72 + 5 * i + f)) := fun X f hf hX => by
          refine (val_at X 19 (s := 5) (i := i) (f := f) (by decide) hi hf).trans ?_
          rw [show gI X (19 + 2) = gI S 21 from hX]
          exact hW.2.2.2.2.2.2 i f hi hf
        have hkd : f_X10_kindOf (sI S 62 1 0) 19 (nI i) = nI kd := by
          rw [← k4]
          have q1 := kind_at (sI S 62 1 0) 19 hi
          have q2 := kind_at S 19 hi
          rw [q1, q2, gs_ne (by decide)]
        have kdv : ∀ m : Nat, m < 100 → gI S 68 (72 + 5 * i) = nI m → kd = m := fun m hm q => by
          rw [k3] at q
          exact Classical.byContradiction fun z => nz_of_nI (by omega) hm z q
        have hlo : kd < 4 → ∀ f, f = 1 ∨ f = 3 → cl0 (gI S 68 (72 + 5 * i + f)) = gI S 68 (72 + 5 * i + f) := fun h4 f hf => by
          rcases hA with ⟨-, b1, -, b3, -⟩ | ⟨q | q, -⟩ | ⟨q, -⟩
          · rcases hf with rfl | rfl
            · exact cl0_bw b1 (by omega)
            · exact cl0_bw b3 (by omega)
          · have := kdv 4 (by omega) q; omega
          · have := kdv 5 (by omega) q; omega
          · have := kdv 6 (by omega) q; omega
        have hV : kd < 4 → ∀ f, f = 1 ∨ f = 3 → ∀ X : HSt, gI X 21 = gI S 21 → ∀ Y : HSt, gI Y 68 = gI S 68 → f_X10_value X 19 5 (nI i) (nI f) = f_X12_deed Y 64 (nI i) (nI f) := fun h4 f hf X hX Y hY => by
          rw [hv X f (by omega) hX, hD Y f (by omega), hY, hlo h4 f hf]
        have hj : kd = 4 ∨ kd = 5 → ∃ j, j < 4 ∧ gI S 68 (72 + 5 * i + 1) = nI j := fun h4 => by
          rcases hA with ⟨q | q, -⟩ | ⟨-, ⟨b1, b2⟩, -⟩ | ⟨q, -⟩
          · have := kdv 2 (by omega) q; omega
          · have := kdv 3 (by omega) q; omega
          · exact nI_of_bw (n := 4) b1 (by have := hB.1.2.2.1.2; omega) (by omega)
          · have := kdv 6 (by omega) q; omega
        have hBe : ∀ X : HSt, gI X 21 = gI S 21 → ∀ X2 : HSt, gI X2 21 = gI S 21 → ∀ Y : HSt, gI Y 68 = gI S 68 → kd = 4 ∨ kd = 5 → f_X10_value X 19 2 (f_X10_value X2 19 5 (nI i) 1) 0 = f_X12_beast Y 64 (f_X12_deed Y 64 (nI i) 1) 0 := fun X hX X2 hX2 Y hY h4 => by
          obtain ⟨j, hj4, ej⟩ := hj h4
          rw [show (1 : Int32) = nI 1 from rfl, hv X2 1 (by decide) hX2, hD Y 1 (by decide), hY, ej, cl0_of (nI_none (by omega))]
          refine (val_at X 19 (s := 2) (i := j) (f := 0) (by decide) hj4 (by decide)).trans ?_
          refine Eq.trans ?_ (beast_at Y hj4 (k := 0) (by decide)).1.symm
          rw [show gI X (19 + 2) = gI S 21 from hX, hY]
          exact hW.2.2.2.1 j 0 hj4 (by decide)
        have h5 : kd = 2 ∨ kd = 3 ∨ kd = 4 ∨ kd = 5 ∨ kd = 6 := by omega
        have hde : f_X12_deed (sI (sI U 64 0 0) 64 51 0) 64 (nI i) 0 = nI kd := by
          refine (hD _ 0 (by decide)).trans ?_
          rw [gs_ne (by decide), gs_ne (by decide), h68]
          exact k3
        have pd : ∀ (X : HSt) (f : Nat), f < 5 → p_X12_deed X 64 (nI i) (nI f) := fun X f hf => (deed_at X hi hf).2
        have pb : f_X12_isOf S (nI kd) 1 = 0 → ¬ f_X12_isOf S (nI kd) 4 = 0 → ∀ X, gI X 68 = gI S 68 → p_X12_beast X 64 (f_X12_deed X 64 (nI i) 1) 0 := fun q1 q2 X hX => by
          have h4 : kd = 4 ∨ kd = 5 := by
            rcases h5 with rfl | rfl | rfl | rfl | rfl
            · exact absurd (show f_X12_isOf S (nI 2) 1 = 1 from rfl) (by rw [q1]; decide)
            · exact absurd (show f_X12_isOf S (nI 3) 1 = 1 from rfl) (by rw [q1]; decide)
            · exact Or.inl rfl
            · exact Or.inr rfl
            · exact absurd rfl q2
          obtain ⟨j, hj4, ej⟩ := hj h4
          have := hD X 1 (by decide)
          rw [hX, ej] at this
          rw [show f_X12_deed X 64 (nI i) 1 = nI j from this]
          exact (beast_at X hj4 (k := 0) (by decide)).2
        have sz := ask_size hi hkd hBR h5 (fun h4 X hX Y hY => hV h4 1 (Or.inl rfl) X hX Y hY) hBe
        have mk := ask_mark hi hkd hBR h5 (fun h4 X hX Y hY => hV h4 1 (Or.inl rfl) X hX Y hY) (fun h4 X hX Y hY => hV h4 3 (Or.inr rfl) X hX Y hY)
        refine ⟨⟨p_has S 19 _ _, fun _ _ _ => p_cMark hBR _, fun _ _ _ => p_cSize hBR _⟩, ⟨?_, ?_, ?_, ?_⟩, ?_⟩
        · intro S1 e _ _ S4 e4 _; exact pd _ 0 (by decide)
        · intro S1 e _ _ S4 e4 _
          rw [← e4, ← e, hde]
          exact p_mark hBR.t _ _ (fun X => pd X 1 (by decide)) (fun X => pd X 3 (by decide)) pb
        · intro S1 e _ _ S4 e4 _; exact pd _ 0 (by decide)
        · intro S1 e _ _ S4 e4 _
          rw [← e4, ← e, hde]
          exact p_size hBR.t _ _ (fun X => pd X 1 (by decide)) pb
        · by_cases c2 : b = 0
          · have e1 : (f_X11_ask S 0 (nI i) b).1 = (f_X0_sizeOf S 62 19 (nI i)).1.toInt64 ∧ (f_X11_ask S 0 (nI i) b).2 = (f_X0_sizeOf S 62 19 (nI i)).2 := by
              unfold f_X11_ask
              simp only [bd_def]
              rw [if_neg c, if_neg c1, pr_1, pr_2, if_pos c2, if_pos c2]
              exact ⟨rfl, rfl⟩
            have e2 : (f_X12_ask U 64 (nI i) b).1 = (f_X12_sizeAsked (sI (sI U 64 0 0) 64 51 0) 64 (nI i) (nI kd)).1.toInt64 ∧ (f_X12_ask U 64 (nI i) b).2 = (f_X12_sizeAsked (sI (sI U 64 0 0) 64 51 0) 64 (nI i) (nI kd)).2 := by
              unfold f_X12_ask
              simp only [bd_def]
              rw [if_neg cm, if_neg cm1, pr_1, pr_2, if_pos c2, if_pos c2, hde]
              exact ⟨rfl, rfl⟩
            refine ⟨by rw [e1.1, e2.1, sz.1], hfin ?_⟩
            have := sz.2.1
            rw [← e1.2, hU] at this
            rw [e2.2]
            exact this
          · have e1 : (f_X11_ask S 0 (nI i) b).1 = (f_X0_markOf S 62 19 (nI i)).1.toInt64 ∧ (f_X11_ask S 0 (nI i) b).2 = (f_X0_markOf S 62 19 (nI i)).2 := by
              unfold f_X11_ask
              simp only [bd_def]
              rw [if_neg c, if_neg c1, pr_1, pr_2, if_neg c2, if_neg c2]
              exact ⟨rfl, rfl⟩
            have e2 : (f_X12_ask U 64 (nI i) b).1 = (f_X12_markAsked (sI (sI U 64 0 0) 64 51 0) 64 (nI i) (nI kd)).1.toInt64 ∧ (f_X12_ask U 64 (nI i) b).2 = (f_X12_markAsked (sI (sI U 64 0 0) 64 51 0) 64 (nI i) (nI kd)).2 := by
              unfold f_X12_ask
              simp only [bd_def]
              rw [if_neg cm, if_neg cm1, pr_1, pr_2, if_neg c2, if_neg c2, hde]
              exact ⟨rfl, rfl⟩
            refine ⟨by rw [e1.1, e2.1, mk.1], hfin ?_⟩
            have := mk.2.1
            rw [← e1.2, hU] at this
            rw [e2.2]
            exact this
  obtain ⟨i1, i2, i3, i4, i5, i6⟩ := hI
  exact ⟨key.1, key.2.1, key.2.2.1, (fr_row (by decide) f2 (fr_row (by decide) f1 i1)), (fr_tape (by decide) f2 (fr_tape (by decide) f1 i2)), (fr_stat (by decide) f2 (fr_stat (by decide) f1 i3)), key.2.2.2, (fr_scn (by decide) f2 (fr_scn (by decide) f1 i5)).mono (Nat.le_succ n), (fr_img (by decide) f2 (fr_img (by decide) f1 i6)).mono (Nat.le_succ n)⟩
