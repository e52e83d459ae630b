-- needs: 96.look 59.best 63.dfs
/-! ===== moves: the state, a step, its gain ===== -/
/-- six numbers of a loop laid on a heap -/
noncomputable def ly (B : HSt) (L : Nat → Int32) : HSt := sI (sI (sI (sI (sI (sI B 64 20 (L 0)) 64 21 (L 1)) 64 22 (L 2)) 64 23 (L 3)) 64 24 (L 4)) 64 25 (L 5)
def rdL (T : HSt) : Nat → Int32 := fun j => if j < 6 then WL T j else 0
def EqB (T B : HSt) (L : Nat → Int32) : Prop := gI T 68 = gI B 68 ∧ gI T 64 18 = gI B 64 18 ∧ gI T 64 19 = gI B 64 19 ∧ ∀ j, j < 6 → WL T j = L j
theorem ly_o (B : HSt) (L : Nat → Int32) {x k : Nat} (h : ¬ (x = 64 ∧ 20 ≤ k ∧ k ≤ 25)) : gI (ly B L) x k = gI B x k := by
  unfold ly
  by_cases q : x = 64
  · subst q
    rw [gs_o (by omega), gs_o (by omega), gs_o (by omega), gs_o (by omega), gs_o (by omega), gs_o (by omega)]
  · rw [gs_ne q, gs_ne q, gs_ne q, gs_ne q, gs_ne q, gs_ne q]
theorem ly_W (B : HSt) (L : Nat → Int32) : ∀ j, j < 6 → WL (ly B L) j = L j := by
  intro j hj
  unfold ly WL
  have hc : j = 0 ∨ j = 1 ∨ j = 2 ∨ j = 3 ∨ j = 4 ∨ j = 5 := by omega
  rcases hc with rfl | rfl | rfl | rfl | rfl | rfl <;> simp only [gI_sI, if_true, if_false, reduceIte, Nat.reduceEqDiff, Nat.reduceAdd, Nat.add_zero]
theorem ly_E (B : HSt) (L : Nat → Int32) : EqB (ly B L) B L := by
  refine ⟨?_, ly_o B L (by omega), ly_o B L (by omega), ly_W B L⟩
  funext k
  exact ly_o B L (by omega)
theorem EqB.rope {T B : HSt} {L : Nat → Int32} (h : EqB T B L) (k : Int32) : f_X12_ropeOf T 64 k = f_X12_ropeOf B 64 k := by
  show gI T 68 (((6 : Int32) + ((3 : Int32) * (gI T 64 18))) + k).toNatClampNeg = gI B 68 (((6 : Int32) + ((3 : Int32) * (gI B 64 18))) + k).toNatClampNeg
  rw [h.1, h.2.1]
theorem EqB.rd (T : HSt) : EqB T T (rdL T) := ⟨rfl, rfl, rfl, fun j hj => by unfold rdL; rw [if_pos hj]⟩
theorem EqB.still {T B : HSt} {L : Nat → Int32} (h : EqB T B L) : f_X12_isStill T 64 = f_X12_isStill (ly B L) 64 := by
  have a : ∀ U, f_X12_isStill U 64 = if WL U 5 = 0 then (if WL U 0 = 0 then 1 else 0) else 1 := fun U => rfl
  rw [a, a, h.2.2.2 5 (by omega), h.2.2.2 0 (by omega), ly_W B L 5 (by omega), ly_W B L 0 (by omega)]
/-- the same numbers, the same tick -/
theorem tick_cg {T B : HSt} {L : Nat → Int32} (h : EqB T B L) (st up lt tn : Int32) : ∀ j, j < 6 → WL (f_X12_doTick T 64 st up lt tn) j = WL (f_X12_doTick (ly B L) 64 st up lt tn) j := by
  have e := ly_E B L
  have c : ∀ j, j < 6 → WL T j = WL (ly B L) j := fun j hj => by rw [h.2.2.2 j hj, e.2.2.2 j hj]
  have c0 : gI T 64 20 = gI (ly B L) 64 20 := c 0 (by omega)
  have c1 : gI T 64 21 = gI (ly B L) 64 21 := c 1 (by omega)
  have c2 : gI T 64 22 = gI (ly B L) 64 22 := c 2 (by omega)
  have c3 : gI T 64 23 = gI (ly B L) 64 23 := c 3 (by omega)
  have c4 : gI T 64 24 = gI (ly B L) 64 24 := c 4 (by omega)
  have r : ∀ k, f_X12_ropeOf T 64 k = f_X12_ropeOf (ly B L) 64 k := fun k => by rw [h.rope, e.rope]
  intro j hj
  have hc : j = 0 ∨ j = 1 ∨ j = 2 ∨ j = 3 ∨ j = 4 ∨ j = 5 := by omega
  unfold WL
  rcases hc with rfl | rfl | rfl | rfl | rfl | rfl
  · show gI _ 64 20 = gI _ 64 20
    rw [tck_20, tck_20, c0, c1, c3, r, r, r]
  · show gI _ 64 21 = gI _ 64 21
    rw [tck_21, tck_21, c1, c3]
  · show gI _ 64 22 = gI _ 64 22
    rw [tck_22, tck_22, c1, c2, c3]
  · show gI _ 64 23 = gI _ 64 23
    rw [tck_23, tck_23, c1, c3]
  · show gI _ 64 24 = gI _ 64 24
    rw [tck_24, tck_24, c4]
  · show gI _ 64 25 = gI _ 64 25
    rw [tck_25, tck_25, c1, c2, c3, r]
theorem shut_cg {T B : HSt} {L : Nat → Int32} (h : EqB T B L) : ∀ j, j < 6 → WL (f_X12_shut T 64) j = WL (f_X12_shut (ly B L) 64) j := by
  have e := ly_E B L
  have c : ∀ j, j < 6 → WL T j = WL (ly B L) j := fun j hj => by rw [h.2.2.2 j hj, e.2.2.2 j hj]
  obtain ⟨a0, a1, a2, a3, a4, a5, -⟩ := shut_at T
  obtain ⟨b0, b1, b2, b3, b4, b5, -⟩ := shut_at (ly B L)
  have c3 : gI T 64 23 = gI (ly B L) 64 23 := c 3 (by omega)
  have c4 : gI T 64 24 = gI (ly B L) 64 24 := c 4 (by omega)
  intro j hj
  have hc : j = 0 ∨ j = 1 ∨ j = 2 ∨ j = 3 ∨ j = 4 ∨ j = 5 := by omega
  rcases hc with rfl | rfl | rfl | rfl | rfl | rfl
  · rw [a0, b0]
  · rw [a1, b1]
  · rw [a2, b2]
  · rw [a3, b3, c3]
  · rw [a4, b4, c4]
  · rw [a5, b5]
/-- what stays the same all the while: way, rope and horse on both sides -/
def EV (S B : HSt) : Prop := WayR (gI S 20) (gI S 21) (gI B 68) ∧ WayB (gI B 68) ∧ HeldR (gI S 18) (gI B 68) (gI B 64 18) (gI B 64 19) ∧ (bw (gI S 18 4) 40 400 ∧ bw (gI S 18 5) 0 9)
def LB (S : HSt) (N : Nat) (L : Nat → Int32) : Prop := LoopB N (gI S 18 4) (gI S 18 5) L
theorem LoopB.cg6 {n : Nat} {a b : Int32} {L L' : Nat → Int32} (h : ∀ j, j < 6 → L' j = L j) (hR : LoopB n a b L) : LoopB n a b L' := by
  unfold LoopB at hR ⊢
  rw [h 0 (by omega), h 1 (by omega), h 2 (by omega), h 3 (by omega), h 4 (by omega), h 5 (by omega)]
  exact hR
/-- a class heap with the loop besides -/
theorem mkRG {S B T : HSt} {L : Nat → Int32} {N : Nat} (hE : EV S B) (hL : LB S N L) (h : EqB T B L) : ∃ S', RG 1000 N S' T ∧ ∀ x, x ≠ 1000 → gI S' x = gI S x := by
  refine ⟨rI S 1000 (fun j => if j = 5 then WL T 6 else if j = 6 then WL T 5 else WL T j), ?_, fun x hx => (by rw [gI_rI, if_neg hx])⟩
  have g : ∀ x, x ≠ 1000 → gI (rI S 1000 (fun j => if j = 5 then WL T 6 else if j = 6 then WL T 5 else WL T j)) x = gI S x := fun x hx => (by rw [gI_rI, if_neg hx])
  have e : gI (rI S 1000 (fun j => if j = 5 then WL T 6 else if j = 6 then WL T 5 else WL T j)) 1000 = (fun j => if j = 5 then WL T 6 else if j = 6 then WL T 5 else WL T j) := by rw [gI_rI, if_pos rfl]
  unfold RG
  rw [g 20 (by decide), g 21 (by decide), g 18 (by decide), e, h.1, h.2.1, h.2.2.1]
  exact ⟨hE.1, hE.2.1, hE.2.2.1, hE.2.2.2, ⟨rfl, rfl, rfl, rfl, rfl, rfl, rfl⟩, hL.cg6 h.2.2.2⟩
