-- needs: 97.st
/-! ===== moves: step, gain, may ===== -/
noncomputable def stp6 (B : HSt) (x : (Nat → Int32) × Nat) (m : Nat) : (Nat → Int32) × Nat :=
  if m < 6 then (rdL (f_X12_doTick (ly B x.1) 64 0 (nI (m / 2 + 1)) (if m % 2 = 0 then 4 else 8) (-1000000)), x.2) else (rdL (f_X12_shut (ly B x.1) 64), x.2 ||| 2 ^ ((m - 6) / 2))
noncomputable def gn6 (B : HSt) (x : (Nat → Int32) × Nat) (m : Nat) : Int :=
  if m < 6 then 0 else (f_X12_counts (ly B x.1) 64 (nI (m % 2)) (nI ((m - 6) / 2))).1.toInt
noncomputable def may6 (B : HSt) (x : (Nat → Int32) × Nat) (m : Nat) : Bool :=
  if m < 6 then decide (f_X12_isStill (ly B x.1) 64 = 0) else !x.2.testBit ((m - 6) / 2)
theorem ctos_ex (S0 : HSt) (e D pace wide gait duck sh : Int32) : ∃ S, CTos S 0 e D pace wide gait duck sh := by
  refine ⟨rI S0 0 (fun j => if j = 4 then e else if j = 5 then sh else if j = 6 then D else if j = 7 then pace else if j = 8 then wide else if j = 9 then gait else duck), ?_⟩
  have g : ∀ j, gI (rI S0 0 (fun j => if j = 4 then e else if j = 5 then sh else if j = 6 then D else if j = 7 then pace else if j = 8 then wide else if j = 9 then gait else duck)) 0 j = (if j = 4 then e else if j = 5 then sh else if j = 6 then D else if j = 7 then pace else if j = 8 then wide else if j = 9 then gait else duck) := fun j => by rw [gI_rI, if_pos rfl]
  unfold CTos
  simp only [g]
  exact ⟨rfl, rfl, rfl, rfl, rfl, rfl, rfl⟩
theorem cnt_cg {T T' : HSt} {i : Nat} {far pace wide gait duck lag near sh size spin tick kk : Int32} (h : TMod T i far pace wide gait duck lag near sh size spin tick kk) (h' : TMod T' i far pace wide gait duck lag near sh size spin tick kk) (h68 : gI T 68 = gI T' 68) {e : Int32} (he : e = 0 ∨ e = 1) : p_X12_counts T 64 e (nI i) ∧ (f_X12_counts T 64 e (nI i)).1 = (f_X12_counts T' 64 e (nI i)).1 := by
  obtain ⟨S, hC⟩ := ctos_ex T e (tD far lag near tick) pace wide gait duck sh
  obtain ⟨-, a2, a3, a4, a5⟩ := oddsOf_at h hC
  obtain ⟨-, b2, b3, b4, b5⟩ := oddsOf_at h' hC
  have ho : (f_X12_oddsOf T 64 e (nI i)).1 = (f_X12_oddsOf T' 64 e (nI i)).1 := by
    by_cases q : stF size kk = 0
    · rw [← a3 q, ← b3 q]
    · rw [a4 q, b4 q]
  obtain ⟨c1, c2⟩ := counts_at h he a2 a5
  obtain ⟨-, d2⟩ := counts_at h' he b2 b5
  exact ⟨c1, by rw [c2, d2, ho, h68]⟩
theorem EqB.tmod {S B T : HSt} {L : Nat → Int32} {N : Nat} (hE : EV S B) (hL : LB S N L) (hN : N ≤ 2000) (h : EqB T B L) {i : Nat} (hi : i < 4) (hc : (i : Int) < (gI B 68 2).toInt) : TMod T i (gI B 68 (24 + 5 * i)) (gI B 68 (24 + 5 * i + 1)) (gI B 68 (24 + 5 * i + 2)) (gI B 68 (24 + 5 * i + 3)) (gI B 68 (24 + 5 * i + 4)) (gI S 18 7) (gI S 18 8) (gI S 18 9) (L 0) (L 1) (L 4) (L 5) := by
  obtain ⟨S', hR, hS⟩ := mkRG hE hL h
  have := (hR.lnk hN hi (by rw [h.1]; exact hc)).1
  rw [h.1, hS 18 (by decide), h.2.2.2 0 (by omega), h.2.2.2 1 (by omega), h.2.2.2 4 (by omega), h.2.2.2 5 (by omega)] at this
  exact this
theorem EqB.cnt {S B T : HSt} {L : Nat → Int32} {N : Nat} (hE : EV S B) (hL : LB S N L) (hN : N ≤ 2000) (h : EqB T B L) {i : Nat} (hi : i < 4) (hc : (i : Int) < (gI B 68 2).toInt) {e : Int32} (he : e = 0 ∨ e = 1) : p_X12_counts T 64 e (nI i) ∧ (f_X12_counts T 64 e (nI i)).1 = (f_X12_counts (ly B L) 64 e (nI i)).1 :=
  cnt_cg (h.tmod hE hL hN hi hc) ((ly_E B L).tmod hE hL hN hi hc) (by rw [h.1, (ly_E B L).1]) he
theorem stp_B {S B : HSt} {x : (Nat → Int32) × Nat} {N m : Nat} (hE : EV S B) (hL : LB S N x.1) (hN : N ≤ 2000) (hm : may6 B x m = true) : LB S (N + 1) (stp6 B x m).1 := by
  obtain ⟨S', hR, hS⟩ := mkRG hE hL (ly_E B x.1)
  unfold stp6
  by_cases c : m < 6
  · rw [if_pos c]
    unfold may6 at hm
    rw [if_pos c] at hm
    have st : f_X12_isStill (ly B x.1) 64 = 0 := of_decide_eq_true hm
    have r := rg_tick (lp := 1000) (by decide) (by decide) (by decide) hR (by omega) (hR.opn st) (st := 0) (up := nI (m / 2 + 1)) (lt := if m % 2 = 0 then 4 else 8) (tn := tnd (gI S' 1000 1) (nI (m / 2 + 1)) (gI S' 1000 3)) (tm := -1000000) (by split <;> exact ⟨by decide, by decide⟩) (Or.inr ⟨rfl, rfl⟩)
    have b := r.2.2.2.2.2
    rw [fr_addr (v_X1_advance S' 1000 18 0 (nI (m / 2 + 1)) (if m % 2 = 0 then 4 else 8) (tnd (gI S' 1000 1) (nI (m / 2 + 1)) (gI S' 1000 3))) 18 (by decide), hS 18 (by decide)] at b
    exact b.cg6 (fun j hj => by show rdL _ j = _; unfold rdL; rw [if_pos hj])
  · rw [if_neg c]
    have r := rg_shut (lp := 1000) (by decide) (by decide) (by decide) (by omega) hR
    have b := r.2.2.2.2.2
    rw [fr_addr (v_X1_fallToHand S' 1000) 18 (by decide), hS 18 (by decide)] at b
    exact b.cg6 (fun j hj => by show rdL _ j = _; unfold rdL; rw [if_pos hj])
theorem m6 : ∀ m, m < 14 → 6 ≤ m → (nI m - (6 : Int32)) / (2 : Int32) = nI ((m - 6) / 2) := by decide +kernel
theorem m2 : ∀ m, m < 14 → (nI m - nI m / (2 : Int32) * (2 : Int32)) = nI (m % 2) := by decide +kernel
theorem md2 : ∀ m, m < 14 → (nI m / (2 : Int32)) + (1 : Int32) = nI (m / 2 + 1) := by decide +kernel
theorem b_shr0 : ∀ s, s < 64 → ∀ f, f < 6 → (((nI s >>> (nI f &&& 31)) &&& (1 : Int32)) = 0 ↔ s.testBit f = false) := by decide +kernel
theorem le6 {m : Nat} (hm : m < 14) : (6 : Int32) ≤ nI m ↔ 6 ≤ m := by
  rw [ti_le, nI_ti (by omega), show (6 : Int32).toInt = 6 from rfl]; omega
theorem may_at {T B : HSt} {L : Nat → Int32} (h : EqB T B L) {s m : Nat} (hs : s < 64) (hm : m < 14) : f_X12_mayMove T 64 (nI m) (nI s) = if may6 B (L, s) m then 1 else 0 := by
  show (if (6 : Int32) ≤ nI m then (if ((nI s >>> (((nI m - (6 : Int32)) / (2 : Int32)) &&& 31)) &&& (1 : Int32)) = 0 then (1 : Int32) else (0 : Int32)) else (if (f_X12_isStill T 64) = 0 then (1 : Int32) else (0 : Int32))) = _
  unfold may6
  by_cases c : 6 ≤ m
  · rw [if_pos ((le6 hm).mpr c), if_neg (show ¬ m < 6 by omega), m6 m hm c]
    have hb := b_shr0 s hs ((m - 6) / 2) (by omega)
    by_cases q : s.testBit ((m - 6) / 2) = false
    · rw [if_pos (hb.mpr q)]
      simp [q]
    · rw [if_neg (fun z => q (hb.mp z))]
      simp at q
      simp [q]
  · rw [if_neg (fun z => c ((le6 hm).mp z)), if_pos (show m < 6 by omega), h.still]
    by_cases q : f_X12_isStill (ly B L) 64 = 0
    · rw [if_pos q, decide_eq_true q]; rfl
    · rw [if_neg q, decide_eq_false q]; rfl
