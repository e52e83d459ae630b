-- needs: 9h.lik2
/-! ===== moves: what a throw is worth, in the class ===== -/
def L6 (O L : Nat → Int32) : Prop := O 0 = L 0 ∧ O 1 = L 1 ∧ O 2 = L 2 ∧ O 3 = L 3 ∧ O 4 = L 4 ∧ O 6 = L 5
def ix (d b e p : Nat) : Nat := ((d * 4 + b) * 2 + e) * 16 + p
/-- the size from which on such a throw is likely -/
def TH (S B : HSt) (K : Int32) (d b e p : Nat) (v : Int32) : Prop := ∀ (L : Nat → Int32) (N : Nat), N ≤ 2000 → LB S N L → L 1 = nI p → L 4 = K + nI d → stF (L 0) (L 5) = 0 → (L 0 < v ↔ (2 : Int32) * (f_X12_oddsOf (ly B L) 64 (nI e) (nI b)).1 < 12 * (2 * gI S 18 9 + 1))
def CI (S B : HSt) (K : Int32) (c : Nat) (S' : HSt) : Prop := (gI S' 18 = gI S 18 ∧ gI S' 20 = gI S 20 ∧ gI S' 21 = gI S 21) ∧ gL S' 54 = 640 ∧ ∀ d b e p, d < 5 → b < c → e < 2 → p < 16 → gI S' 54 (ix d b e p) = -1 ∨ TH S B K d b e p (gI S' 54 (ix d b e p))
theorem LB.size {S : HSt} {N : Nat} {L : Nat → Int32} (hb : bw (gI S 18 4) 40 400) (h : LB S N L) : bw (L 0) 0 200 := ⟨h.1.1, by have := h.1.2; have := hb.2; omega⟩
theorem ctos_f {S B S' : HSt} (hE : EV S B) (h18 : gI S' 18 = gI S 18) (h21 : gI S' 21 = gI S 21) {b : Nat} (hb : b < 4) (tick how : Int32) : CTos (f_X9_face S' 55 18 tick how (nI b)) 55 (if how = 1 then 1 else 0) (tD (gI B 68 (24 + 5 * b)) (gI S 18 7) (gI S 18 8) tick) (gI B 68 (24 + 5 * b + 1)) (gI B 68 (24 + 5 * b + 2)) (gI B 68 (24 + 5 * b + 3)) (gI B 68 (24 + 5 * b + 4)) (gI S 18 9) ∧ gI (f_X9_face S' 55 18 tick how (nI b)) 55 3 = 12 * (2 * gI S 18 9 + 1) := by
  obtain ⟨⟨a4, a5, a6, a7, a8, a9, a10⟩, a3, -, -⟩ := face_at (S := S') (o := 55) (sc := 18) (by decide) (by decide) hb tick how
  have hw := hE.1.2.2.2.1
  rw [h18] at a3 a5 a6
  rw [show 18 + 3 = 21 from rfl, h21] at a6 a7 a8 a9 a10
  have w0 : gI S 21 ((6 + b) * 5) = gI B 68 (24 + 5 * b) := hw b 0 hb (by omega)
  rw [w0] at a6
  rw [hw b 1 hb (by omega)] at a7
  rw [hw b 2 hb (by omega)] at a8
  rw [hw b 3 hb (by omega)] at a9
  rw [hw b 4 hb (by omega)] at a10
  exact ⟨⟨a4, a5, a6, a7, a8, a9, a10⟩, a3⟩
theorem th_of {S B S' : HSt} {K : Int32} {c d b e p N : Nat} (hE : EV S B) (hc : (gI B 68 2).toInt = c) (h18 : gI S' 18 = gI S 18) (h21 : gI S' 21 = gI S 21) (hb : b < c) (he : e < 2) (hp : p < 16) {L0 : Nat → Int32} (hN : N ≤ 2000) (hL : LB S N L0) (h4 : L0 4 = K + nI d) : p_X9_likelyFrom S' 55 18 (L0 4) (nI p) (nI e) (nI b) ∧ TH S B K d b e p (f_X9_likelyFrom S' 55 18 (L0 4) (nI p) (nI e) (nI b)).1 := by
  have hc4 : c ≤ 4 := by have := hE.2.1.1.2.2.1.2; omega
  obtain ⟨hC, h3⟩ := ctos_f hE h18 h21 (show b < 4 by omega) (L0 4) (nI e)
  have e01 : (if nI e = 1 then (1 : Int32) else 0) = nI e := by
    have : e = 0 ∨ e = 1 := by omega
    rcases this with rfl | rfl <;> rfl
  rw [e01] at hC
  have hT := (ly_E B L0).tmod hE hL hN (i := b) (by omega) (by omega)
  obtain ⟨-, -, -, -, -, ⟨b0, b1, b2, b3, b4⟩, ⟨l0, l1, l2⟩, -, -, z2, -⟩ := hT
  have hD := tD_bw b0 l0 l1 z2
  have hB : CBw (f_X9_face S' 55 18 (L0 4) (nI e) (nI b)) 55 := by
    obtain ⟨c4, c5, c6, c7, c8, c9, c10⟩ := hC
    exact ⟨by rw [c5]; exact l2, by rw [c6]; exact hD, by rw [c7]; exact b1, by rw [c8]; exact b2, by rw [c9]; have := b3.1; omega, by rw [c10]; exact b4⟩
  have h3p : 0 < (gI (f_X9_face S' 55 18 (L0 4) (nI e) (nI b)) 55 3).toInt := by rw [h3]; have := (whole_bw l2).1; omega
  obtain ⟨p1, -, p3⟩ := lik_at (show b < 4 by omega) (tick := L0 4) (how := nI e) (spin := nI p) ⟨by rw [nI_ti (by omega)]; omega, by rw [nI_ti (by omega)]; omega⟩ hB h3p
  refine ⟨p1, fun L N' hN' hL' h1' h4' hst => ?_⟩
  rw [p3 (L 0) (hL'.size hE.2.2.2.1), h3]
  have hT' := (ly_E B L).tmod hE hL' hN' (i := b) (by omega) (by omega)
  rw [h4', ← h4, h1'] at hT'
  obtain ⟨-, -, o3, -, -⟩ := oddsOf_at hT' hC
  rw [o3 hst]
theorem ix_eq {d b e p : Nat} (hd : d < 5) (hb : b < 4) (he : e < 2) (hp : p < 16) : (((((nI d * (4 : Int32)) + nI b) * (2 : Int32)) + nI e) * (16 : Int32)) + nI p = nI (ix d b e p) := by
  unfold ix
  rw [show (4 : Int32) = nI 4 from rfl, show (2 : Int32) = nI 2 from rfl, show (16 : Int32) = nI 16 from rfl, pk_mul, nI_add, pk_mul, nI_add, pk_mul, nI_add]
theorem ix_lt {d b e p : Nat} (hd : d < 5) (hb : b < 4) (he : e < 2) (hp : p < 16) : ix d b e p < 640 := by unfold ix; omega
theorem ix_inj {d b e p d' b' e' p' : Nat} (hb : b < 4) (he : e < 2) (hp : p < 16) (hb' : b' < 4) (he' : e' < 2) (hp' : p' < 16) (h : ix d b e p = ix d' b' e' p') : d = d' ∧ b = b' ∧ e = e' ∧ p = p' := by
  unfold ix at h; omega
