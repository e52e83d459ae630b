-- needs: 9k.offer
/-! ===== moves: the class's search, its state ===== -/
def SY (S B : HSt) (K : Int32) (c n : Nat) (S' : HSt) (d : Nat) (x : (Nat → Int32) × Nat) : Prop := CI S B K c S' ∧ gI S' 43 6 = nI n ∧ gI S' 43 8 = nI x.2 ∧ L6 (gI S' (56 + d)) x.1 ∧ gI S' 52 n = 0
def VX (S : HSt) (K : Int32) (d : Nat) (x : (Nat → Int32) × Nat) (N : Nat) : Prop := LB S N x.1 ∧ x.2 < 16 ∧ x.1 4 = K + nI d
def FrC (n d : Nat) (S' S'' : HSt) : Prop := (∀ y, y ≠ 52 → y ≠ 53 → y ≠ 54 → y ≠ 55 → ¬ (46 + d ≤ y ∧ y ≤ 51) → ¬ (57 + d ≤ y ∧ y ≤ 61) → gI S'' y = gI S' y) ∧ (∀ k, (k < d ∨ n ≤ k) → gI S'' 52 k = gI S' 52 k) ∧ (∀ k, k < d → gI S'' 53 k = gI S' 53 k)
theorem FrC.refl (n d : Nat) (T : HSt) : FrC n d T T := ⟨fun _ _ _ _ _ _ _ => rfl, fun _ _ => rfl, fun _ _ => rfl⟩
theorem FrC.trans {n d : Nat} {T U V : HSt} (h : FrC n d T U) (h' : FrC n d U V) : FrC n d T V := ⟨fun y a b c e f g => (h'.1 y a b c e f g).trans (h.1 y a b c e f g), fun k hk => (h'.2.1 k hk).trans (h.2.1 k hk), fun k hk => (h'.2.2 k hk).trans (h.2.2 k hk)⟩
theorem FrC.dn {n d : Nat} {T U : HSt} (h : FrC n (d + 1) T U) : FrC n d T U := ⟨fun y a b c e f g => h.1 y a b c e (by omega) (by omega), fun k hk => h.2.1 k (by omega), fun k hk => h.2.2 k (by omega)⟩
theorem CI.of {S B : HSt} {K : Int32} {c : Nat} {S' S'' : HSt} (h : CI S B K c S') (h1 : gI S'' 18 = gI S' 18) (h2 : gI S'' 20 = gI S' 20) (h3 : gI S'' 21 = gI S' 21) (h4 : gI S'' 54 = gI S' 54) (h5 : shp S'' = shp S') : CI S B K c S'' := by
  unfold CI at h ⊢
  rw [h1, h2, h3, h4, gL_shp h5]
  exact h
theorem SY.fr {S B : HSt} {K : Int32} {c n : Nat} {S' S'' : HSt} {d : Nat} {x : (Nat → Int32) × Nat} (h : SY S B K c n S' d x) (hd : d < 6) (hf : FrC n d S' S'') (hc : CI S B K c S'') : SY S B K c n S'' d x := by
  obtain ⟨-, a2, a3, a4, a5⟩ := h
  have e43 := hf.1 43 (by omega) (by omega) (by omega) (by omega) (by omega) (by omega)
  exact ⟨hc, by rw [e43]; exact a2, by rw [e43]; exact a3, by rw [hf.1 (56 + d) (by omega) (by omega) (by omega) (by omega) (by omega) (by omega)]; exact a4, by rw [hf.2.1 n (by omega)]; exact a5⟩
theorem stp_lo (B : HSt) (x : (Nat → Int32) × Nat) {m : Nat} (q : m < 6) (j : Nat) (hj : j < 6) : (stp6 B x m).1 j = WL (f_X12_doTick (ly B x.1) 64 0 (nI (m / 2 + 1)) (if m % 2 = 0 then 4 else 8) (-1000000)) j := by
  unfold stp6
  rw [if_pos q]
  exact if_pos hj
theorem stp_hi (B : HSt) (x : (Nat → Int32) × Nat) {m : Nat} (q : ¬ m < 6) (j : Nat) (hj : j < 6) : (stp6 B x m).1 j = WL (f_X12_shut (ly B x.1) 64) j := by
  unfold stp6
  rw [if_neg q]
  exact if_pos hj
theorem VX.st {S B : HSt} {K : Int32} {d c N m : Nat} {x : (Nat → Int32) × Nat} (hE : EV S B) (hc : c ≤ 4) (hN : N ≤ 2000) (hm : m < 6 + 2 * c) (h : VX S K d x N) (hmay : may6 B x m = true) : VX S K (d + 1) (stp6 B x m) (N + 1) := by
  refine ⟨stp_B hE h.1 hN hmay, stp_lt hc h.2.1 hm, ?_⟩
  have e : (stp6 B x m).1 4 = x.1 4 + 1 := by
    have c4 : gI (ly B x.1) 64 24 = x.1 4 := ly_W B x.1 4 (by omega)
    by_cases q : m < 6
    · rw [stp_lo B x q 4 (by omega)]
      rw [show ∀ T, WL T 4 = gI T 64 24 from fun _ => rfl, tck_24, c4]
    · rw [stp_hi B x q 4 (by omega), (shut_at (ly B x.1)).2.2.2.2.1, c4]
  rw [e, h.2.2, Int32.add_assoc, nsucc]
/-- a loop copied -/
theorem cp_at {S' : HSt} {o lp : Nat} (h : o ≠ lp) : (∀ j, j < 7 → gI (f_X1_copyFrom S' o lp) o j = gI S' lp j) ∧ (∀ y, y ≠ o → gI (f_X1_copyFrom S' o lp) y = gI S' y) := by
  have e : f_X1_copyFrom S' o lp = sI (sI (sI (sI (sI (sI (sI S' o 0 (gI S' lp 0)) o 1 (gI S' lp 1)) o 2 (gI S' lp 2)) o 3 (gI S' lp 3)) o 4 (gI S' lp 4)) o 5 (gI S' lp 5)) o 6 (gI S' lp 6) := by
    have n : ∀ (U : HSt) (k : Nat) (v : Int32), gI (sI U o k v) lp = gI U lp := fun U k v => gs_ne (fun q => h q.symm)
    unfold f_X1_copyFrom
    simp only [bd_def, n]
  constructor
  · intro j hj
    rw [e]
    have hc : j = 0 ∨ j = 1 ∨ j = 2 ∨ j = 3 ∨ j = 4 ∨ j = 5 ∨ j = 6 := by omega
    rcases hc with rfl | rfl | rfl | rfl | rfl | rfl | rfl <;> simp only [gI_sI, if_true, if_false, reduceIte, Nat.reduceEqDiff]
  · intro y hy
    rw [e, gs_ne hy, gs_ne hy, gs_ne hy, gs_ne hy, gs_ne hy, gs_ne hy, gs_ne hy]
theorem p_cp {S' : HSt} {o lp : Nat} (h : o ≠ lp) (hb : Bz (gI S' lp 6)) : p_X1_copyFrom S' o lp := by
  intro S1 e1 S2 e2 S3 e3 S4 e4 S5 e5 S6 e6
  have n : ∀ (U : HSt) (k : Nat) (v : Int32), gI (sI U o k v) lp = gI U lp := fun U k v => gs_ne (fun q => h q.symm)
  rw [← e6, n, ← e5, n, ← e4, n, ← e3, n, ← e2, n, ← e1, n]
  exact hb
theorem EqB.of' {T B : HSt} {L : Nat → Int32} (h : EqB T B L) (v : Int32) : EqB (sI T 64 26 v) B L := ⟨(gs_ne (by decide)).trans h.1, (gs_o (by decide)).trans h.2.1, (gs_o (by decide)).trans h.2.2.1, fun j hj => (gs_o (by omega)).trans (h.2.2.2 j hj)⟩
/-- a tick of the class's loop at lp -/
theorem adv_6c {S B S1 : HSt} {K : Int32} {c : Nat} (hE : EV S B) (hI : CI S B K c S1) {x : (Nat → Int32) × Nat} {N lp m : Nat} (hlp : 56 ≤ lp) (hL : LB S N x.1) (hN : N ≤ 2000) (h6 : L6 (gI S1 lp) x.1) (hm : m < 6) (hst : f_X12_isStill (ly B x.1) 64 = 0) {up lt tn : Int32} (hup : up = nI (m / 2 + 1)) (hlt : lt = if m % 2 = 0 then 4 else 8) (htn : tn = tnd (gI S1 lp 1) up (gI S1 lp 3)) : L6 (gI (f_X1_advance S1 lp 18 0 up lt tn) lp) (stp6 B x m).1 := by
  obtain ⟨⟨i1, i2, i3⟩, -, -⟩ := hI
  obtain ⟨k0, k1, k2, k3, k4, k6⟩ := h6
  have hEq : EqB (sI (ly B x.1) 64 26 (gI S1 lp 5)) B x.1 := (ly_E B x.1).of' (gI S1 lp 5)
  have hR : RG lp N S1 (sI (ly B x.1) 64 26 (gI S1 lp 5)) := by
    unfold RG
    rw [i1, i2, i3, hEq.1, hEq.2.1, hEq.2.2.1]
    refine ⟨hE.1, hE.2.1, hE.2.2.1, hE.2.2.2, ⟨?_, ?_, ?_, ?_, ?_, ?_, ?_⟩, hL.cg6 hEq.2.2.2⟩
    · rw [hEq.2.2.2 0 (by omega)]; exact k0
    · rw [hEq.2.2.2 1 (by omega)]; exact k1
    · rw [hEq.2.2.2 2 (by omega)]; exact k2
    · rw [hEq.2.2.2 3 (by omega)]; exact k3
    · rw [hEq.2.2.2 4 (by omega)]; exact k4
    · show _ = gI _ 64 26
      rw [gs_eq, if_pos rfl]
    · rw [hEq.2.2.2 5 (by omega)]; exact k6
  have ho : gI (sI (ly B x.1) 64 26 (gI S1 lp 5)) 64 25 = 0 := hR.opn (by rw [hEq.still]; exact hst)
  have r := rg_tick (lp := lp) (by omega) (by omega) (by omega) hR (by omega) ho (st := 0) (up := up) (lt := lt) (tn := tn) (tm := -1000000) (by rw [hlt]; split <;> exact ⟨by decide, by decide⟩) (Or.inr ⟨rfl, htn⟩)
  obtain ⟨l0, l1, l2, l3, l4, -, l6⟩ := r.2.2.2.2.1
  have es : ∀ j, j < 6 → WL (f_X12_doTick (sI (ly B x.1) 64 26 (gI S1 lp 5)) 64 0 up lt (-1000000)) j = (stp6 B x m).1 j := fun j hj => by
    rw [tick_cg hEq _ _ _ _ j hj, stp_lo B x hm j hj, hup, hlt]
  exact ⟨l0.trans (es 0 (by omega)), l1.trans (es 1 (by omega)), l2.trans (es 2 (by omega)), l3.trans (es 3 (by omega)), l4.trans (es 4 (by omega)), l6.trans (es 5 (by omega))⟩
/-- the loop is shut -/
theorem shut_6c {B S1 : HSt} {x : (Nat → Int32) × Nat} {lp m : Nat} (h6 : L6 (gI S1 lp) x.1) (hm : ¬ m < 6) : L6 (gI (f_X1_fallToHand S1 lp) lp) (stp6 B x m).1 := by
  obtain ⟨a0, a1, a2, a3, a4, -, a6⟩ := fall_at S1 lp
  obtain ⟨b0, b1, b2, b3, b4, b5, -⟩ := shut_at (ly B x.1)
  obtain ⟨k0, k1, k2, k3, k4, k6⟩ := h6
  have es := stp_hi B x hm
  have c3 : gI (ly B x.1) 64 23 = x.1 3 := ly_W B x.1 3 (by omega)
  have c4 : gI (ly B x.1) 64 24 = x.1 4 := ly_W B x.1 4 (by omega)
  refine ⟨?_, ?_, ?_, ?_, ?_, ?_⟩
  · rw [es 0 (by omega), a0, b0]
  · rw [es 1 (by omega), a1, b1]
  · rw [es 2 (by omega), a2, b2]
  · rw [es 3 (by omega), a3, b3, k3, c3]
  · rw [es 4 (by omega), a4, b4, k4, c4]
  · rw [es 5 (by omega), a6, b5]
