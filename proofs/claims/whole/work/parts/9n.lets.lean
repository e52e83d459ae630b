-- needs: 9m.lets
/-- the loop of the next depth -/
noncomputable def nx3 (S' : HSt) (d : Nat) (up lt tn : Int32) : HSt := f_X1_advance (f_X1_copyFrom S' (56 + (d + 1)) (56 + d)) (56 + (d + 1)) 18 0 up lt tn
theorem nx_at {S B S' : HSt} {K : Int32} {c n d N m : Nat} {x : (Nat → Int32) × Nat} (hE : EV S B) (h : SY S B K c n S' d x) (hv : VX S K d x N) (hN : N ≤ 1999) (hd : d < 5) (hst : f_X12_isStill (ly B x.1) 64 = 0) (hm : m < 6) {up lt tn : Int32} (hup : up = nI (m / 2 + 1)) (hlt : lt = if m % 2 = 0 then 4 else 8) (htn : tn = tnd (x.1 1) up (x.1 3)) : p_X1_copyFrom S' (56 + (d + 1)) (56 + d) ∧ SY S B K c n (nx3 S' d up lt tn) (d + 1) (stp6 B x m) ∧ (∀ y, y ≠ 56 + (d + 1) → gI (nx3 S' d up lt tn) y = gI S' y) ∧ shp (nx3 S' d up lt tn) = shp S' := by
  obtain ⟨hI, a2, a3, a4, a5⟩ := h
  obtain ⟨c1, c2⟩ := cp_at (S' := S') (o := 56 + (d + 1)) (lp := 56 + d) (by omega)
  have fa := v_X1_advance (f_X1_copyFrom S' (56 + (d + 1)) (56 + d)) (56 + (d + 1)) 18 0 up lt tn
  have sh : shp (nx3 S' d up lt tn) = shp S' := (q_X1_advance _ _ _ _ _ _ _).trans (q_X1_copyFrom S' _ _)
  have fr : ∀ y, y ≠ 56 + (d + 1) → gI (nx3 S' d up lt tn) y = gI S' y := fun y hy => (fr_addr fa y (seven_ne (fun q => hy q.symm))).trans (c2 y hy)
  have hIc : CI S B K c (f_X1_copyFrom S' (56 + (d + 1)) (56 + d)) := hI.of (c2 18 (by omega)) (c2 20 (by omega)) (c2 21 (by omega)) (c2 54 (by omega)) (q_X1_copyFrom S' _ _)
  have h6c : L6 (gI (f_X1_copyFrom S' (56 + (d + 1)) (56 + d)) (56 + (d + 1))) x.1 := by
    obtain ⟨k0, k1, k2, k3, k4, k6⟩ := a4
    exact ⟨(c1 0 (by omega)).trans k0, (c1 1 (by omega)).trans k1, (c1 2 (by omega)).trans k2, (c1 3 (by omega)).trans k3, (c1 4 (by omega)).trans k4, (c1 6 (by omega)).trans k6⟩
  have h6 := adv_6c hE hIc (lp := 56 + (d + 1)) (m := m) (by omega) hv.1 (by omega) h6c hm hst hup hlt (tn := tn) (by rw [h6c.2.1, h6c.2.2.2.1]; exact htn)
  refine ⟨p_cp (by omega) (by rw [a4.2.2.2.2.2]; exact hv.1.2.2.2.2.2.1), ⟨hI.of (fr 18 (by omega)) (fr 20 (by omega)) (fr 21 (by omega)) (fr 54 (by omega)) sh, by rw [fr 43 (by omega)]; exact a2, ?_, h6, by rw [fr 52 (by omega)]; exact a5⟩, fr, sh⟩
  rw [fr 43 (by omega), a3]
  unfold stp6
  rw [if_pos hm]
theorem RW.len {B S' : HSt} {A k d : Nat} {x : (Nat → Int32) × Nat} (_h : RW S' d (bs6 B A k x)) : (bs6 B A k x).2.length ≤ k := bs6_len B A k x
/-- a tick is gone down -/
theorem exp_t {S B S' : HSt} {K : Int32} {c n d N m k A : Nat} {x : (Nat → Int32) × Nat} {o : WRo} {g : HSt → Nat → Nat → Int32 → Int32 × HSt} {pg : HSt → Nat → Nat → Int32 → Prop} (hE : EV S B) (hc4 : c ≤ 4) (hn : n ≤ 5) (hk : d + 1 + k = n) (hk0 : 0 < k) (hG : SPEC S B K c n A k (d + 1) g pg) (h : SY S B K c n S' d x) (hv : VX S K d x N) (hN : N + (k + 1) ≤ 1999) (hst : f_X12_isStill (ly B x.1) 64 = 0) (hm : m < 6) {up lt tn : Int32} (hup : up = nI (m / 2 + 1)) (hlt : lt = if m % 2 = 0 then 4 else 8) (htn : tn = tnd (x.1 1) up (x.1 3)) (ho : ROWO S' d o) :
    pg (nx3 S' d up lt tn) 43 18 (nI (d + 1)) ∧ p_X2_offer (g (nx3 S' d up lt tn) 43 18 (nI (d + 1))).2 43 (nI d) (nI m) (g (nx3 S' d up lt tn) 43 18 (nI (d + 1))).1 ∧ SY S B K c n (f_X2_offer (g (nx3 S' d up lt tn) 43 18 (nI (d + 1))).2 43 (nI d) (nI m) (g (nx3 S' d up lt tn) 43 18 (nI (d + 1))).1) d x ∧ FrC n d S' (f_X2_offer (g (nx3 S' d up lt tn) 43 18 (nI (d + 1))).2 43 (nI d) (nI m) (g (nx3 S' d up lt tn) 43 18 (nI (d + 1))).1) ∧ ROWO (f_X2_offer (g (nx3 S' d up lt tn) 43 18 (nI (d + 1))).2 43 (nI d) (nI m) (g (nx3 S' d up lt tn) 43 18 (nI (d + 1))).1) d (offO o (it6 B A k x m)) := by
  have hmay : may6 B x m = true := by
    unfold may6
    rw [if_pos hm]
    exact decide_eq_true hst
  obtain ⟨-, n2, n3, n4⟩ := nx_at hE h hv (by omega) (by omega) hst hm hup hlt htn
  have hv' := hv.st hE hc4 (by omega) (m := m) (by omega) hmay
  obtain ⟨g1, g2, g3, g4, g5⟩ := hG _ _ _ n2 hv' (by omega)
  generalize nx3 S' d up lt tn = R3 at n2 n3 n4 g1 g2 g3 g4 g5 ⊢
  generalize g R3 43 18 (nI (d + 1)) = R at g2 g3 g4 g5 ⊢
  have hlen := bs6_len B A k (stp6 B x m)
  have f1 : FrC n d S' R.2 := by
    refine FrC.trans (U := R3) ⟨fun y _ _ _ _ _ h6 => n3 y (by omega), fun k _ => by rw [n3 52 (by omega)], fun k _ => by rw [n3 53 (by omega)]⟩ g3.dn
  have ho' : ROWO R.2 d o := ho.of (by rw [g3.2.1 d (by omega), n3 52 (by omega)]) (by rw [g3.2.2 d (by omega), n3 53 (by omega)]) (by rw [g3.1 (46 + d) (by omega) (by omega) (by omega) (by omega) (by omega) (by omega), n3 (46 + d) (by omega)])
  obtain ⟨o1, o2, o3⟩ := offer_at (d := d) (by omega) (by omega) g4.1 ho' m R.1
  have hw : R.1.toInt = (bs6 B A k (stp6 B x m)).1 := by rw [g5]; exact g4.2
  have eit : it6 B A k x m = some (R.1.toInt, m :: (bs6 B A k (stp6 B x m)).2) := by
    unfold it6
    rw [if_pos hmay, hw]
    unfold gn6
    rw [if_pos hm, Int.zero_add]
  rw [← eit] at o2
  have f2 : FrC n d S' (f_X2_offer R.2 43 (nI d) (nI m) R.1) := f1.trans ⟨fun y h1 h2 h3 h4 h5 h6 => by funext j; exact o3 y j (by omega) (by omega) (by omega), fun j hj => o3 52 j (by omega) (by omega) (by omega), fun j hj => o3 53 j (by omega) (by omega) (by omega)⟩
  refine ⟨g1, o1, h.fr (by omega) f2 (g2.of ?_ ?_ ?_ ?_ (q_X2_offer _ _ _ _ _)), f2, o2⟩
  · funext j; exact o3 18 j (by omega) (by omega) (by omega)
  · funext j; exact o3 20 j (by omega) (by omega) (by omega)
  · funext j; exact o3 21 j (by omega) (by omega) (by omega)
  · funext j; exact o3 54 j (by omega) (by omega) (by omega)
theorem lets_at {S B S' : HSt} {K : Int32} {c n d N u k A : Nat} {x : (Nat → Int32) × Nat} {o : WRo} {g : HSt → Nat → Nat → Int32 → Int32 × HSt} {pg : HSt → Nat → Nat → Int32 → Prop} (hE : EV S B) (hc4 : c ≤ 4) (hn : n ≤ 5) (hk : d + 1 + k = n) (hk0 : 0 < k) (hG : SPEC S B K c n A k (d + 1) g pg) (h : SY S B K c n S' d x) (hv : VX S K d x N) (hN : N + (k + 1) ≤ 1999) (hst : f_X12_isStill (ly B x.1) 64 = 0) (hu : u < 3) {tn : Int32} (htn : tn = tnd (x.1 1) (nI (u + 1)) (x.1 3)) (ho : ROWO S' d o) :
    p_X2_tryLets g pg S' 43 18 (nI d) (nI u) tn ∧ SY S B K c n (f_X2_tryLets g S' 43 18 (nI d) (nI u) tn) d x ∧ FrC n d S' (f_X2_tryLets g S' 43 18 (nI d) (nI u) tn) ∧ ROWO (f_X2_tryLets g S' 43 18 (nI d) (nI u) tn) d (offO (offO o (it6 B A k x (2 * u))) (it6 B A k x (2 * u + 1))) := by
  have ed : (nI d).toNatClampNeg = d := nI_clamp' (by omega)
  have ed1 : (nI d + 1).toNatClampNeg = d + 1 := by rw [nsucc]; exact nI_clamp' (by omega)
  have v6 : vp_in (nI d) 6 := vp_in_nI (by omega) (by omega)
  have v7 : vp_in (nI d + 1) 6 := by rw [nsucc]; exact vp_in_nI (by omega) (by omega)
  have eu : (nI u + 1 : Int32) = nI (u + 1) := nsucc u
  have hmv : ∀ l, l < 2 → ((2 : Int32) * nI u) + nI l = nI (2 * u + l) := fun l _ => by
    rw [show (2 : Int32) = nI 2 from rfl, pk_mul, nI_add]
  have m0 : ((2 : Int32) * nI u) + 0 = nI (2 * u) := hmv 0 (by omega)
  have m1 : ((2 : Int32) * nI u) + 1 = nI (2 * u + 1) := hmv 1 (by omega)
  have t0 : (4 : Int32) + 4 * 0 = if (2 * u) % 2 = 0 then 4 else 8 := by rw [if_pos (by omega)]; rfl
  have t1 : (4 : Int32) + 4 * 1 = if (2 * u + 1) % 2 = 0 then 4 else 8 := by rw [if_neg (by omega)]; rfl
  have u0 : (nI u + 1 : Int32) = nI ((2 * u) / 2 + 1) := by rw [eu, show 2 * u / 2 = u by omega]
  have u1 : (nI u + 1 : Int32) = nI ((2 * u + 1) / 2 + 1) := by rw [eu, show (2 * u + 1) / 2 = u by omega]
  rw [← eu] at htn
  -- the first
  have N0 := nx_at hE h hv (by omega) (by omega) hst (m := 2 * u) (by omega) u0 t0 htn
  have E0 := exp_t hE hc4 hn hk hk0 hG h hv hN hst (m := 2 * u) (by omega) u0 t0 htn ho
  have hz0 : gI (nx3 S' d (nI u + 1) (4 + 4 * 0) tn) (56 + (d + 1)) 0 = (stp6 B x (2 * u)).1 0 := N0.2.1.2.2.2.1.1
  have hmay : may6 B x (2 * u) = true := by
    unfold may6
    rw [if_pos (by omega)]
    exact decide_eq_true hst
  have hne0 : ¬ gI (nx3 S' d (nI u + 1) (4 + 4 * 0) tn) (56 + (d + 1)) 0 = -1 := fun q => by
    rw [hz0] at q
    have := (hv.st hE hc4 (by omega) (m := 2 * u) (by omega) hmay).1.1.1
    rw [q] at this
    exact absurd this (by decide)
  -- the loop, round by round
  have g0 : ¬ (1 : Int32) < 0 := by decide
  have g1 : ¬ (1 : Int32) < 1 := by decide
  have g2 : (1 : Int32) < 2 := by decide
  have z1 : (0 : Int32) + 1 = 1 := by decide
  have z2 : (1 : Int32) + 1 = 2 := by decide
  have hL : ∀ S2 X, L_X2_tryLets_16 g 18 (56 + (d + 1)) 998 S2 (nI d) (nI u) tn X 2 = (nI d, nI u, tn, X, 2, S2) := fun S2 X => by
    show L_X2_tryLets_16 g 18 (56 + (d + 1)) (997 + 1) S2 (nI d) (nI u) tn X 2 = _
    rw [L_X2_tryLets_16, if_pos g2]
    rfl
  have hT : ∀ S2 X, T_X2_tryLets_16 g pg 18 (56 + (d + 1)) 998 S2 (nI d) (nI u) tn X 2 := fun S2 X => by
    show T_X2_tryLets_16 g pg 18 (56 + (d + 1)) (997 + 1) S2 (nI d) (nI u) tn X 2
    rw [T_X2_tryLets_16]
    exact ⟨fun q => absurd g2 q, fun q => absurd g2 q, fun q => absurd g2 q, fun q => absurd g2 q, fun q => absurd g2 q⟩
  have e16 : f_X2_tryLets g S' 43 18 (nI d) (nI u) tn = (L_X2_tryLets_16 g 18 (56 + (d + 1)) (999 + 1) S' (nI d) (nI u) tn (-1) 0).2.2.2.2.2 := by
    unfold f_X2_tryLets
    rw [bd_def, ed1]
  have p16 : T_X2_tryLets_16 g pg 18 (56 + (d + 1)) (999 + 1) S' (nI d) (nI u) tn (-1) 0 → p_X2_tryLets g pg S' 43 18 (nI d) (nI u) tn := fun q => by
    unfold p_X2_tryLets
    rw [ed1]
    exact ⟨v7, q⟩
  obtain ⟨a1, a2, a3, a4, a5⟩ := E0
  rw [← nsucc] at a1 a2 a3 a4 a5
  have L0 : L_X2_tryLets_16 g 18 (56 + (d + 1)) (999 + 1) S' (nI d) (nI u) tn (-1) 0 = L_X2_tryLets_16 g 18 (56 + (d + 1)) (998 + 1) (f_X2_offer (g (nx3 S' d (nI u + 1) (4 + 4 * 0) tn) 43 18 (nI d + 1)).2 43 (nI d) (nI (2 * u)) (g (nx3 S' d (nI u + 1) (4 + 4 * 0) tn) 43 18 (nI d + 1)).1) (nI d) (nI u) tn (gI (nx3 S' d (nI u + 1) (4 + 4 * 0) tn) (56 + (d + 1)) 0) 1 := by
    rw [L_X2_tryLets_16, if_neg g0]
    simp only [bd_def]
    rw [ed, show f_X1_advance (f_X1_copyFrom S' (56 + (d + 1)) (56 + d)) (56 + (d + 1)) 18 0 (nI u + 1) (4 + 4 * 0) tn = nx3 S' d (nI u + 1) (4 + 4 * 0) tn from rfl, if_neg hne0, if_neg hne0, z1, m0]
  have T0 : T_X2_tryLets_16 g pg 18 (56 + (d + 1)) (998 + 1) (f_X2_offer (g (nx3 S' d (nI u + 1) (4 + 4 * 0) tn) 43 18 (nI d + 1)).2 43 (nI d) (nI (2 * u)) (g (nx3 S' d (nI u + 1) (4 + 4 * 0) tn) 43 18 (nI d + 1)).1) (nI d) (nI u) tn (gI (nx3 S' d (nI u + 1) (4 + 4 * 0) tn) (56 + (d + 1)) 0) 1 → T_X2_tryLets_16 g pg 18 (56 + (d + 1)) (999 + 1) S' (nI d) (nI u) tn (-1) 0 := fun q => by
    rw [T_X2_tryLets_16]
    rw [ed]
    simp only [bd_def]
    refine ⟨fun _ => v6, fun _ => N0.1, fun _ r2 e2 r3 e3 _ X eX => ?_, fun _ r2 e2 r3 e3 _ X eX r6 e6 => ?_, fun _ r2 e2 r3 e3 X eX S2 eS => ?_⟩
    · rw [← e3, ← e2]; exact a1
    · rw [← e6, ← e3, ← e2, m0]; exact a2
    · rw [← e3, ← e2, show f_X1_advance (f_X1_copyFrom S' (56 + (d + 1)) (56 + d)) (56 + (d + 1)) 18 0 (nI u + 1) (4 + 4 * 0) tn = nx3 S' d (nI u + 1) (4 + 4 * 0) tn from rfl, if_neg hne0] at eX eS
      rw [← eX, ← eS, z1, m0]
      exact q
  rw [e16, L0]
  rw [hz0] at T0 ⊢
  generalize f_X2_offer (g (nx3 S' d (nI u + 1) (4 + 4 * 0) tn) 43 18 (nI d + 1)).2 43 (nI d) (nI (2 * u)) (g (nx3 S' d (nI u + 1) (4 + 4 * 0) tn) 43 18 (nI d + 1)).1 = S1 at a3 a4 a5 T0 ⊢
  -- the second
  have N1 := nx_at hE a3 hv (by omega) (by omega) hst (m := 2 * u + 1) (by omega) u1 t1 htn
  have E1 := exp_t hE hc4 hn hk hk0 hG a3 hv hN hst (m := 2 * u + 1) (by omega) u1 t1 htn a5
  obtain ⟨b1, b2, b3, b4, b5⟩ := E1
  rw [← nsucc] at b1 b2 b3 b4 b5
  have hz1 : gI (nx3 S1 d (nI u + 1) (4 + 4 * 1) tn) (56 + (d + 1)) 0 = (stp6 B x (2 * u + 1)).1 0 := N1.2.1.2.2.2.1.1
  by_cases hq : (stp6 B x (2 * u + 1)).1 0 = (stp6 B x (2 * u)).1 0
  · have L1 : L_X2_tryLets_16 g 18 (56 + (d + 1)) (998 + 1) S1 (nI d) (nI u) tn ((stp6 B x (2 * u)).1 0) 1 = (nI d, nI u, tn, (stp6 B x (2 * u)).1 0, 2, nx3 S1 d (nI u + 1) (4 + 4 * 1) tn) := by
      rw [L_X2_tryLets_16, if_neg g1]
      simp only [bd_def]
      rw [ed, show f_X1_advance (f_X1_copyFrom S1 (56 + (d + 1)) (56 + d)) (56 + (d + 1)) 18 0 (nI u + 1) (4 + 4 * 1) tn = nx3 S1 d (nI u + 1) (4 + 4 * 1) tn from rfl, hz1, if_pos hq, if_pos hq, z2]
      exact hL _ _
    have T1 : T_X2_tryLets_16 g pg 18 (56 + (d + 1)) (998 + 1) S1 (nI d) (nI u) tn ((stp6 B x (2 * u)).1 0) 1 := by
      rw [T_X2_tryLets_16]
      rw [ed]
      simp only [bd_def]
      refine ⟨fun _ => v6, fun _ => N1.1, fun _ r2 e2 r3 e3 nq => ?_, fun _ r2 e2 r3 e3 nq => ?_, fun _ r2 e2 r3 e3 X eX S2 eS => ?_⟩
      · rw [← e3, ← e2] at nq; exact absurd (hz1.trans hq) nq
      · rw [← e3, ← e2] at nq; exact absurd (hz1.trans hq) nq
      · rw [z2]; exact hT _ _
    rw [L1]
    have est : stp6 B x (2 * u + 1) = stp6 B x (2 * u) := stp_eq (by omega) (by omega) (by rw [← u0, ← u1]) hq
    have hmay1 : may6 B x (2 * u + 1) = true := by
      unfold may6
      rw [if_pos (by omega)]
      exact decide_eq_true hst
    have eo : offO (offO o (it6 B A k x (2 * u))) (it6 B A k x (2 * u + 1)) = offO o (it6 B A k x (2 * u)) := by
      rw [offO_assoc]
      congr 1
      unfold it6
      rw [if_pos hmay, if_pos hmay1, est]
      unfold gn6
      rw [if_pos (by omega), if_pos (by omega)]
      exact offO_abs rfl (Int.le_refl _)
    rw [eo]
    have f1 : FrC n d S1 (nx3 S1 d (nI u + 1) (4 + 4 * 1) tn) := ⟨fun y _ _ _ _ _ h6 => N1.2.2.1 y (by omega), fun k _ => by rw [N1.2.2.1 52 (by omega)], fun k _ => by rw [N1.2.2.1 53 (by omega)]⟩
    exact ⟨p16 (T0 T1), a3.fr (by omega) f1 N1.2.1.1, a4.trans f1, a5.of (by rw [N1.2.2.1 52 (by omega)]) (by rw [N1.2.2.1 53 (by omega)]) (N1.2.2.1 (46 + d) (by omega))⟩
  · have L1 : L_X2_tryLets_16 g 18 (56 + (d + 1)) (998 + 1) S1 (nI d) (nI u) tn ((stp6 B x (2 * u)).1 0) 1 = (nI d, nI u, tn, (stp6 B x (2 * u + 1)).1 0, 2, f_X2_offer (g (nx3 S1 d (nI u + 1) (4 + 4 * 1) tn) 43 18 (nI d + 1)).2 43 (nI d) (nI (2 * u + 1)) (g (nx3 S1 d (nI u + 1) (4 + 4 * 1) tn) 43 18 (nI d + 1)).1) := by
      rw [L_X2_tryLets_16, if_neg g1]
      simp only [bd_def]
      rw [ed, show f_X1_advance (f_X1_copyFrom S1 (56 + (d + 1)) (56 + d)) (56 + (d + 1)) 18 0 (nI u + 1) (4 + 4 * 1) tn = nx3 S1 d (nI u + 1) (4 + 4 * 1) tn from rfl, hz1, if_neg hq, if_neg hq, z2, m1]
      exact hL _ _
    have T1 : T_X2_tryLets_16 g pg 18 (56 + (d + 1)) (998 + 1) S1 (nI d) (nI u) tn ((stp6 B x (2 * u)).1 0) 1 := by
      rw [T_X2_tryLets_16]
      rw [ed]
      simp only [bd_def]
      refine ⟨fun _ => v6, fun _ => N1.1, fun _ r2 e2 r3 e3 _ X eX => ?_, fun _ r2 e2 r3 e3 _ X eX r6 e6 => ?_, fun _ r2 e2 r3 e3 X eX S2 eS => ?_⟩
      · rw [← e3, ← e2]; exact b1
      · rw [← e6, ← e3, ← e2, m1]; exact b2
      · rw [z2]; exact hT _ _
    rw [L1]
    exact ⟨p16 (T0 T1), b3, a4.trans b4, b5⟩
