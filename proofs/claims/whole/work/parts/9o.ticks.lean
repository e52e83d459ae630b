-- needs: 9n.lets
theorem still_L (B : HSt) (L : Nat → Int32) : f_X12_isStill (ly B L) 64 = stF (L 0) (L 5) := by
  have a : ∀ U, f_X12_isStill U 64 = if WL U 5 = 0 then (if WL U 0 = 0 then 1 else 0) else 1 := fun U => rfl
  rw [a, ly_W B L 5 (by omega), ly_W B L 0 (by omega)]
  rfl
theorem stp_eq2 {B : HSt} {x : (Nat → Int32) × Nat} {m m' : Nat} (h : m < 6) (h' : m' < 6) (hp : m % 2 = m' % 2) (hs : tnm (x.1 1) (nI (m / 2 + 1)) (x.1 3) = tnm (x.1 1) (nI (m' / 2 + 1)) (x.1 3)) : stp6 B x m = stp6 B x m' := by
  refine stp_eq h h' hs ?_
  have c1 : gI (ly B x.1) 64 21 = x.1 1 := ly_W B x.1 1 (by omega)
  have c3 : gI (ly B x.1) 64 23 = x.1 3 := ly_W B x.1 3 (by omega)
  rw [stp_lo B x h 0 (by omega), stp_lo B x h' 0 (by omega)]
  unfold WL
  show gI _ 64 20 = gI _ 64 20
  rw [tck_20, tck_20, c1, c3, hs, hp]
theorem it_lo {B : HSt} {A k m : Nat} {x : (Nat → Int32) × Nat} (hst : f_X12_isStill (ly B x.1) 64 = 0) (hm : m < 6) : it6 B A k x m = some ((bs6 B A k (stp6 B x m)).1, m :: (bs6 B A k (stp6 B x m)).2) := by
  unfold it6 may6 gn6
  rw [if_pos hm, if_pos hm, if_pos (decide_eq_true hst), Int.zero_add]
/-- an item that is worth what one before was -/
theorem scn_abs {f : Nat → WRo} {n i : Nat} {v : Int} {r r' : List Nat} (hi : i < n) (h : f i = some (v, r)) (h' : f n = some (v, r')) : scn f (n + 1) 0 = scn f n 0 := by
  obtain ⟨w, q, e, hw⟩ := scn_dom n 0 i (Nat.zero_le _) (by omega) h
  rw [scn_one, h']
  exact offO_abs e hw
theorem scn_sk2 {B : HSt} {A k u : Nat} {x : (Nat → Int32) × Nat} (hst : f_X12_isStill (ly B x.1) 64 = 0) (hu : u + 1 < 3) (hs : tnm (x.1 1) (nI (u + 1)) (x.1 3) = tnm (x.1 1) (nI (u + 2)) (x.1 3)) : scn (it6 B A k x) (2 * (u + 1) + 2) 0 = scn (it6 B A k x) (2 * (u + 1)) 0 := by
  have e0 : stp6 B x (2 * (u + 1)) = stp6 B x (2 * u) := stp_eq2 (by omega) (by omega) (by omega) (by rw [show 2 * (u + 1) / 2 + 1 = u + 2 by omega, show 2 * u / 2 + 1 = u + 1 by omega]; exact hs.symm)
  have e1 : stp6 B x (2 * (u + 1) + 1) = stp6 B x (2 * u + 1) := stp_eq2 (by omega) (by omega) (by omega) (by rw [show (2 * (u + 1) + 1) / 2 + 1 = u + 2 by omega, show (2 * u + 1) / 2 + 1 = u + 1 by omega]; exact hs.symm)
  rw [scn_abs (i := 2 * u + 1) (by omega) (it_lo hst (by omega)) (by rw [it_lo hst (by omega), e1]), scn_abs (i := 2 * u) (by omega) (it_lo hst (by omega)) (by rw [it_lo hst (by omega), e0])]
theorem tick_step {S B S1 : HSt} {K : Int32} {c n d N u k A : Nat} {x : (Nat → Int32) × Nat} {g : HSt → Nat → Nat → Int32 → Int32 × HSt} {pg : HSt → Nat → Nat → Int32 → Prop} (hE : EV S B) (hc4 : c ≤ 4) (hn : n ≤ 5) (hk : d + 1 + k = n) (hk0 : 0 < k) (hG : SPEC S B K c n A k (d + 1) g pg) (h : SY S B K c n S1 d x) (hv : VX S K d x N) (hN : N + (k + 1) ≤ 1999) (hst : f_X12_isStill (ly B x.1) 64 = 0) (hu : u < 3) {v4 : Int32} (hv4 : (u = 0 ∧ v4 = -1) ∨ (∃ t, u = t + 1 ∧ v4 = tnm (x.1 1) (nI u) (x.1 3))) (ho : ROWO S1 d (scn (it6 B A k x) (2 * u) 0)) (f : Nat) :
    ∃ S2, L_X2_tryTicks_39 g 18 (56 + d) (f + 1) S1 (nI d) v4 (nI u) = L_X2_tryTicks_39 g 18 (56 + d) f S2 (nI d) (tnm (x.1 1) (nI (u + 1)) (x.1 3)) (nI (u + 1)) ∧ (T_X2_tryTicks_39 g pg 18 (56 + d) f S2 (nI d) (tnm (x.1 1) (nI (u + 1)) (x.1 3)) (nI (u + 1)) → T_X2_tryTicks_39 g pg 18 (56 + d) (f + 1) S1 (nI d) v4 (nI u)) ∧ SY S B K c n S2 d x ∧ FrC n d S1 S2 ∧ ROWO S2 d (scn (it6 B A k x) (2 * (u + 1)) 0) := by
  have esp : f_X1_spinBy S1 (56 + d) (nI u + 1) = tnm (x.1 1) (nI (u + 1)) (x.1 3) := by
    show f_X1_turned S1 (gI S1 (56 + d) 1) (nI u + 1) (gI S1 (56 + d) 3) = _
    rw [turned_eq, tnd_eq, h.2.2.2.1.2.1, h.2.2.2.1.2.2.2.1, nsucc]
  have nu : ¬ (2 : Int32) < nI u := by rw [ti_lt, nI_ti (by omega), show (2 : Int32).toInt = 2 from rfl]; omega
  by_cases hq : tnm (x.1 1) (nI (u + 1)) (x.1 3) = v4
  · refine ⟨S1, ?_, fun q => ?_, h, FrC.refl _ _ _, ?_⟩
    · rw [L_X2_tryTicks_39, if_neg nu]
      simp only [bd_def]
      rw [esp, if_pos hq, if_pos hq, nsucc, hq]
    · rw [T_X2_tryTicks_39]
      simp only [bd_def]
      rw [esp]
      refine ⟨fun _ nq => absurd hq nq, fun _ X eX S2 eS => ?_⟩
      rw [if_pos hq] at eX eS
      rw [← eX, ← eS, nsucc, ← hq]
      exact q
    · rcases hv4 with ⟨-, e⟩ | ⟨t, rfl, e⟩
      · exfalso
        have := (tnm_bw (sp := x.1 1) (up := nI (u + 1)) hv.1.2.2.2.1.1).1
        rw [hq, e] at this
        exact absurd this (by decide)
      · rw [show 2 * (t + 1 + 1) = 2 * (t + 1) + 2 by omega, scn_sk2 hst hu (by rw [hq, e])]
        exact ho
  · obtain ⟨l1, l2, l3, l4⟩ := lets_at hE hc4 hn hk hk0 hG h hv hN hst hu (tn := tnm (x.1 1) (nI (u + 1)) (x.1 3)) (by rw [tnd_eq]) ho
    refine ⟨f_X2_tryLets g S1 43 18 (nI d) (nI u) (tnm (x.1 1) (nI (u + 1)) (x.1 3)), ?_, fun q => ?_, l2, l3, ?_⟩
    · rw [L_X2_tryTicks_39, if_neg nu]
      simp only [bd_def]
      rw [esp, if_neg hq, if_neg hq, nsucc]
    · rw [T_X2_tryTicks_39]
      simp only [bd_def]
      rw [esp]
      refine ⟨fun _ _ X eX => by rw [← eX]; exact l1, fun _ X eX S2 eS => ?_⟩
      rw [if_neg hq] at eX eS
      rw [← eX, ← eS, nsucc]
      exact q
    · rw [show 2 * (u + 1) = 2 * u + 1 + 1 by omega, scn_one, scn_one]
      exact l4
theorem ticks_at {S B S' : HSt} {K : Int32} {c n d N k A : Nat} {x : (Nat → Int32) × Nat} {g : HSt → Nat → Nat → Int32 → Int32 × HSt} {pg : HSt → Nat → Nat → Int32 → Prop} (hE : EV S B) (hc4 : c ≤ 4) (hn : n ≤ 5) (hk : d + 1 + k = n) (hG : 0 < k → SPEC S B K c n A k (d + 1) g pg) (h : SY S B K c n S' d x) (hv : VX S K d x N) (hN : N + (k + 1) ≤ 1999) (ho : ROWO S' d none) :
    p_X2_tryTicks g pg S' 43 18 (nI d) ∧ SY S B K c n (f_X2_tryTicks g S' 43 18 (nI d)) d x ∧ FrC n d S' (f_X2_tryTicks g S' 43 18 (nI d)) ∧ ROWO (f_X2_tryTicks g S' 43 18 (nI d)) d (scn (it6 B A k x) 6 0) := by
  have ed : (nI d).toNatClampNeg = d := nI_clamp' (by omega)
  have v6 : vp_in (nI d) 6 := vp_in_nI (by omega) (by omega)
  have hfa : f_X1_hasFallen S' (56 + d) = f_X12_isStill (ly B x.1) 64 := by
    rw [still_L]
    exact fallen_v h.2.2.2.1.1 h.2.2.2.1.2.2.2.2.2 (hv.1.size hE.2.2.2.1)
  have hm1 : gI S' 43 6 - 1 = nI (n - 1) := by
    rw [h.2.1, ti_eq, ti_sub (by rw [nI_ti (by omega), ti1]; omega) (by rw [nI_ti (by omega), ti1]; omega), nI_ti (by omega), nI_ti (by omega), ti1]
    omega
  have hdn : nI d = nI (n - 1) ↔ d = n - 1 := by
    rw [ti_eq, nI_ti (by omega), nI_ti (by omega)]; omega
  unfold p_X2_tryTicks f_X2_tryTicks
  rw [ed, hfa, hm1]
  by_cases hst : f_X12_isStill (ly B x.1) 64 = 0
  · rw [if_pos hst]
    by_cases hl : d = n - 1
    · rw [if_pos (hdn.mpr hl), bd_def]
      have k0 : k = 0 := by omega
      subst k0
      have hRB : RB S' (d + 1) [] := ⟨by rw [show d + 1 = n by omega]; exact h.2.2.2.2, fun i hi => absurd hi (Nat.not_lt_zero _)⟩
      obtain ⟨o1, o2, o3⟩ := offer_at (d := d) (by omega) (by simp) hRB ho 0 0
      have f2 : FrC n d S' (f_X2_offer S' 43 (nI d) (nI 0) 0) := ⟨fun y h1 h2 h3 h4 h5 h6 => by funext j; exact o3 y j (by omega) (by omega) (by omega), fun j hj => o3 52 j (by omega) (by omega) (by omega), fun j hj => o3 53 j (by omega) (by omega) (by omega)⟩
      refine ⟨⟨v6, fun _ nq => absurd (hdn.mpr hl) nq, fun _ _ => o1⟩, h.fr (by omega) f2 (h.1.of ?_ ?_ ?_ ?_ (q_X2_offer _ _ _ _ _)), f2, ?_⟩
      · funext j; exact o3 18 j (by omega) (by omega) (by omega)
      · funext j; exact o3 20 j (by omega) (by omega) (by omega)
      · funext j; exact o3 21 j (by omega) (by omega) (by omega)
      · funext j; exact o3 54 j (by omega) (by omega) (by omega)
      · have ei : ∀ m, m < 6 → it6 B A 0 x m = some (0, [m]) := fun m hm => by rw [it_lo hst hm]; rfl
        have e : scn (it6 B A 0 x) 6 0 = some (0, [0]) := by
          rw [scn_abs (i := 0) (by omega) (ei 0 (by omega)) (ei 5 (by omega)), scn_abs (i := 0) (by omega) (ei 0 (by omega)) (ei 4 (by omega)), scn_abs (i := 0) (by omega) (ei 0 (by omega)) (ei 3 (by omega)), scn_abs (i := 0) (by omega) (ei 0 (by omega)) (ei 2 (by omega)), scn_abs (i := 0) (by omega) (ei 0 (by omega)) (ei 1 (by omega)), scn_one, ei 0 (by omega)]
          rfl
        rw [e]
        exact o2
    · rw [if_neg (fun q => hl (hdn.mp q)), bd_def]
      have hk0 : 0 < k := by omega
      obtain ⟨S2, a1, a2, a3, a4, a5⟩ := tick_step hE hc4 hn hk hk0 (hG hk0) h hv hN hst (u := 0) (by omega) (Or.inl ⟨rfl, rfl⟩) ho 999
      obtain ⟨S3, b1, b2, b3, b4, b5⟩ := tick_step hE hc4 hn hk hk0 (hG hk0) a3 hv hN hst (u := 1) (by omega) (Or.inr ⟨0, rfl, rfl⟩) a5 998
      obtain ⟨S4, c1, c2, c3, c4, c5⟩ := tick_step hE hc4 hn hk hk0 (hG hk0) b3 hv hN hst (u := 2) (by omega) (Or.inr ⟨1, rfl, rfl⟩) b5 997
      have g2 : (2 : Int32) < nI (2 + 1) := by decide
      have hL : L_X2_tryTicks_39 g 18 (56 + d) (996 + 1) S4 (nI d) (tnm (x.1 1) (nI (2 + 1)) (x.1 3)) (nI (2 + 1)) = (nI d, tnm (x.1 1) (nI (2 + 1)) (x.1 3), nI (2 + 1), S4) := by
        rw [L_X2_tryTicks_39, if_pos g2]
        rfl
      have hT : T_X2_tryTicks_39 g pg 18 (56 + d) (996 + 1) S4 (nI d) (tnm (x.1 1) (nI (2 + 1)) (x.1 3)) (nI (2 + 1)) := by
        rw [T_X2_tryTicks_39]
        exact ⟨fun q => absurd g2 q, fun q => absurd g2 q⟩
      have e39 : L_X2_tryTicks_39 g 18 (56 + d) 1000 S' (nI d) (-1) 0 = (nI d, tnm (x.1 1) (nI (2 + 1)) (x.1 3), nI (2 + 1), S4) := a1.trans (b1.trans (c1.trans hL))
      rw [e39]
      exact ⟨⟨v6, fun _ _ => a2 (b2 (c2 hT)), fun _ q => absurd (hdn.mp q) hl⟩, c3, a4.trans (b4.trans c4), c5⟩
  · rw [if_neg hst]
    refine ⟨⟨v6, fun q => absurd q hst, fun q => absurd q hst⟩, h, FrC.refl _ _ _, ?_⟩
    have e : scn (it6 B A k x) 6 0 = none := scn_none 6 0 (fun i _ hi => by
      unfold it6 may6
      rw [if_pos (show i < 6 by omega), if_neg (by rw [decide_eq_false hst]; decide)])
    rw [e]
    exact ho
