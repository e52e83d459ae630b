-- needs: 9o.ticks
/-! ===== moves: throws of the class's search ===== -/
theorem stp_h2 (B : HSt) (x : (Nat → Int32) × Nat) (b : Nat) : stp6 B x (6 + 2 * b + 1) = stp6 B x (6 + 2 * b) := by
  unfold stp6
  rw [if_neg (by omega), if_neg (by omega), show (6 + 2 * b + 1 - 6) / 2 = b by omega, show (6 + 2 * b - 6) / 2 = b by omega]
theorem stp_h3 (B : HSt) (x : (Nat → Int32) × Nat) (b : Nat) : (stp6 B x (6 + 2 * b)).2 = x.2 ||| 2 ^ b := by
  unfold stp6
  rw [if_neg (by omega), show (6 + 2 * b - 6) / 2 = b by omega]
theorem may_h {B : HSt} {x : (Nat → Int32) × Nat} {b : Nat} (e : Nat) (he : e < 2) : may6 B x (6 + 2 * b + e) = !x.2.testBit b := by
  unfold may6
  rw [if_neg (by omega), show (6 + 2 * b + e - 6) / 2 = b by omega]
theorem behind_at {S B S' : HSt} {K : Int32} {c n d N k A b : Nat} {x : (Nat → Int32) × Nat} {g : HSt → Nat → Nat → Int32 → Int32 × HSt} {pg : HSt → Nat → Nat → Int32 → Prop} (hE : EV S B) (hc4 : c ≤ 4) (hn : n ≤ 5) (hk : d + 1 + k = n) (hG : 0 < k → SPEC S B K c n A k (d + 1) g pg) (h : SY S B K c n S' d x) (hv : VX S K d x N) (hN : N + (k + 1) ≤ 1999) (hb : b < c) (hbit : x.2.testBit b = false) :
    p_X2_seekBehindThrow g pg S' 43 18 (nI d) (nI b) ∧ (f_X2_seekBehindThrow g S' 43 18 (nI d) (nI b)).1.toInt = (bs6 B A k (stp6 B x (6 + 2 * b))).1 ∧ RB (f_X2_seekBehindThrow g S' 43 18 (nI d) (nI b)).2 (d + 1) (bs6 B A k (stp6 B x (6 + 2 * b))).2 ∧ SY S B K c n (f_X2_seekBehindThrow g S' 43 18 (nI d) (nI b)).2 d x ∧ FrC n d S' (f_X2_seekBehindThrow g S' 43 18 (nI d) (nI b)).2 ∧ (gI (f_X2_seekBehindThrow g S' 43 18 (nI d) (nI b)).2 52 d = gI S' 52 d ∧ gI (f_X2_seekBehindThrow g S' 43 18 (nI d) (nI b)).2 53 d = gI S' 53 d ∧ gI (f_X2_seekBehindThrow g S' 43 18 (nI d) (nI b)).2 (46 + d) = gI S' (46 + d)) := by
  have ed : (nI d).toNatClampNeg = d := nI_clamp' (by omega)
  have ed1 : (nI d + 1).toNatClampNeg = d + 1 := by rw [nsucc]; exact nI_clamp' (by omega)
  have v6 : vp_in (nI d) 6 := vp_in_nI (by omega) (by omega)
  have v7 : vp_in (nI d + 1) 6 := by rw [nsucc]; exact vp_in_nI (by omega) (by omega)
  have hm1 : gI S' 43 6 - 1 = nI (n - 1) := by
    rw [h.2.1, ti_eq, ti_sub (by rw [nI_ti (by omega), ti1]; omega) (by rw [nI_ti (by omega), ti1]; omega), nI_ti (by omega), nI_ti (by omega), ti1]
    omega
  have hdn : nI d = nI (n - 1) ↔ d = n - 1 := by
    rw [ti_eq, nI_ti (by omega), nI_ti (by omega)]; omega
  unfold p_X2_seekBehindThrow f_X2_seekBehindThrow
  rw [ed1, ed, hm1]
  by_cases hl : d = n - 1
  · have e := hdn.mpr hl
    rw [if_pos e]
    have k0 : k = 0 := by omega
    subst k0
    refine ⟨⟨fun q => absurd e q, fun q => absurd e q, fun q => absurd e q, fun q => absurd e q⟩, rfl, ⟨?_, fun i hi => absurd hi (Nat.not_lt_zero _)⟩, h, FrC.refl _ _ _, rfl, rfl, rfl⟩
    rw [pr_2, show d + 1 = n by omega]
    exact h.2.2.2.2
  · have e : ¬ nI d = nI (n - 1) := fun q => hl (hdn.mp q)
    rw [if_neg e]
    simp only [bd_def]
    have hk0 : 0 < k := by omega
    obtain ⟨c1, c2⟩ := cp_at (S' := S') (o := 56 + (d + 1)) (lp := 56 + d) (by omega)
    have h6c : L6 (gI (f_X1_copyFrom S' (56 + (d + 1)) (56 + d)) (56 + (d + 1))) x.1 := by
      obtain ⟨k0, k1, k2, k3, k4, k6⟩ := h.2.2.2.1
      exact ⟨(c1 0 (by omega)).trans k0, (c1 1 (by omega)).trans k1, (c1 2 (by omega)).trans k2, (c1 3 (by omega)).trans k3, (c1 4 (by omega)).trans k4, (c1 6 (by omega)).trans k6⟩
    have h6f : L6 (gI (f_X1_fallToHand (f_X1_copyFrom S' (56 + (d + 1)) (56 + d)) (56 + (d + 1))) (56 + (d + 1))) (stp6 B x (6 + 2 * b)).1 := shut_6c h6c (by omega)
    have ff := v_X1_fallToHand (f_X1_copyFrom S' (56 + (d + 1)) (56 + d)) (56 + (d + 1))
    have fr3 : ∀ y, y ≠ 56 + (d + 1) → gI (f_X1_fallToHand (f_X1_copyFrom S' (56 + (d + 1)) (56 + d)) (56 + (d + 1))) y = gI S' y := fun y hy => (fr_addr ff y (six_ne (fun q => hy q.symm))).trans (c2 y hy)
    have sh3 : shp (f_X1_fallToHand (f_X1_copyFrom S' (56 + (d + 1)) (56 + d)) (56 + (d + 1))) = shp S' := (q_X1_fallToHand _ _).trans (q_X1_copyFrom S' _ _)
    have pcp : p_X1_copyFrom S' (56 + (d + 1)) (56 + d) := p_cp (by omega) (by rw [h.2.2.2.1.2.2.2.2.2]; exact hv.1.2.2.2.2.2.1)
    have pgl : ∀ (Z : HSt), f_X1_fallToHand (f_X1_copyFrom S' (56 + (d + 1)) (56 + d)) (56 + (d + 1)) = Z → (pg (sI Z 43 8 (gI Z 43 8 ||| (1 : Int32) <<< (nI b &&& 31))) 43 18 (nI d + 1)) → ∀ r2, f_X1_copyFrom S' (56 + (d + 1)) (56 + d) = r2 → ∀ r3, f_X1_fallToHand r2 (56 + (d + 1)) = r3 → ∀ S4, sI r3 43 8 (gI r3 43 8 ||| (1 : Int32) <<< (nI b &&& 31)) = S4 → pg S4 43 18 (nI d + 1) := fun Z hZ q r2 e2 r3 e3 S4 e4 => by
      rw [← e4, ← e3, ← e2, hZ]
      exact q
    generalize f_X1_fallToHand (f_X1_copyFrom S' (56 + (d + 1)) (56 + d)) (56 + (d + 1)) = R3 at h6f fr3 sh3 pgl
    have hmay : may6 B x (6 + 2 * b) = true := by rw [show 6 + 2 * b = 6 + 2 * b + 0 from rfl, may_h 0 (by omega), hbit]; rfl
    have hv' := hv.st hE hc4 (by omega) (m := 6 + 2 * b) (by omega) hmay
    have e43 : gI R3 43 = gI S' 43 := fr3 43 (by omega)
    have hor : gI R3 43 8 ||| (1 : Int32) <<< (nI b &&& 31) = nI (x.2 ||| 2 ^ b) := by
      rw [e43, h.2.2.1]
      exact b_or x.2 (by have := hv.2.1; omega) b (by omega)
    have pgl2 := pgl R3 rfl
    rw [hor] at pgl2 ⊢
    have hSY : SY S B K c n (sI R3 43 8 (nI (x.2 ||| 2 ^ b))) (d + 1) (stp6 B x (6 + 2 * b)) := by
      have q : ∀ y, y ≠ 43 → y ≠ 56 + (d + 1) → gI (sI R3 43 8 (nI (x.2 ||| 2 ^ b))) y = gI S' y := fun y h1 h2 => (gs_ne h1).trans (fr3 y h2)
      refine ⟨h.1.of (q 18 (by omega) (by omega)) (q 20 (by omega) (by omega)) (q 21 (by omega) (by omega)) (q 54 (by omega) (by omega)) ((shp_sI _ _ _ _).trans sh3), ?_, ?_, ?_, ?_⟩
      · rw [gs_o (by decide), e43]; exact h.2.1
      · rw [gs_eq, if_pos rfl, stp_h3]
      · rw [gs_ne (by omega)]; exact h6f
      · rw [q 52 (by omega) (by omega)]; exact h.2.2.2.2
    obtain ⟨g1, g2, g3, g4, g5⟩ := hG hk0 _ _ _ hSY hv' (by omega)
    rw [← nsucc] at g1 g2 g3 g4 g5
    have pgl' := pgl2 g1
    generalize g (sI R3 43 8 (nI (x.2 ||| 2 ^ b))) 43 18 (nI d + 1) = R at g2 g3 g4 g5 ⊢
    have e43' : gI R.2 43 = gI (sI R3 43 8 (nI (x.2 ||| 2 ^ b))) 43 := g3.1 43 (by omega) (by omega) (by omega) (by omega) (by omega) (by omega)
    have hcl : gI R.2 43 8 &&& (((1 : Int32) <<< (nI b &&& 31)) ^^^ (-1 : Int32)) = nI x.2 := by
      rw [e43', gs_eq, if_pos rfl]
      exact b_clr x.2 (by have := hv.2.1; omega) b (by omega) hbit
    rw [hcl, pr_1, pr_2]
    have h43 : gI (sI R.2 43 8 (nI x.2)) 43 = gI S' 43 := by
      funext j
      rw [gs_eq]
      by_cases q : j = 8
      · rw [if_pos q, q, h.2.2.1]
      · rw [if_neg q, e43', gs_o q, e43]
    have hq : ∀ y, y ≠ 43 → gI (sI R.2 43 8 (nI x.2)) y = gI R.2 y := fun y hy => gs_ne hy
    have hR3 : ∀ y, y ≠ 43 → y ≠ 56 + (d + 1) → gI (sI R3 43 8 (nI (x.2 ||| 2 ^ b))) y = gI S' y := fun y h1 h2 => (gs_ne h1).trans (fr3 y h2)
    have f2 : FrC n d S' (sI R.2 43 8 (nI x.2)) := by
      refine ⟨fun y h1 h2 h3 h4 h5 h6 => ?_, fun j hj => ?_, fun j hj => ?_⟩
      · by_cases q : y = 43
        · subst q; exact h43
        · rw [hq y q, g3.1 y h1 h2 h3 h4 (by omega) (by omega), hR3 y q (by omega)]
      · rw [hq 52 (by omega), g3.2.1 j (by omega), hR3 52 (by omega) (by omega)]
      · rw [hq 53 (by omega), g3.2.2 j (by omega), hR3 53 (by omega) (by omega)]
    refine ⟨⟨fun _ => v7, fun _ => v6, fun _ => pcp, fun _ => pgl'⟩, ?_, ⟨?_, fun i hi => ?_⟩, h.fr (by omega) f2 (g2.of (hq 18 (by omega)) (hq 20 (by omega)) (hq 21 (by omega)) (hq 54 (by omega)) (shp_sI _ _ _ _)), f2, ?_, ?_, ?_⟩
    · rw [g5]; exact g4.2
    · rw [hq 52 (by omega)]; exact g4.1.1
    · rw [hq (46 + (d + 1)) (by omega)]; exact g4.1.2 i hi
    · rw [hq 52 (by omega), g3.2.1 d (by omega), hR3 52 (by omega) (by omega)]
    · rw [hq 53 (by omega), g3.2.2 d (by omega), hR3 53 (by omega) (by omega)]
    · rw [hq (46 + d) (by omega), g3.1 (46 + d) (by omega) (by omega) (by omega) (by omega) (by omega) (by omega), hR3 (46 + d) (by omega) (by omega)]
