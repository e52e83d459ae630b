-- needs: 9i.worth
theorem gL_shp {S T : HSt} (h : shp T = shp S) : gL T = gL S := congrArg (fun x => x.2.2.1) h
noncomputable def w9 (S' : HSt) (d b e p : Nat) (tick : Int32) : HSt := if gI S' 54 (ix d b e p) = -1 then sI (f_X9_likelyFrom S' 55 18 tick (nI p) (nI e) (nI b)).2 54 (ix d b e p) (f_X9_likelyFrom S' 55 18 tick (nI p) (nI e) (nI b)).1 else S'
theorem worth_v {S' : HSt} {d b e p : Nat} (hd : d < 5) (hb : b < 4) (he : e < 2) (hp : p < 16) (hl : gL S' 54 = 640) (h1 : gI S' (56 + d) 1 = nI p) : f_X2_worthOf S' 43 18 (nI d) (nI e) (nI b) = pr (f_X10_pointsFor (w9 S' d b e p (gI S' (56 + d) 4)) 19 (nI e) (gI (w9 S' d b e p (gI S' (56 + d) 4)) (56 + d) 4) (if f_X1_hasFallen (w9 S' d b e p (gI S' (56 + d) 4)) (56 + d) = 0 then (if gI (w9 S' d b e p (gI S' (56 + d) 4)) (56 + d) 0 < gI (w9 S' d b e p (gI S' (56 + d) 4)) 54 (ix d b e p) then 0 else 1) else 0)) (w9 S' d b e p (gI S' (56 + d) 4)) ∧ (p_X2_worthOf S' 43 18 (nI d) (nI e) (nI b) ↔ (gI S' 54 (ix d b e p) = -1 → p_X9_likelyFrom S' 55 18 (gI S' (56 + d) 4) (nI p) (nI e) (nI b)) ∧ p_X10_pointsFor (w9 S' d b e p (gI S' (56 + d) 4)) 19 (nI e) (gI (w9 S' d b e p (gI S' (56 + d) 4)) (56 + d) 4) (if f_X1_hasFallen (w9 S' d b e p (gI S' (56 + d) 4)) (56 + d) = 0 then (if gI (w9 S' d b e p (gI S' (56 + d) 4)) (56 + d) 0 < gI (w9 S' d b e p (gI S' (56 + d) 4)) 54 (ix d b e p) then 0 else 1) else 0)) := by
  have hi := ix_lt hd hb he hp
  have ed : (nI d).toNatClampNeg = d := nI_clamp' (by omega)
  have ei : (nI (ix d b e p)).toNatClampNeg = ix d b e p := nI_clamp' (by omega)
  have n1 : ¬ nI (ix d b e p) < 0 := by rw [ti_lt, ti0, nI_ti (by omega)]; omega
  have n2 : ¬ nI 640 ≤ nI (ix d b e p) := by rw [ti_le, nI_ti (by omega), nI_ti (by omega)]; omega
  have x4 : (if nI (ix d b e p) < 0 then (0 : Int32) else (if nI 640 ≤ nI (ix d b e p) then 0 else 1)) = 1 := by rw [if_neg n1, if_neg n2]
  have v6 : vp_in (nI d) 6 := vp_in_nI (by omega) (by omega)
  have vi : vp_in (nI (ix d b e p)) 640 := vp_in_nI (by omega) (by omega)
  have z1 : ¬ (1 : Int32) = 0 := by decide
  constructor
  · unfold f_X2_worthOf w9
    simp only [bd_def]
    rw [ed, h1, ix_eq hd hb he hp, hl, x4, if_neg z1, if_neg z1, ei]
  · unfold p_X2_worthOf w9
    simp only [bd_def]
    rw [ed, h1, ix_eq hd hb he hp, hl]
    constructor
    · rintro ⟨-, -, q3, -, -, q6⟩
      have q3' := q3 _ rfl _ x4 z1
      have q6' := q6 _ rfl _ x4 _ rfl _ rfl
      rw [if_neg z1, if_neg z1, ei] at q6'
      rw [ei] at q3'
      exact ⟨q3', q6'⟩
    · rintro ⟨q3, q6⟩
      refine ⟨v6, fun x ex _ _ _ => by rw [← ex]; exact vi, fun x ex y ey z => ?_, fun x ex _ _ _ _ _ _ => by rw [← ex]; exact vi, fun x ex _ _ _ _ _ _ => by rw [← ex]; exact vi, fun x ex y ey S9 e9 w ew => ?_⟩
      · rw [← ex, ei]; exact q3
      · subst ex
        rw [x4] at ey
        subst ey
        subst e9
        subst ew
        rw [if_neg z1, if_neg z1, ei]
        exact q6
theorem worth_at {S B S' : HSt} {K : Int32} {c d b e N s : Nat} {L : Nat → Int32} (hE : EV S B) (hc : (gI B 68 2).toInt = c) (hI : CI S B K c S') (hd : d < 5) (hb : b < c) (he : e < 2) (hN : N ≤ 2000) (hL : LB S N L) (h6 : L6 (gI S' (56 + d)) L) (h4 : L 4 = K + nI d) : p_X2_worthOf S' 43 18 (nI d) (nI e) (nI b) ∧ (f_X2_worthOf S' 43 18 (nI d) (nI e) (nI b)).1.toInt = gn6 B (L, s) (6 + 2 * b + e) ∧ CI S B K c (f_X2_worthOf S' 43 18 (nI d) (nI e) (nI b)).2 := by
  have hc4 : c ≤ 4 := by have := hE.2.1.1.2.2.1.2; omega
  obtain ⟨⟨i1, i2, i3⟩, i4, i5⟩ := hI
  obtain ⟨k0, k1, -, -, k4, k6⟩ := h6
  obtain ⟨p, hp, ep⟩ := nI_of_bw (x := L 1) (n := 16) hL.2.1.1 (by have := hL.2.1.2; omega) (by omega)
  obtain ⟨e1, e2⟩ := worth_v (S' := S') hd (show b < 4 by omega) he hp i4 (by rw [k1, ep])
  have fr := v_X2_worthOf S' 43 18 (nI d) (nI e) (nI b)
  have sh := q_X2_worthOf S' 43 18 (nI d) (nI e) (nI b)
  rw [e1, pr_2] at fr sh
  rw [e2, e1, pr_1, pr_2]
  rw [k4] at fr sh ⊢
  have th := th_of (S := S) (B := B) (S' := S') (K := K) hE hc i1 i3 hb he hp hN hL h4
  -- the entry is a threshold now
  have hTH : TH S B K d b e p (gI (w9 S' d b e p (L 4)) 54 (ix d b e p)) := by
    unfold w9
    by_cases q : gI S' 54 (ix d b e p) = -1
    · rw [if_pos q, gs_eq, if_pos rfl]; exact th.2
    · rw [if_neg q]
      rcases i5 d b e p hd hb he hp with h | h
      · exact absurd h q
      · exact h
  have hoth : ∀ d' b' e' p', d' < 5 → b' < c → e' < 2 → p' < 16 → gI (w9 S' d b e p (L 4)) 54 (ix d' b' e' p') = -1 ∨ TH S B K d' b' e' p' (gI (w9 S' d b e p (L 4)) 54 (ix d' b' e' p')) := fun d' b' e' p' hd' hb' he' hp' => by
    by_cases q : ix d' b' e' p' = ix d b e p
    · obtain ⟨rfl, rfl, rfl, rfl⟩ := ix_inj (by omega) he' hp' (by omega) he hp q
      exact Or.inr hTH
    · have : gI (w9 S' d b e p (L 4)) 54 (ix d' b' e' p') = gI S' 54 (ix d' b' e' p') := by
        unfold w9
        by_cases q2 : gI S' 54 (ix d b e p) = -1
        · rw [if_pos q2, gs_o q, fr_addr (v_X9_likelyFrom S' 55 18 (L 4) (nI p) (nI e) (nI b)) 54 (by decide)]
        · rw [if_neg q2]
      rw [this]
      exact i5 d' b' e' p' hd' hb' he' hp'
  generalize w9 S' d b e p (L 4) = U at fr sh hTH hoth
  have g18 : gI U 18 = gI S' 18 := fr_addr fr 18 (by decide)
  have g20 : gI U 20 = gI S' 20 := fr_addr fr 20 (by decide)
  have g21 : gI U 21 = gI S' 21 := fr_addr fr 21 (by decide)
  have gd : gI U (56 + d) = gI S' (56 + d) := fr_addr fr (56 + d) (by intro q hq; simp at hq; rcases hq with h | h | h | h | h | h | h | h | h <;> rw [h] <;> simp <;> omega)
  have hW : WayR (gI U 20) (gI U 21) (gI B 68) := by rw [g20, g21, i2, i3]; exact hE.1
  have hee : (nI e = 0 ∧ nI e = 0) ∨ (nI e = 1 ∧ nI e = 1) := by
    have : e = 0 ∨ e = 1 := by omega
    rcases this with rfl | rfl
    · exact Or.inl ⟨rfl, rfl⟩
    · exact Or.inr ⟨rfl, rfl⟩
  have he' : nI e = 0 ∨ nI e = 1 := by
    rcases hee with h | h
    · exact Or.inl h.1
    · exact Or.inr h.1
  rw [gd, k4, k0]
  have hfa : f_X1_hasFallen U (56 + d) = stF (L 0) (L 5) := fallen_v (by rw [gd]; exact k0) (by rw [gd]; exact k6) (hL.size hE.2.2.2.1)
  rw [hfa]
  obtain ⟨pp, pe⟩ := points_at hW (L 4) hee (if stF (L 0) (L 5) = 0 then (if L 0 < gI U 54 (ix d b e p) then 0 else 1) else 0)
  refine ⟨⟨fun _ => th.1, pp⟩, ?_, ⟨by rw [g18, i1], by rw [g20, i2], by rw [g21, i3]⟩, by rw [gL_shp sh, i4], hoth⟩
  rw [pe]
  have hT := (ly_E B L).tmod hE hL hN (i := b) (by omega) (by omega)
  obtain ⟨T, hC⟩ := ctos_ex B (nI e) (tD (gI B 68 (24 + 5 * b)) (gI S 18 7) (gI S 18 8) (L 4)) (gI B 68 (24 + 5 * b + 1)) (gI B 68 (24 + 5 * b + 2)) (gI B 68 (24 + 5 * b + 3)) (gI B 68 (24 + 5 * b + 4)) (gI S 18 9)
  obtain ⟨-, a2, -, a4, a5⟩ := oddsOf_at hT hC
  obtain ⟨-, ce⟩ := counts_at hT he' a2 a5
  have hg : gn6 B (L, s) (6 + 2 * b + e) = (f_X12_counts (ly B L) 64 (nI e) (nI b)).1.toInt := by
    unfold gn6
    rw [if_neg (by omega), show (6 + 2 * b + e) % 2 = e by omega, show (6 + 2 * b + e - 6) / 2 = b by omega]
  rw [hg, ce, (ly_E B L).1]
  congr 1
  by_cases q : L 4 ≤ gI B 68 68
  · rw [if_pos q, if_pos q]
    by_cases st : stF (L 0) (L 5) = 0
    · rw [if_pos st]
      have hiff := hTH L N hN hL ep h4 st
      by_cases q2 : L 0 < gI U 54 (ix d b e p)
      · rw [if_pos q2, if_pos rfl, if_pos (hiff.mp q2)]
      · rw [if_neg q2, if_neg (by decide), if_neg (fun z => q2 (hiff.mpr z))]
    · rw [if_neg st, if_pos rfl, a4 st, if_pos]
      have hw := (whole_bw hT.2.2.2.2.2.2.1.2.2).1
      rw [ti_lt]
      show (2 * 0 : Int32).toInt < _
      rw [show (2 * 0 : Int32).toInt = 0 from rfl]
      omega
  · rw [if_neg q, if_neg q]
