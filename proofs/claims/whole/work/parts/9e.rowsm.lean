-- needs: 9d.dfs
noncomputable def sk7 (U : HSt) : HSt := sI (sI (sI (f_X12_keepPath (f_X12_layLive (sI U 64 38 (-1000000)) 64) 64 0) 74 0 0) 75 0 0) 73 0 (-1)
theorem X6_le : ∀ c, c ≤ 4 → ∀ n, n ≤ 5 → X6 (6 + 2 * c) n ≤ 2000000 := by
  have h : ∀ c, c < 5 → ∀ n, n < 6 → X6 (6 + 2 * c) n ≤ 2000000 := by decide +kernel
  exact fun c hc n hn => h c (by omega) n (by omega)
theorem e62 {x : Int32} {c : Nat} (h : x.toInt = c) (hc : c ≤ 4) : (6 : Int32) + ((2 : Int32) * x) = nI (6 + 2 * c) := by
  have e : x = nI c := by rw [ti_eq, nI_ti (by omega)]; exact h
  rw [e, show (2 : Int32) = nI 2 from rfl, show (6 : Int32) = nI 6 from rfl, pk_mul, nI_add]
theorem rows_m {S B U : HSt} {N n c : Nat} (hn : n ≤ 5) (hN : N ≤ 1990) (hE : EV S B) (hc : (gI B 68 2).toInt = c) (h68 : gI U 68 = gI B 68) (h18 : gI U 64 18 = gI B 64 18) (h19 : gI U 64 19 = gI B 64 19) {L : Nat → Int32} (h71 : ∀ j, j < 6 → gI U 71 j = L j) (hL : LB S N L) : p_X12_seekRows U 64 (nI n) ∧ MB (f_X12_seekRows U 64 (nI n)) (some (bs6 B (6 + 2 * c) n (L, 0))) := by
  have hc4 : c ≤ 4 := by have := hE.2.1.1.2.2.1.2; omega
  have fl := v_X12_layLive (sI U 64 38 (-1000000)) 64
  have el := lay_at (sI U 64 38 (-1000000)) (by rw [gs_ne (by decide), h71 5 (by omega)]; exact hL.2.2.2.2.2.1)
  have w25 : Bz (gI (f_X12_layLive (sI U 64 38 (-1000000)) 64) 64 25) := by
    have := el 5 (by omega)
    rw [show gI (f_X12_layLive (sI U 64 38 (-1000000)) 64) 64 25 = WL (f_X12_layLive (sI U 64 38 (-1000000)) 64) 5 from rfl, this, gs_ne (by decide), h71 5 (by omega)]
    exact hL.2.2.2.2.2.1
  have hl68 : gI (f_X12_layLive (sI U 64 38 (-1000000)) 64) 68 = gI B 68 := (fr_addr fl 68 (by decide)).trans ((gs_ne (by decide)).trans h68)
  have hl64 : ∀ k, (k < 20 ∨ 26 < k) → k ≠ 1000 → gI (f_X12_layLive (sI U 64 38 (-1000000)) 64) 64 k = gI (sI U 64 38 (-1000000)) 64 k := fun k hk h1 => fl 64 k (by intro q; simp at q; omega) (by simp)
  have hl18 : gI (f_X12_layLive (sI U 64 38 (-1000000)) 64) 64 18 = gI B 64 18 := by rw [hl64 18 (by omega) (by decide), gs_o (by decide)]; exact h18
  have hl19 : gI (f_X12_layLive (sI U 64 38 (-1000000)) 64) 64 19 = gI B 64 19 := by rw [hl64 19 (by omega) (by decide), gs_o (by decide)]; exact h19
  have hl38 : gI (f_X12_layLive (sI U 64 38 (-1000000)) 64) 64 38 = -1000000 := by rw [hl64 38 (by omega) (by decide), gs_eq, if_pos rfl]
  have ee : ∀ j, j < 6 → WL (f_X12_layLive (sI U 64 38 (-1000000)) 64) j = L j := fun j hj => by rw [el j (by omega), gs_ne (by decide)]; exact h71 j hj
  have hsk : f_X12_seekRows U 64 (nI n) = (L_X12_seekRows_50 FU (sk7 U) (nI n) (nI (6 + 2 * c)) (nI 0)).2.2.2 := by
    unfold f_X12_seekRows sk7
    simp only [bd_def]
    rw [show (2 : Int32).toNatClampNeg = 2 from rfl, h68, e62 hc hc4]
    rfl
  have hp : p_X12_seekRows U 64 (nI n) ↔ T_X12_seekRows_50 FU (sk7 U) (nI n) (nI (6 + 2 * c)) (nI 0) := by
    unfold p_X12_seekRows
    rw [show (2 : Int32).toNatClampNeg = 2 from rfl, h68, e62 hc hc4]
    constructor
    · intro h
      exact h.2 _ rfl _ rfl _ rfl _ rfl _ rfl _ rfl _ rfl
    · intro h
      refine ⟨fun _ _ S2 e2 r3 e3 => ?_, fun x1 e1 S2 e2 r3 e3 r4 e4 S5 e5 S6 e6 S7 e7 => ?_⟩
      · exact p_path r3 (d := 0) (by omega)
      · subst e1
        subst e2
        subst e3
        subst e4
        subst e5
        subst e6
        subst e7
        exact h
  have hDS : DS B (sk7 U) 0 (L, 0) 0 [] none ∧ gI (sk7 U) 73 0 = -1 := by
    unfold sk7
    generalize f_X12_layLive (sI U 64 38 (-1000000)) 64 = V at w25 hl68 hl64 hl18 hl19 hl38 ee
    obtain ⟨-, k2, k3, k4⟩ := path_at V (d := 0) (by omega) w25
    rw [show nI 0 = (0 : Int32) from rfl] at k2 k3 k4
    generalize f_X12_keepPath V 64 0 = R at k2 k3 k4
    have e : ∀ y, y ≠ 73 → y ≠ 74 → y ≠ 75 → gI (sI (sI (sI R 74 0 0) 75 0 0) 73 0 (-1)) y = gI R y := fun y h1 h2 h3 => by rw [gs_ne h1, gs_ne h3, gs_ne h2]
    refine ⟨⟨⟨?_, ?_, ?_⟩, fun j hj => ?_, ?_, ?_, rfl, fun i hi => by omega, ?_⟩, by rw [gs_eq, if_pos rfl]⟩
    · rw [e 68 (by decide) (by decide) (by decide), k4 68 (by decide)]; exact hl68
    · rw [e 64 (by decide) (by decide) (by decide), k4 64 (by decide)]; exact hl18
    · rw [e 64 (by decide) (by decide) (by decide), k4 64 (by decide)]; exact hl19
    · rw [e 72 (by decide) (by decide) (by decide), k2 j (by omega)]; exact ee j hj
    · rw [gs_ne (by decide), gs_ne (by decide), gs_eq, if_pos rfl]; rfl
    · rw [gs_ne (by decide), gs_eq, if_pos rfl]; rfl
    · show gI _ 64 38 = _
      rw [e 64 (by decide) (by decide) (by decide), k4 64 (by decide)]; exact hl38
  obtain ⟨cost, h1, T', -, h3, h4⟩ := dfs6 hn hE hc rfl n 0 N (L, 0) 0 [] none (sk7 U) (by omega) (by omega) hL (show 0 < 16 by decide) (by omega) hDS.1 hDS.2
  have hX := X6_le c hc4 n hn
  obtain ⟨g, hg⟩ : ∃ g, FU = (g + 1) + cost := ⟨9999999 - cost, by rw [FU_eq]; omega⟩
  obtain ⟨b1, b2⟩ := h4 (g + 1)
  have z : nI 0 + (-1 : Int32) < 0 := by decide
  have eL : L_X12_seekRows_50 (g + 1) T' (nI n) (nI (6 + 2 * c)) (nI 0 + (-1)) = pr (nI n) (pr (nI (6 + 2 * c)) (pr (nI 0 + (-1)) T')) := by
    unfold L_X12_seekRows_50
    rw [if_pos z]
  have eT : T_X12_seekRows_50 (g + 1) T' (nI n) (nI (6 + 2 * c)) (nI 0 + (-1)) := by
    unfold T_X12_seekRows_50
    exact ⟨fun q => absurd z q, fun q => absurd z q, fun q => absurd z q, fun q => absurd z q, fun q => absurd z q, fun q => absurd z q, fun q => absurd z q, fun q => absurd z q, fun q => absurd z q⟩
  rw [← hg] at b1 b2
  refine ⟨hp.mpr (b1 eT), ?_⟩
  rw [hsk, b2, eL]
  have e0 : shf 0 [] (some (bs6 B (6 + 2 * c) n (L, 0))) = some (bs6 B (6 + 2 * c) n (L, 0)) := by
    show some (0 + _, [] ++ _) = _
    rw [Int.zero_add]
    rfl
  rw [e0, offO_nl] at h3
  exact h3
