-- needs: 67.thing
/-! ===== way: ropes, horses, beasts, forms, the rule ===== -/
def GS (N : Nat) (S T : HSt) : Prop := TP N S T ∧ (∃ kd b e, NX N S T kd b e) ∧ gI T 64 16 = 0 ∧ WayR (gI S 16) (gI S 17) (gI T 69) ∧ WayB (gI T 69) ∧ (∀ i : Nat, (gI T 69 5).toInt ≤ i → i < 20 → ∀ f, f < 5 → gI T 69 (72 + 5 * i + f) = 0)
theorem low_t (S : HSt) {w k : Nat} (hw : w < 10) (hk : k < 5) (h : w ≠ 3 ∨ k % 2 = 0) (x : Int32) : f_X4_lowOf S 13 (nI w) (nI k) x = (tbF 4).getD (w * 5 + k) 0 ∧ p_X4_lowOf S 13 (nI w) (nI k) x := by
  have e : (nI w * (5 : Int32) + nI k) = nI (w * 5 + k) := by rw [show (5 : Int32) = nI 5 from rfl, pk_mul, nI_add]
  have hz : (if nI w = (3 : Int32) then (if (nI k - nI k / (2 : Int32) * (2 : Int32)) = (1 : Int32) then (1 : Int32) else 0) else 0) = 0 := by
    have hd : ∀ k, k < 5 → k % 2 = 0 → ¬ (nI k - nI k / (2 : Int32) * (2 : Int32)) = (1 : Int32) := by decide
    have h3 : ∀ w, w < 10 → w ≠ 3 → ¬ nI w = (3 : Int32) := by decide
    by_cases q : w = 3
    · rw [if_neg (hd k hk (h.resolve_left (fun z => z q))), ite_self]
    · rw [if_neg (h3 w hw q)]
  constructor
  · show (F_X4_lowOf S 13 (nI w) (nI k) x).1 = _
    unfold F_X4_lowOf
    simp only [bd_def]
    rw [pr_1, hz, if_pos rfl, e, nI_clamp' (by omega)]
  · refine ⟨fun x3 e3 _ => ?_, fun x3 e3 q => ?_⟩
    · rw [e]; exact vp_in_nI (by show w * 5 + k < 50; omega) (by decide)
    · rw [hz] at e3; exact absurd e3.symm q
theorem high_t (S : HSt) {w k : Nat} (hw : w < 10) (hk : k < 5) (h : w ≠ 7 ∧ w ≠ 8) : f_X4_highOf S 13 (nI w) (nI k) = (tbF 5).getD (w * 5 + k) 0 ∧ p_X4_highOf S 13 (nI w) (nI k) := by
  have e : (nI w * (5 : Int32) + nI k) = nI (w * 5 + k) := by rw [show (5 : Int32) = nI 5 from rfl, pk_mul, nI_add]
  have hz : (if nI w = (7 : Int32) then (1 : Int32) else if nI w = (8 : Int32) then 1 else 0) = 0 := by
    have h7 : ∀ w, w < 10 → w ≠ 7 → ¬ nI w = (7 : Int32) := by decide
    have h8 : ∀ w, w < 10 → w ≠ 8 → ¬ nI w = (8 : Int32) := by decide
    rw [if_neg (h7 w hw h.1), if_neg (h8 w hw h.2)]
  constructor
  · show (F_X4_highOf S 13 (nI w) (nI k)).1 = _
    unfold F_X4_highOf
    simp only [bd_def]
    rw [pr_1, hz, if_pos rfl, e, nI_clamp' (by omega)]
  · refine ⟨fun x3 e3 _ => ?_, fun x3 e3 q => ?_⟩
    · rw [e]; exact vp_in_nI (by show w * 5 + k < 50; omega) (by decide)
    · rw [hz] at e3; exact absurd e3.symm q
theorem act_mono {W W' : Nat → Int32} {a : Nat} (h0 : W' (72 + 5 * a) = W (72 + 5 * a)) (h1 : W' (72 + 5 * a + 1) = W (72 + 5 * a + 1)) (h2 : W' (72 + 5 * a + 2) = W (72 + 5 * a + 2)) (h3 : W' (72 + 5 * a + 3) = W (72 + 5 * a + 3)) (h4 : W' (72 + 5 * a + 4) = W (72 + 5 * a + 4)) (hb : (W 2).toInt ≤ (W' 2).toInt) (h : ActB W a) : ActB W' a := by
  unfold ActB at h ⊢
  rw [h0, h1, h2, h3, h4]
  rcases h with h | ⟨q, ⟨q1, q2⟩, q3⟩ | h
  · exact Or.inl h
  · exact Or.inr (Or.inl ⟨q, ⟨q1, by omega⟩, q3⟩)
  · exact Or.inr (Or.inr h)
theorem begins_at {T : HSt} (h0 : gI T 64 16 = 0) {s i room at' each : Nat} (hs : s < 6) (hi : i < room) (hr : room < 100) (hc : gI T 69 s = nI i) (pn : p_X12_next T 64) : (f_X12_begins T 64 (nI s) (nI room) (nI at') (nI each)).1 = nI (at' + each * i) ∧ (f_X12_begins T 64 (nI s) (nI room) (nI at') (nI each)).2 = f_X12_next T 64 ∧ p_X12_begins T 64 (nI s) (nI room) (nI at') (nI each) := by
  have z : ¬ gI T 69 s = nI room := by
    rw [hc, ti_eq, nI_ti (by omega), nI_ti (by omega)]; omega
  have fn := v_X12_next T 64
  have n69 : gI (f_X12_next T 64) 69 = gI T 69 := fr_addr fn 69 (by decide)
  have e : f_X12_begins T 64 (nI s) (nI room) (nI at') (nI each) = pr (nI (at' + each * i)) (f_X12_next T 64) := by
    unfold f_X12_begins
    simp only [bd_def]
    rw [nI_clamp' (by omega), if_neg z, must_1 h0, n69, hc, pk_mul, nI_add]
  refine ⟨by rw [e, pr_1], by rw [e, pr_2], vp_in_nI (by omega) (by omega), fun S3 e3 => ?_, fun _ _ _ _ => vp_in_nI (by omega) (by omega)⟩
  rw [nI_clamp' (by omega), if_neg z] at e3
  rw [← e3]
  intro S4 e4 q
  rw [if_neg one_ne] at e4
  rw [← e4]; exact pn
theorem begins_f {T : HSt} (h0 : gI T 64 16 = 0) {s room at' each : Nat} (hs : s < 6) (hr : room < 100) (hc : gI T 69 s = nI room) : (f_X12_begins T 64 (nI s) (nI room) (nI at') (nI each)).2 = sI (sI T 64 16 3) 64 17 (gI T 64 14) ∧ p_X12_begins T 64 (nI s) (nI room) (nI at') (nI each) := by
  have b2 : ¬ gI (sI (sI T 64 16 3) 64 17 (gI T 64 14)) 64 16 = 0 := by rw [gs_o (by decide), gs_eq, if_pos rfl]; decide
  have hb : f_X12_bad T 64 3 = sI (sI T 64 16 3) 64 17 (gI T 64 14) := bad_0 h0 3
  refine ⟨?_, vp_in_nI (by omega) (by omega), fun S3 e3 => ?_, fun _ _ _ _ => vp_in_nI (by omega) (by omega)⟩
  · unfold f_X12_begins
    simp only [bd_def]
    rw [nI_clamp' (by omega), if_pos hc, hb, must_f b2, pr_2]
  · rw [nI_clamp' (by omega), if_pos hc, bd_def, hb] at e3
    rw [← e3]
    intro S4 e4 q
    rw [if_neg one_ne] at e4
    rw [← e4] at q
    exact absurd q b2
theorem wr_rope {C V W C' V' W' : Nat → Int32} {i : Nat} (hi : i < 3) (h : WayR C V W) (hV : ∀ x, ¬ ((0 + i) * 5 + 0 ≤ x ∧ x < (0 + i) * 5 + 0 + 3) → V' x = V x) (hW : ∀ x, ¬ ((6 + 3 * i) ≤ x ∧ x < (6 + 3 * i) + 3) → W' x = if x = 0 then nI (i + 1) else W x) (hn : ∀ j, j < 3 → V' ((0 + i) * 5 + 0 + j) = W' ((6 + 3 * i) + j)) (hC : ∀ x, C' x = if x = 0 then nI (i + 1) else C x) : WayR C' V' W' := by
  refine ⟨fun j hj => ?_, fun a f ha hf => by
      by_cases q : a = i
      · subst q; exact hn f hf
      · rw [hV _ (by omega), hW _ (by omega), if_neg (by omega)]; exact h.2.1 a f ha hf, fun a f ha hf => by rw [hV _ (by omega), hW _ (by omega), if_neg (by omega)]; exact h.2.2.1 a f ha hf, fun a f ha hf => by rw [hV _ (by omega), hW _ (by omega), if_neg (by omega)]; exact h.2.2.2.1 a f ha hf, fun a f ha hf => by rw [hV _ (by omega), hW _ (by omega), if_neg (by omega)]; exact h.2.2.2.2.1 a f ha hf, fun f hf => by rw [hV _ (by omega), hW _ (by omega), if_neg (by omega)]; exact h.2.2.2.2.2.1 f hf, fun a f ha hf => by rw [hV _ (by omega), hW _ (by omega), if_neg (by omega)]; exact h.2.2.2.2.2.2 a f ha hf⟩
  rw [hC, hW j (by omega)]
  by_cases q : j = 0
  · rw [if_pos q, if_pos q]
  · rw [if_neg q, if_neg q]; exact h.1 j hj
theorem wb_rope {W W' : Nat → Int32} {i : Nat} (hi : i < 3) (hB : WayB W) (hc : W 0 = nI i) (hW : ∀ x, ¬ ((6 + 3 * i) ≤ x ∧ x < (6 + 3 * i) + 3) → W' x = if x = 0 then nI (i + 1) else W x) (b0 : bw (W' ((6 + 3 * i) + 0)) 40 400) (b1 : bw (W' ((6 + 3 * i) + 1)) 0 9) (b2 : bw (W' ((6 + 3 * i) + 2)) 0 1) : WayB W' := by
  have hWo : ∀ x, ¬ ((6 + 3 * i) ≤ x ∧ x < (6 + 3 * i) + 3) → x ≠ 0 → W' x = W x := fun x h1 h2 => by rw [hW x h1, if_neg h2]
  have hWs : W' 0 = nI (i + 1) := by rw [hW 0 (by omega), if_pos rfl]
  refine ⟨⟨by rw [hWs]; exact ⟨by rw [nI_ti (by omega)]; omega, by rw [nI_ti (by omega)]; omega⟩, by rw [hWo 1 (by omega) (by omega)]; exact hB.1.2.1, by rw [hWo 2 (by omega) (by omega)]; exact hB.1.2.2.1, by rw [hWo 3 (by omega) (by omega)]; exact hB.1.2.2.2.1, by rw [hWo 4 (by omega) (by omega)]; exact hB.1.2.2.2.2.1, by rw [hWo 5 (by omega) (by omega)]; exact hB.1.2.2.2.2.2⟩, fun a ha => by
    by_cases q : a = i
    · subst q
      exact ⟨⟨Int.le_trans (by decide) b0.1, b0.2⟩, b1, b2, fun _ => b0.1⟩
    · rw [hWo (6 + 3 * a) (by omega) (by omega), hWo (6 + 3 * a + 1) (by omega) (by omega), hWo (6 + 3 * a + 2) (by omega) (by omega), hWs]
      obtain ⟨x1, x2, x3, x4⟩ := hB.2.1 a ha
      exact ⟨x1, x2, x3, fun z => x4 (by rw [nI_ti (by omega)] at z; rw [hc, nI_ti (by omega)]; omega)⟩, fun a ha => by
    rw [hWo (15 + 3 * a) (by omega) (by omega), hWo (15 + 3 * a + 1) (by omega) (by omega), hWo (15 + 3 * a + 2) (by omega) (by omega), hWo 1 (by omega) (by omega)]
    exact hB.2.2.1 a ha, fun a ha => by
    rw [hWo (24 + 5 * a) (by omega) (by omega), hWo (24 + 5 * a + 1) (by omega) (by omega), hWo (24 + 5 * a + 2) (by omega) (by omega), hWo (24 + 5 * a + 3) (by omega) (by omega), hWo (24 + 5 * a + 4) (by omega) (by omega), hWo 2 (by omega) (by omega)]
    exact hB.2.2.2.1 a ha, fun a ha => by
    rw [hWo (44 + 4 * a) (by omega) (by omega), hWo (44 + 4 * a + 1) (by omega) (by omega), hWo (44 + 4 * a + 2) (by omega) (by omega), hWo (44 + 4 * a + 3) (by omega) (by omega)]
    exact hB.2.2.2.2.1 a ha, by rw [hWo 68 (by omega) (by omega), hWo 69 (by omega) (by omega), hWo 70 (by omega) (by omega), hWo 71 (by omega) (by omega)]; exact hB.2.2.2.2.2.1, fun a ha hlt => ?_⟩
  rw [hWo 5 (by omega) (by omega)] at hlt
  exact act_mono (hWo _ (by omega) (by omega)) (hWo _ (by omega) (by omega)) (hWo _ (by omega) (by omega)) (hWo _ (by omega) (by omega)) (hWo _ (by omega) (by omega)) (by rw [hWo 2 (by omega) (by omega)]; exact Int.le_refl _) (hB.2.2.2.2.2.2 a ha hlt)
theorem t_rope {N : Nat} {S T : HSt} {i : Nat} (hi : i < 3) (hG : GS N S T) (hc : gI T 69 0 = nI i) : p_X4_readThing S 13 0 0 ∧ p_X12_readRope T 64 ∧ (((f_X4_readThing S 13 0 0).1 = 0 ∧ FE (f_X4_readThing S 13 0 0).2 (f_X12_readRope T 64)) ∨ ((f_X4_readThing S 13 0 0).1 = 1 ∧ GS N (f_X4_readThing S 13 0 0).2 (f_X12_readRope T 64) ∧ ∀ x, x < 6 → gI (f_X12_readRope T 64) 69 x = if x = 0 then nI (i + 1) else gI T 69 x)) := by
  obtain ⟨hT, ⟨kd, b, e, hX⟩, h0, hWR, hWB, hZ⟩ := hG
  have hX' := hX
  obtain ⟨⟨s3, s4, s5⟩, ⟨t12, t13, t14, t15⟩, ⟨hbe, heN, hkd⟩, -, -⟩ := hX'
  obtain ⟨pc, pm, hT1, hX1⟩ := next_R hT s5 t12 heN
  have fm := v_X12_next T 64
  have fc := v_X4_next S 13
  have n69 : gI (f_X12_next T 64) 69 = gI T 69 := fr_addr fm 69 (by decide)
  obtain ⟨g1, g2, g3⟩ := begins_at h0 (s := 0) (i := i) (room := 3) (at' := 6) (each := 3) (by decide) hi (by decide) hc pm
  have g1' : (f_X12_begins T 64 0 3 6 3).1 = nI (6 + 3 * i) := g1
  have g2' : (f_X12_begins T 64 0 3 6 3).2 = f_X12_next T 64 := g2
  have g3' : p_X12_begins T 64 0 3 6 3 := g3
  have a1 : nI (6 + 3 * i) + (1 : Int32) = nI (6 + 3 * i + 1) := nI_add _ 1
  have a2 : nI (6 + 3 * i) + (2 : Int32) = nI (6 + 3 * i + 2) := nI_add _ 2
  have eR : f_X12_readRope T 64 = f_X12_ends (iterN (6 + 3 * i) (fun k _ => match k with | 0 => (40 : Int32) | 1 => (0 : Int32) | _ => (0 : Int32)) (fun k _ => match k with | 0 => (400 : Int32) | 1 => (9 : Int32) | _ => (1 : Int32)) 3 0 (f_X12_next T 64)) 64 0 := by
    unfold f_X12_readRope
    simp only [bd_def]
    rw [g1', g2', a1, a2]
    rfl
  obtain ⟨r1, pI, pE, r4⟩ := thing (N := N) (at' := 6 + 3 * i) (w := 0) (s := 0) (i := i) (first := 0) (K := 3) (S := S) (T1 := f_X12_next T 64) (lc := fun k => match k with | 0 => (40 : Int) | 1 => (0 : Int) | _ => (0 : Int)) (hc := fun k => match k with | 0 => (400 : Int) | 1 => (9 : Int) | _ => (1 : Int)) (lo := fun k _ => match k with | 0 => (40 : Int32) | 1 => (0 : Int32) | _ => (0 : Int32)) (hi := fun k _ => match k with | 0 => (400 : Int32) | 1 => (9 : Int32) | _ => (1 : Int32)) (by decide) (by decide) (hi) (by decide) (by decide) (by omega) (by omega) (by decide) ((hWR.1 0 (by decide)).trans hc) (by rw [n69]; exact hc) (fun q => absurd q (by decide)) pc ⟨hT1, hX1, by rw [fm 64 16 (by decide) (by decide), h0], fun j hj => by omega, fun _ _ => rfl, fun _ _ => rfl, rfl⟩ (fun k hk S' T' hP => by
      have hkc : k = 0 ∨ k = 1 ∨ k = 2 := by omega
      rcases hkc with rfl | rfl | rfl
      · exact ⟨low_t S' (w := 0) (k := 0) (by decide) (by decide) (by decide) _, high_t S' (w := 0) (k := 0) (by decide) (by decide) (by decide), by show (40 : Int) ≤ (40 : Int32).toInt; decide, by show (400 : Int32).toInt ≤ (400 : Int); decide⟩
      · exact ⟨low_t S' (w := 0) (k := 1) (by decide) (by decide) (by decide) _, high_t S' (w := 0) (k := 1) (by decide) (by decide) (by decide), by show (0 : Int) ≤ (0 : Int32).toInt; decide, by show (9 : Int32).toInt ≤ (9 : Int); decide⟩
      · exact ⟨low_t S' (w := 0) (k := 2) (by decide) (by decide) (by decide) _, high_t S' (w := 0) (k := 2) (by decide) (by decide) (by decide), by show (0 : Int) ≤ (0 : Int32).toInt; decide, by show (1 : Int32).toInt ≤ (1 : Int); decide⟩)
  rw [← show (0 : Int32) = nI 0 from rfl] at r1 r4
  rw [← show (0 : Int32) = nI 0 from rfl] at pE
  rw [← eR] at r4
  refine ⟨r1, ?_, ?_⟩
  · -- the places
    refine ⟨g3', fun r1 er1 x2 ex2 => ?_, fun r1 er1 x2 ex2 q0 e0 => ?_, fun r1 er1 x2 ex2 q0 e0 q1 e1 => ?_, fun r1 er1 x2 ex2 q0 e0 q1 e1 q2 e2 => ?_⟩
    · rw [← er1, g1'] at ex2
      rw [← er1, g2', ← ex2]; exact pI.1
    · rw [← er1, g1'] at ex2
      rw [← er1, g2', ← ex2] at e0
      rw [← e0, ← ex2, a1]; exact pI.2.1
    · rw [← er1, g1'] at ex2
      rw [← er1, g2', ← ex2] at e0
      rw [← e0, ← ex2, a1] at e1
      rw [← e1, ← ex2, a2]; exact pI.2.2.1
    · rw [← er1, g1'] at ex2
      rw [← er1, g2', ← ex2] at e0
      rw [← e0, ← ex2, a1] at e1
      rw [← e1, ← ex2, a2] at e2
      rw [← e2]; exact pE
  · rcases r4 with q | ⟨q1, q2, q3, q4, q5, q6, q7, q8⟩
    · exact Or.inl q
    · right
      have hV : ∀ x, ¬ ((0 + i) * 5 + 0 ≤ x ∧ x < (0 + i) * 5 + 0 + 3) → gI (f_X4_readThing S 13 0 0).2 17 x = gI S 17 x := fun x hx => by
        rw [q6 x hx, if_neg (fun z => absurd z.1 (by decide))]
      have hW : ∀ x, ¬ ((6 + 3 * i) ≤ x ∧ x < (6 + 3 * i) + 3) → gI (f_X12_readRope T 64) 69 x = if x = 0 then nI (i + 1) else gI T 69 x := fun x hx => by rw [q7 x hx, n69]
      refine ⟨q1, ⟨q2, q3, q4, wr_rope hi hWR hV hW (fun j hj => (q5 j hj).1) q8, wb_rope hi hWB hc hW (q5 0 (by omega)).2 (q5 1 (by omega)).2 (q5 2 (by omega)).2, fun i' h1 h2 f hf => ?_⟩, fun x hx => hW x (by omega)⟩
      rw [hW 5 (by omega), if_neg (by omega)] at h1
      rw [hW _ (by omega), if_neg (by omega)]
      exact hZ i' h1 h2 f hf
theorem wr_horse {C V W C' V' W' : Nat → Int32} {i : Nat} (hi : i < 3) (h : WayR C V W) (hV : ∀ x, ¬ ((3 + i) * 5 + 0 ≤ x ∧ x < (3 + i) * 5 + 0 + 3) → V' x = V x) (hW : ∀ x, ¬ ((15 + 3 * i) ≤ x ∧ x < (15 + 3 * i) + 3) → W' x = if x = 1 then nI (i + 1) else W x) (hn : ∀ j, j < 3 → V' ((3 + i) * 5 + 0 + j) = W' ((15 + 3 * i) + j)) (hC : ∀ x, C' x = if x = 1 then nI (i + 1) else C x) : WayR C' V' W' := by
  refine ⟨fun j hj => ?_, fun a f ha hf => by rw [hV _ (by omega), hW _ (by omega), if_neg (by omega)]; exact h.2.1 a f ha hf, fun a f ha hf => by
      by_cases q : a = i
      · subst q; exact hn f hf
      · rw [hV _ (by omega), hW _ (by omega), if_neg (by omega)]; exact h.2.2.1 a f ha hf, fun a f ha hf => by rw [hV _ (by omega), hW _ (by omega), if_neg (by omega)]; exact h.2.2.2.1 a f ha hf, fun a f ha hf => by rw [hV _ (by omega), hW _ (by omega), if_neg (by omega)]; exact h.2.2.2.2.1 a f ha hf, fun f hf => by rw [hV _ (by omega), hW _ (by omega), if_neg (by omega)]; exact h.2.2.2.2.2.1 f hf, fun a f ha hf => by rw [hV _ (by omega), hW _ (by omega), if_neg (by omega)]; exact h.2.2.2.2.2.2 a f ha hf⟩
  rw [hC, hW j (by omega)]
  by_cases q : j = 1
  · rw [if_pos q, if_pos q]
  · rw [if_neg q, if_neg q]; exact h.1 j hj
theorem wb_horse {W W' : Nat → Int32} {i : Nat} (hi : i < 3) (hB : WayB W) (hc : W 1 = nI i) (hW : ∀ x, ¬ ((15 + 3 * i) ≤ x ∧ x < (15 + 3 * i) + 3) → W' x = if x = 1 then nI (i + 1) else W x) (b0 : bw (W' ((15 + 3 * i) + 0)) 0 20) (b1 : bw (W' ((15 + 3 * i) + 1)) 0 99) (b2 : bw (W' ((15 + 3 * i) + 2)) 0 3) : WayB W' := by
  have hWo : ∀ x, ¬ ((15 + 3 * i) ≤ x ∧ x < (15 + 3 * i) + 3) → x ≠ 1 → W' x = W x := fun x h1 h2 => by rw [hW x h1, if_neg h2]
  have hWs : W' 1 = nI (i + 1) := by rw [hW 1 (by omega), if_pos rfl]
  refine ⟨⟨by rw [hWo 0 (by omega) (by omega)]; exact hB.1.1, by rw [hWs]; exact ⟨by rw [nI_ti (by omega)]; omega, by rw [nI_ti (by omega)]; omega⟩, by rw [hWo 2 (by omega) (by omega)]; exact hB.1.2.2.1, by rw [hWo 3 (by omega) (by omega)]; exact hB.1.2.2.2.1, by rw [hWo 4 (by omega) (by omega)]; exact hB.1.2.2.2.2.1, by rw [hWo 5 (by omega) (by omega)]; exact hB.1.2.2.2.2.2⟩, fun a ha => by
    rw [hWo (6 + 3 * a) (by omega) (by omega), hWo (6 + 3 * a + 1) (by omega) (by omega), hWo (6 + 3 * a + 2) (by omega) (by omega), hWo 0 (by omega) (by omega)]
    exact hB.2.1 a ha, fun a ha => by
    by_cases q : a = i
    · subst q
      exact ⟨b0, b1, b2, fun z => by rw [hWs, nI_ti (by omega)] at z; omega⟩
    · rw [hWo (15 + 3 * a) (by omega) (by omega), hWo (15 + 3 * a + 1) (by omega) (by omega), hWo (15 + 3 * a + 2) (by omega) (by omega), hWs]
      obtain ⟨x1, x2, x3, x4⟩ := hB.2.2.1 a ha
      exact ⟨x1, x2, x3, fun z => x4 (by rw [nI_ti (by omega)] at z; rw [hc, nI_ti (by omega)]; omega)⟩, fun a ha => by
    rw [hWo (24 + 5 * a) (by omega) (by omega), hWo (24 + 5 * a + 1) (by omega) (by omega), hWo (24 + 5 * a + 2) (by omega) (by omega), hWo (24 + 5 * a + 3) (by omega) (by omega), hWo (24 + 5 * a + 4) (by omega) (by omega), hWo 2 (by omega) (by omega)]
    exact hB.2.2.2.1 a ha, fun a ha => by
    rw [hWo (44 + 4 * a) (by omega) (by omega), hWo (44 + 4 * a + 1) (by omega) (by omega), hWo (44 + 4 * a + 2) (by omega) (by omega), hWo (44 + 4 * a + 3) (by omega) (by omega)]
    exact hB.2.2.2.2.1 a ha, by rw [hWo 68 (by omega) (by omega), hWo 69 (by omega) (by omega), hWo 70 (by omega) (by omega), hWo 71 (by omega) (by omega)]; exact hB.2.2.2.2.2.1, fun a ha hlt => ?_⟩
  rw [hWo 5 (by omega) (by omega)] at hlt
  exact act_mono (hWo _ (by omega) (by omega)) (hWo _ (by omega) (by omega)) (hWo _ (by omega) (by omega)) (hWo _ (by omega) (by omega)) (hWo _ (by omega) (by omega)) (by rw [hWo 2 (by omega) (by omega)]; exact Int.le_refl _) (hB.2.2.2.2.2.2 a ha hlt)
theorem t_horse {N : Nat} {S T : HSt} {i : Nat} (hi : i < 3) (hG : GS N S T) (hc : gI T 69 1 = nI i) : p_X4_readThing S 13 1 1 ∧ p_X12_readHorse T 64 ∧ (((f_X4_readThing S 13 1 1).1 = 0 ∧ FE (f_X4_readThing S 13 1 1).2 (f_X12_readHorse T 64)) ∨ ((f_X4_readThing S 13 1 1).1 = 1 ∧ GS N (f_X4_readThing S 13 1 1).2 (f_X12_readHorse T 64) ∧ ∀ x, x < 6 → gI (f_X12_readHorse T 64) 69 x = if x = 1 then nI (i + 1) else gI T 69 x)) := by
  obtain ⟨hT, ⟨kd, b, e, hX⟩, h0, hWR, hWB, hZ⟩ := hG
  have hX' := hX
  obtain ⟨⟨s3, s4, s5⟩, ⟨t12, t13, t14, t15⟩, ⟨hbe, heN, hkd⟩, -, -⟩ := hX'
  obtain ⟨pc, pm, hT1, hX1⟩ := next_R hT s5 t12 heN
  have fm := v_X12_next T 64
  have fc := v_X4_next S 13
  have n69 : gI (f_X12_next T 64) 69 = gI T 69 := fr_addr fm 69 (by decide)
  obtain ⟨g1, g2, g3⟩ := begins_at h0 (s := 1) (i := i) (room := 3) (at' := 15) (each := 3) (by decide) hi (by decide) hc pm
  have g1' : (f_X12_begins T 64 1 3 15 3).1 = nI (15 + 3 * i) := g1
  have g2' : (f_X12_begins T 64 1 3 15 3).2 = f_X12_next T 64 := g2
  have g3' : p_X12_begins T 64 1 3 15 3 := g3
  have a1 : nI (15 + 3 * i) + (1 : Int32) = nI (15 + 3 * i + 1) := nI_add _ 1
  have a2 : nI (15 + 3 * i) + (2 : Int32) = nI (15 + 3 * i + 2) := nI_add _ 2
  have eR : f_X12_readHorse T 64 = f_X12_ends (iterN (15 + 3 * i) (fun k _ => match k with | 0 => (0 : Int32) | 1 => (0 : Int32) | _ => (0 : Int32)) (fun k _ => match k with | 0 => (20 : Int32) | 1 => (99 : Int32) | _ => (3 : Int32)) 3 0 (f_X12_next T 64)) 64 1 := by
    unfold f_X12_readHorse
    simp only [bd_def]
    rw [g1', g2', a1, a2]
    rfl
  obtain ⟨r1, pI, pE, r4⟩ := thing (N := N) (at' := 15 + 3 * i) (w := 1) (s := 1) (i := i) (first := 0) (K := 3) (S := S) (T1 := f_X12_next T 64) (lc := fun k => match k with | 0 => (0 : Int) | 1 => (0 : Int) | _ => (0 : Int)) (hc := fun k => match k with | 0 => (20 : Int) | 1 => (99 : Int) | _ => (3 : Int)) (lo := fun k _ => match k with | 0 => (0 : Int32) | 1 => (0 : Int32) | _ => (0 : Int32)) (hi := fun k _ => match k with | 0 => (20 : Int32) | 1 => (99 : Int32) | _ => (3 : Int32)) (by decide) (by decide) (hi) (by decide) (by decide) (by omega) (by omega) (by decide) ((hWR.1 1 (by decide)).trans hc) (by rw [n69]; exact hc) (fun q => absurd q (by decide)) pc ⟨hT1, hX1, by rw [fm 64 16 (by decide) (by decide), h0], fun j hj => by omega, fun _ _ => rfl, fun _ _ => rfl, rfl⟩ (fun k hk S' T' hP => by
      have hkc : k = 0 ∨ k = 1 ∨ k = 2 := by omega
      rcases hkc with rfl | rfl | rfl
      · exact ⟨low_t S' (w := 1) (k := 0) (by decide) (by decide) (by decide) _, high_t S' (w := 1) (k := 0) (by decide) (by decide) (by decide), by show (0 : Int) ≤ (0 : Int32).toInt; decide, by show (20 : Int32).toInt ≤ (20 : Int); decide⟩
      · exact ⟨low_t S' (w := 1) (k := 1) (by decide) (by decide) (by decide) _, high_t S' (w := 1) (k := 1) (by decide) (by decide) (by decide), by show (0 : Int) ≤ (0 : Int32).toInt; decide, by show (99 : Int32).toInt ≤ (99 : Int); decide⟩
      · exact ⟨low_t S' (w := 1) (k := 2) (by decide) (by decide) (by decide) _, high_t S' (w := 1) (k := 2) (by decide) (by decide) (by decide), by show (0 : Int) ≤ (0 : Int32).toInt; decide, by show (3 : Int32).toInt ≤ (3 : Int); decide⟩)
  rw [← show (1 : Int32) = nI 1 from rfl] at r1 r4
  rw [← show (1 : Int32) = nI 1 from rfl] at pE
  rw [← eR] at r4
  refine ⟨r1, ?_, ?_⟩
  · -- the places
    refine ⟨g3', fun r1 er1 x2 ex2 => ?_, fun r1 er1 x2 ex2 q0 e0 => ?_, fun r1 er1 x2 ex2 q0 e0 q1 e1 => ?_, fun r1 er1 x2 ex2 q0 e0 q1 e1 q2 e2 => ?_⟩
    · rw [← er1, g1'] at ex2
      rw [← er1, g2', ← ex2]; exact pI.1
    · rw [← er1, g1'] at ex2
      rw [← er1, g2', ← ex2] at e0
      rw [← e0, ← ex2, a1]; exact pI.2.1
    · rw [← er1, g1'] at ex2
      rw [← er1, g2', ← ex2] at e0
      rw [← e0, ← ex2, a1] at e1
      rw [← e1, ← ex2, a2]; exact pI.2.2.1
    · rw [← er1, g1'] at ex2
      rw [← er1, g2', ← ex2] at e0
      rw [← e0, ← ex2, a1] at e1
      rw [← e1, ← ex2, a2] at e2
      rw [← e2]; exact pE
  · rcases r4 with q | ⟨q1, q2, q3, q4, q5, q6, q7, q8⟩
    · exact Or.inl q
    · right
      have hV : ∀ x, ¬ ((3 + i) * 5 + 0 ≤ x ∧ x < (3 + i) * 5 + 0 + 3) → gI (f_X4_readThing S 13 1 1).2 17 x = gI S 17 x := fun x hx => by
        rw [q6 x hx, if_neg (fun z => absurd z.1 (by decide))]
      have hW : ∀ x, ¬ ((15 + 3 * i) ≤ x ∧ x < (15 + 3 * i) + 3) → gI (f_X12_readHorse T 64) 69 x = if x = 1 then nI (i + 1) else gI T 69 x := fun x hx => by rw [q7 x hx, n69]
      refine ⟨q1, ⟨q2, q3, q4, wr_horse hi hWR hV hW (fun j hj => (q5 j hj).1) q8, wb_horse hi hWB hc hW (q5 0 (by omega)).2 (q5 1 (by omega)).2 (q5 2 (by omega)).2, fun i' h1 h2 f hf => ?_⟩, fun x hx => hW x (by omega)⟩
      rw [hW 5 (by omega), if_neg (by omega)] at h1
      rw [hW _ (by omega), if_neg (by omega)]
      exact hZ i' h1 h2 f hf
theorem wr_beast {C V W C' V' W' : Nat → Int32} {i : Nat} (hi : i < 4) (h : WayR C V W) (hV : ∀ x, ¬ ((6 + i) * 5 + 0 ≤ x ∧ x < (6 + i) * 5 + 0 + 5) → V' x = V x) (hW : ∀ x, ¬ ((24 + 5 * i) ≤ x ∧ x < (24 + 5 * i) + 5) → W' x = if x = 2 then nI (i + 1) else W x) (hn : ∀ j, j < 5 → V' ((6 + i) * 5 + 0 + j) = W' ((24 + 5 * i) + j)) (hC : ∀ x, C' x = if x = 2 then nI (i + 1) else C x) : WayR C' V' W' := by
  refine ⟨fun j hj => ?_, fun a f ha hf => by rw [hV _ (by omega), hW _ (by omega), if_neg (by omega)]; exact h.2.1 a f ha hf, fun a f ha hf => by rw [hV _ (by omega), hW _ (by omega), if_neg (by omega)]; exact h.2.2.1 a f ha hf, fun a f ha hf => by
      by_cases q : a = i
      · subst q; exact hn f hf
      · rw [hV _ (by omega), hW _ (by omega), if_neg (by omega)]; exact h.2.2.2.1 a f ha hf, fun a f ha hf => by rw [hV _ (by omega), hW _ (by omega), if_neg (by omega)]; exact h.2.2.2.2.1 a f ha hf, fun f hf => by rw [hV _ (by omega), hW _ (by omega), if_neg (by omega)]; exact h.2.2.2.2.2.1 f hf, fun a f ha hf => by rw [hV _ (by omega), hW _ (by omega), if_neg (by omega)]; exact h.2.2.2.2.2.2 a f ha hf⟩
  rw [hC, hW j (by omega)]
  by_cases q : j = 2
  · rw [if_pos q, if_pos q]
  · rw [if_neg q, if_neg q]; exact h.1 j hj
theorem wb_beast {W W' : Nat → Int32} {i : Nat} (hi : i < 4) (hB : WayB W) (hc : W 2 = nI i) (hW : ∀ x, ¬ ((24 + 5 * i) ≤ x ∧ x < (24 + 5 * i) + 5) → W' x = if x = 2 then nI (i + 1) else W x) (b0 : bw (W' ((24 + 5 * i) + 0)) 1 200) (b1 : bw (W' ((24 + 5 * i) + 1)) 0 15) (b2 : bw (W' ((24 + 5 * i) + 2)) 1 100) (b3 : bw (W' ((24 + 5 * i) + 3)) 1 9) (b4 : bw (W' ((24 + 5 * i) + 4)) 0 12) : WayB W' := by
  have hWo : ∀ x, ¬ ((24 + 5 * i) ≤ x ∧ x < (24 + 5 * i) + 5) → x ≠ 2 → W' x = W x := fun x h1 h2 => by rw [hW x h1, if_neg h2]
  have hWs : W' 2 = nI (i + 1) := by rw [hW 2 (by omega), if_pos rfl]
  refine ⟨⟨by rw [hWo 0 (by omega) (by omega)]; exact hB.1.1, by rw [hWo 1 (by omega) (by omega)]; exact hB.1.2.1, by rw [hWs]; exact ⟨by rw [nI_ti (by omega)]; omega, by rw [nI_ti (by omega)]; omega⟩, by rw [hWo 3 (by omega) (by omega)]; exact hB.1.2.2.2.1, by rw [hWo 4 (by omega) (by omega)]; exact hB.1.2.2.2.2.1, by rw [hWo 5 (by omega) (by omega)]; exact hB.1.2.2.2.2.2⟩, fun a ha => by
    rw [hWo (6 + 3 * a) (by omega) (by omega), hWo (6 + 3 * a + 1) (by omega) (by omega), hWo (6 + 3 * a + 2) (by omega) (by omega), hWo 0 (by omega) (by omega)]
    exact hB.2.1 a ha, fun a ha => by
    rw [hWo (15 + 3 * a) (by omega) (by omega), hWo (15 + 3 * a + 1) (by omega) (by omega), hWo (15 + 3 * a + 2) (by omega) (by omega), hWo 1 (by omega) (by omega)]
    exact hB.2.2.1 a ha, fun a ha => by
    by_cases q : a = i
    · subst q
      exact ⟨⟨Int.le_trans (by decide) b0.1, b0.2⟩, b1, ⟨Int.le_trans (by decide) b2.1, b2.2⟩, ⟨Int.le_trans (by decide) b3.1, b3.2⟩, b4, fun _ => b3.1⟩
    · rw [hWo (24 + 5 * a) (by omega) (by omega), hWo (24 + 5 * a + 1) (by omega) (by omega), hWo (24 + 5 * a + 2) (by omega) (by omega), hWo (24 + 5 * a + 3) (by omega) (by omega), hWo (24 + 5 * a + 4) (by omega) (by omega), hWs]
      obtain ⟨x1, x2, x3, x4, x5, x6⟩ := hB.2.2.2.1 a ha
      exact ⟨x1, x2, x3, x4, x5, fun z => x6 (by rw [nI_ti (by omega)] at z; rw [hc, nI_ti (by omega)]; omega)⟩, fun a ha => by
    rw [hWo (44 + 4 * a) (by omega) (by omega), hWo (44 + 4 * a + 1) (by omega) (by omega), hWo (44 + 4 * a + 2) (by omega) (by omega), hWo (44 + 4 * a + 3) (by omega) (by omega)]
    exact hB.2.2.2.2.1 a ha, by rw [hWo 68 (by omega) (by omega), hWo 69 (by omega) (by omega), hWo 70 (by omega) (by omega), hWo 71 (by omega) (by omega)]; exact hB.2.2.2.2.2.1, fun a ha hlt => ?_⟩
  rw [hWo 5 (by omega) (by omega)] at hlt
  exact act_mono (hWo _ (by omega) (by omega)) (hWo _ (by omega) (by omega)) (hWo _ (by omega) (by omega)) (hWo _ (by omega) (by omega)) (hWo _ (by omega) (by omega)) (by rw [hWs, nI_ti (by omega), hc, nI_ti (by omega)]; omega) (hB.2.2.2.2.2.2 a ha hlt)
theorem t_beast {N : Nat} {S T : HSt} {i : Nat} (hi : i < 4) (hG : GS N S T) (hc : gI T 69 2 = nI i) : p_X4_readThing S 13 2 2 ∧ p_X12_readBeast T 64 ∧ (((f_X4_readThing S 13 2 2).1 = 0 ∧ FE (f_X4_readThing S 13 2 2).2 (f_X12_readBeast T 64)) ∨ ((f_X4_readThing S 13 2 2).1 = 1 ∧ GS N (f_X4_readThing S 13 2 2).2 (f_X12_readBeast T 64) ∧ ∀ x, x < 6 → gI (f_X12_readBeast T 64) 69 x = if x = 2 then nI (i + 1) else gI T 69 x)) := by
  obtain ⟨hT, ⟨kd, b, e, hX⟩, h0, hWR, hWB, hZ⟩ := hG
  have hX' := hX
  obtain ⟨⟨s3, s4, s5⟩, ⟨t12, t13, t14, t15⟩, ⟨hbe, heN, hkd⟩, -, -⟩ := hX'
  obtain ⟨pc, pm, hT1, hX1⟩ := next_R hT s5 t12 heN
  have fm := v_X12_next T 64
  have fc := v_X4_next S 13
  have n69 : gI (f_X12_next T 64) 69 = gI T 69 := fr_addr fm 69 (by decide)
  obtain ⟨g1, g2, g3⟩ := begins_at h0 (s := 2) (i := i) (room := 4) (at' := 24) (each := 5) (by decide) hi (by decide) hc pm
  have g1' : (f_X12_begins T 64 2 4 24 5).1 = nI (24 + 5 * i) := g1
  have g2' : (f_X12_begins T 64 2 4 24 5).2 = f_X12_next T 64 := g2
  have g3' : p_X12_begins T 64 2 4 24 5 := g3
  have a1 : nI (24 + 5 * i) + (1 : Int32) = nI (24 + 5 * i + 1) := nI_add _ 1
  have a2 : nI (24 + 5 * i) + (2 : Int32) = nI (24 + 5 * i + 2) := nI_add _ 2
  have a3 : nI (24 + 5 * i) + (3 : Int32) = nI (24 + 5 * i + 3) := nI_add _ 3
  have a4 : nI (24 + 5 * i) + (4 : Int32) = nI (24 + 5 * i + 4) := nI_add _ 4
  have eR : f_X12_readBeast T 64 = f_X12_ends (iterN (24 + 5 * i) (fun k _ => match k with | 0 => (1 : Int32) | 1 => (0 : Int32) | 2 => (1 : Int32) | 3 => (1 : Int32) | _ => (0 : Int32)) (fun k _ => match k with | 0 => (200 : Int32) | 1 => (15 : Int32) | 2 => (100 : Int32) | 3 => (9 : Int32) | _ => (12 : Int32)) 5 0 (f_X12_next T 64)) 64 2 := by
    unfold f_X12_readBeast
    simp only [bd_def]
    rw [g1', g2', a1, a2, a3, a4]
    rfl
  obtain ⟨r1, pI, pE, r4⟩ := thing (N := N) (at' := 24 + 5 * i) (w := 2) (s := 2) (i := i) (first := 0) (K := 5) (S := S) (T1 := f_X12_next T 64) (lc := fun k => match k with | 0 => (1 : Int) | 1 => (0 : Int) | 2 => (1 : Int) | 3 => (1 : Int) | _ => (0 : Int)) (hc := fun k => match k with | 0 => (200 : Int) | 1 => (15 : Int) | 2 => (100 : Int) | 3 => (9 : Int) | _ => (12 : Int)) (lo := fun k _ => match k with | 0 => (1 : Int32) | 1 => (0 : Int32) | 2 => (1 : Int32) | 3 => (1 : Int32) | _ => (0 : Int32)) (hi := fun k _ => match k with | 0 => (200 : Int32) | 1 => (15 : Int32) | 2 => (100 : Int32) | 3 => (9 : Int32) | _ => (12 : Int32)) (by decide) (by decide) (hi) (by decide) (by decide) (by omega) (by omega) (by decide) ((hWR.1 2 (by decide)).trans hc) (by rw [n69]; exact hc) (fun q => absurd q (by decide)) pc ⟨hT1, hX1, by rw [fm 64 16 (by decide) (by decide), h0], fun j hj => by omega, fun _ _ => rfl, fun _ _ => rfl, rfl⟩ (fun k hk S' T' hP => by
      have hkc : k = 0 ∨ k = 1 ∨ k = 2 ∨ k = 3 ∨ k = 4 := by omega
      rcases hkc with rfl | rfl | rfl | rfl | rfl
      · exact ⟨low_t S' (w := 2) (k := 0) (by decide) (by decide) (by decide) _, high_t S' (w := 2) (k := 0) (by decide) (by decide) (by decide), by show (1 : Int) ≤ (1 : Int32).toInt; decide, by show (200 : Int32).toInt ≤ (200 : Int); decide⟩
      · exact ⟨low_t S' (w := 2) (k := 1) (by decide) (by decide) (by decide) _, high_t S' (w := 2) (k := 1) (by decide) (by decide) (by decide), by show (0 : Int) ≤ (0 : Int32).toInt; decide, by show (15 : Int32).toInt ≤ (15 : Int); decide⟩
      · exact ⟨low_t S' (w := 2) (k := 2) (by decide) (by decide) (by decide) _, high_t S' (w := 2) (k := 2) (by decide) (by decide) (by decide), by show (1 : Int) ≤ (1 : Int32).toInt; decide, by show (100 : Int32).toInt ≤ (100 : Int); decide⟩
      · exact ⟨low_t S' (w := 2) (k := 3) (by decide) (by decide) (by decide) _, high_t S' (w := 2) (k := 3) (by decide) (by decide) (by decide), by show (1 : Int) ≤ (1 : Int32).toInt; decide, by show (9 : Int32).toInt ≤ (9 : Int); decide⟩
      · exact ⟨low_t S' (w := 2) (k := 4) (by decide) (by decide) (by decide) _, high_t S' (w := 2) (k := 4) (by decide) (by decide) (by decide), by show (0 : Int) ≤ (0 : Int32).toInt; decide, by show (12 : Int32).toInt ≤ (12 : Int); decide⟩)
  rw [← show (2 : Int32) = nI 2 from rfl] at r1 r4
  rw [← show (2 : Int32) = nI 2 from rfl] at pE
  rw [← eR] at r4
  refine ⟨r1, ?_, ?_⟩
  · -- the places
    refine ⟨g3', fun r1 er1 x2 ex2 => ?_, fun r1 er1 x2 ex2 q0 e0 => ?_, fun r1 er1 x2 ex2 q0 e0 q1 e1 => ?_, fun r1 er1 x2 ex2 q0 e0 q1 e1 q2 e2 => ?_, fun r1 er1 x2 ex2 q0 e0 q1 e1 q2 e2 q3 e3 => ?_, fun r1 er1 x2 ex2 q0 e0 q1 e1 q2 e2 q3 e3 q4 e4 => ?_⟩
    · rw [← er1, g1'] at ex2
      rw [← er1, g2', ← ex2]; exact pI.1
    · rw [← er1, g1'] at ex2
      rw [← er1, g2', ← ex2] at e0
      rw [← e0, ← ex2, a1]; exact pI.2.1
    · rw [← er1, g1'] at ex2
      rw [← er1, g2', ← ex2] at e0
      rw [← e0, ← ex2, a1] at e1
      rw [← e1, ← ex2, a2]; exact pI.2.2.1
    · rw [← er1, g1'] at ex2
      rw [← er1, g2', ← ex2] at e0
      rw [← e0, ← ex2, a1] at e1
      rw [← e1, ← ex2, a2] at e2
      rw [← e2, ← ex2, a3]; exact pI.2.2.2.1
    · rw [← er1, g1'] at ex2
      rw [← er1, g2', ← ex2] at e0
      rw [← e0, ← ex2, a1] at e1
      rw [← e1, ← ex2, a2] at e2
      rw [← e2, ← ex2, a3] at e3
      rw [← e3, ← ex2, a4]; exact pI.2.2.2.2.1
    · rw [← er1, g1'] at ex2
      rw [← er1, g2', ← ex2] at e0
      rw [← e0, ← ex2, a1] at e1
      rw [← e1, ← ex2, a2] at e2
      rw [← e2, ← ex2, a3] at e3
      rw [← e3, ← ex2, a4] at e4
      rw [← e4]; exact pE
  · rcases r4 with q | ⟨q1, q2, q3, q4, q5, q6, q7, q8⟩
    · exact Or.inl q
    · right
      have hV : ∀ x, ¬ ((6 + i) * 5 + 0 ≤ x ∧ x < (6 + i) * 5 + 0 + 5) → gI (f_X4_readThing S 13 2 2).2 17 x = gI S 17 x := fun x hx => by
        rw [q6 x hx, if_neg (fun z => absurd z.1 (by decide))]
      have hW : ∀ x, ¬ ((24 + 5 * i) ≤ x ∧ x < (24 + 5 * i) + 5) → gI (f_X12_readBeast T 64) 69 x = if x = 2 then nI (i + 1) else gI T 69 x := fun x hx => by rw [q7 x hx, n69]
      refine ⟨q1, ⟨q2, q3, q4, wr_beast hi hWR hV hW (fun j hj => (q5 j hj).1) q8, wb_beast hi hWB hc hW (q5 0 (by omega)).2 (q5 1 (by omega)).2 (q5 2 (by omega)).2 (q5 3 (by omega)).2 (q5 4 (by omega)).2, fun i' h1 h2 f hf => ?_⟩, fun x hx => hW x (by omega)⟩
      rw [hW 5 (by omega), if_neg (by omega)] at h1
      rw [hW _ (by omega), if_neg (by omega)]
      exact hZ i' h1 h2 f hf
theorem wr_form {C V W C' V' W' : Nat → Int32} {i : Nat} (hi : i < 6) (h : WayR C V W) (hV : ∀ x, ¬ ((10 + i) * 5 + 0 ≤ x ∧ x < (10 + i) * 5 + 0 + 4) → V' x = V x) (hW : ∀ x, ¬ ((44 + 4 * i) ≤ x ∧ x < (44 + 4 * i) + 4) → W' x = if x = 3 then nI (i + 1) else W x) (hn : ∀ j, j < 4 → V' ((10 + i) * 5 + 0 + j) = W' ((44 + 4 * i) + j)) (hC : ∀ x, C' x = if x = 3 then nI (i + 1) else C x) : WayR C' V' W' := by
  refine ⟨fun j hj => ?_, fun a f ha hf => by rw [hV _ (by omega), hW _ (by omega), if_neg (by omega)]; exact h.2.1 a f ha hf, fun a f ha hf => by rw [hV _ (by omega), hW _ (by omega), if_neg (by omega)]; exact h.2.2.1 a f ha hf, fun a f ha hf => by rw [hV _ (by omega), hW _ (by omega), if_neg (by omega)]; exact h.2.2.2.1 a f ha hf, fun a f ha hf => by
      by_cases q : a = i
      · subst q; exact hn f hf
      · rw [hV _ (by omega), hW _ (by omega), if_neg (by omega)]; exact h.2.2.2.2.1 a f ha hf, fun f hf => by rw [hV _ (by omega), hW _ (by omega), if_neg (by omega)]; exact h.2.2.2.2.2.1 f hf, fun a f ha hf => by rw [hV _ (by omega), hW _ (by omega), if_neg (by omega)]; exact h.2.2.2.2.2.2 a f ha hf⟩
  rw [hC, hW j (by omega)]
  by_cases q : j = 3
  · rw [if_pos q, if_pos q]
  · rw [if_neg q, if_neg q]; exact h.1 j hj
theorem wb_form {W W' : Nat → Int32} {i : Nat} (hi : i < 6) (hB : WayB W) (hc : W 3 = nI i) (hW : ∀ x, ¬ ((44 + 4 * i) ≤ x ∧ x < (44 + 4 * i) + 4) → W' x = if x = 3 then nI (i + 1) else W x) (b0 : bw (W' ((44 + 4 * i) + 0)) 0 15) (b1 : bw (W' ((44 + 4 * i) + 1)) 0 15) (b2 : bw (W' ((44 + 4 * i) + 2)) 0 200) (b3 : bw (W' ((44 + 4 * i) + 3)) 0 200) : WayB W' := by
  have hWo : ∀ x, ¬ ((44 + 4 * i) ≤ x ∧ x < (44 + 4 * i) + 4) → x ≠ 3 → W' x = W x := fun x h1 h2 => by rw [hW x h1, if_neg h2]
  have hWs : W' 3 = nI (i + 1) := by rw [hW 3 (by omega), if_pos rfl]
  refine ⟨⟨by rw [hWo 0 (by omega) (by omega)]; exact hB.1.1, by rw [hWo 1 (by omega) (by omega)]; exact hB.1.2.1, by rw [hWo 2 (by omega) (by omega)]; exact hB.1.2.2.1, by rw [hWs]; exact ⟨by rw [nI_ti (by omega)]; omega, by rw [nI_ti (by omega)]; omega⟩, by rw [hWo 4 (by omega) (by omega)]; exact hB.1.2.2.2.2.1, by rw [hWo 5 (by omega) (by omega)]; exact hB.1.2.2.2.2.2⟩, fun a ha => by
    rw [hWo (6 + 3 * a) (by omega) (by omega), hWo (6 + 3 * a + 1) (by omega) (by omega), hWo (6 + 3 * a + 2) (by omega) (by omega), hWo 0 (by omega) (by omega)]
    exact hB.2.1 a ha, fun a ha => by
    rw [hWo (15 + 3 * a) (by omega) (by omega), hWo (15 + 3 * a + 1) (by omega) (by omega), hWo (15 + 3 * a + 2) (by omega) (by omega), hWo 1 (by omega) (by omega)]
    exact hB.2.2.1 a ha, fun a ha => by
    rw [hWo (24 + 5 * a) (by omega) (by omega), hWo (24 + 5 * a + 1) (by omega) (by omega), hWo (24 + 5 * a + 2) (by omega) (by omega), hWo (24 + 5 * a + 3) (by omega) (by omega), hWo (24 + 5 * a + 4) (by omega) (by omega), hWo 2 (by omega) (by omega)]
    exact hB.2.2.2.1 a ha, fun a ha => by
    by_cases q : a = i
    · subst q
      exact ⟨b0, b1, b2, b3⟩
    · rw [hWo (44 + 4 * a) (by omega) (by omega), hWo (44 + 4 * a + 1) (by omega) (by omega), hWo (44 + 4 * a + 2) (by omega) (by omega), hWo (44 + 4 * a + 3) (by omega) (by omega)]
      exact hB.2.2.2.2.1 a ha, by rw [hWo 68 (by omega) (by omega), hWo 69 (by omega) (by omega), hWo 70 (by omega) (by omega), hWo 71 (by omega) (by omega)]; exact hB.2.2.2.2.2.1, fun a ha hlt => ?_⟩
  rw [hWo 5 (by omega) (by omega)] at hlt
  exact act_mono (hWo _ (by omega) (by omega)) (hWo _ (by omega) (by omega)) (hWo _ (by omega) (by omega)) (hWo _ (by omega) (by omega)) (hWo _ (by omega) (by omega)) (by rw [hWo 2 (by omega) (by omega)]; exact Int.le_refl _) (hB.2.2.2.2.2.2 a ha hlt)
theorem t_form {N : Nat} {S T : HSt} {i : Nat} (hi : i < 6) (hG : GS N S T) (hc : gI T 69 3 = nI i) : p_X4_readThing S 13 3 3 ∧ p_X12_readForm T 64 ∧ (((f_X4_readThing S 13 3 3).1 = 0 ∧ FE (f_X4_readThing S 13 3 3).2 (f_X12_readForm T 64)) ∨ ((f_X4_readThing S 13 3 3).1 = 1 ∧ GS N (f_X4_readThing S 13 3 3).2 (f_X12_readForm T 64) ∧ ∀ x, x < 6 → gI (f_X12_readForm T 64) 69 x = if x = 3 then nI (i + 1) else gI T 69 x)) := by
  obtain ⟨hT, ⟨kd, b, e, hX⟩, h0, hWR, hWB, hZ⟩ := hG
  have hX' := hX
  obtain ⟨⟨s3, s4, s5⟩, ⟨t12, t13, t14, t15⟩, ⟨hbe, heN, hkd⟩, -, -⟩ := hX'
  obtain ⟨pc, pm, hT1, hX1⟩ := next_R hT s5 t12 heN
  have fm := v_X12_next T 64
  have fc := v_X4_next S 13
  have n69 : gI (f_X12_next T 64) 69 = gI T 69 := fr_addr fm 69 (by decide)
  obtain ⟨g1, g2, g3⟩ := begins_at h0 (s := 3) (i := i) (room := 6) (at' := 44) (each := 4) (by decide) hi (by decide) hc pm
  have g1' : (f_X12_begins T 64 3 6 44 4).1 = nI (44 + 4 * i) := g1
  have g2' : (f_X12_begins T 64 3 6 44 4).2 = f_X12_next T 64 := g2
  have g3' : p_X12_begins T 64 3 6 44 4 := g3
  have a1 : nI (44 + 4 * i) + (1 : Int32) = nI (44 + 4 * i + 1) := nI_add _ 1
  have a2 : nI (44 + 4 * i) + (2 : Int32) = nI (44 + 4 * i + 2) := nI_add _ 2
  have a3 : nI (44 + 4 * i) + (3 : Int32) = nI (44 + 4 * i + 3) := nI_add _ 3
  have eR : f_X12_readForm T 64 = f_X12_ends (iterN (44 + 4 * i) (fun k T => match k with | 0 => (0 : Int32) | 1 => (if gI T 64 16 = 0 then gI T 69 (44 + 4 * i) else 0) | 2 => 0 | _ => (if gI T 64 16 = 0 then gI T 69 (44 + 4 * i + 2) else 0)) (fun k _ => match k with | 0 => (15 : Int32) | 1 => (15 : Int32) | 2 => (200 : Int32) | _ => (200 : Int32)) 4 0 (f_X12_next T 64)) 64 3 := by
    unfold f_X12_readForm
    simp only [bd_def]
    rw [g1', g2', a1, a2, a3, nI_clamp' (by omega), nI_clamp' (by omega)]
    rfl
  obtain ⟨r1, pI, pE, r4⟩ := thing (N := N) (at' := 44 + 4 * i) (w := 3) (s := 3) (i := i) (first := 0) (K := 4) (S := S) (T1 := f_X12_next T 64) (lc := fun k => match k with | 0 => (0 : Int) | 1 => (0 : Int) | 2 => (0 : Int) | _ => (0 : Int)) (hc := fun k => match k with | 0 => (15 : Int) | 1 => (15 : Int) | 2 => (200 : Int) | _ => (200 : Int)) (lo := fun k T => match k with | 0 => (0 : Int32) | 1 => (if gI T 64 16 = 0 then gI T 69 (44 + 4 * i) else 0) | 2 => 0 | _ => (if gI T 64 16 = 0 then gI T 69 (44 + 4 * i + 2) else 0)) (hi := fun k _ => match k with | 0 => (15 : Int32) | 1 => (15 : Int32) | 2 => (200 : Int32) | _ => (200 : Int32)) (by decide) (by decide) (hi) (by decide) (by decide) (by omega) (by omega) (by decide) ((hWR.1 3 (by decide)).trans hc) (by rw [n69]; exact hc) (fun q => absurd q (by decide)) pc ⟨hT1, hX1, by rw [fm 64 16 (by decide) (by decide), h0], fun j hj => by omega, fun _ _ => rfl, fun _ _ => rfl, rfl⟩ (fun k hk S' T' hP => by
      have hkc : k = 0 ∨ k = 1 ∨ k = 2 ∨ k = 3 := by omega
      rcases hkc with rfl | rfl | rfl | rfl
      · exact ⟨low_t S' (w := 3) (k := 0) (by decide) (by decide) (by decide) _, high_t S' (w := 3) (k := 0) (by decide) (by decide) (by decide), by show (0 : Int) ≤ (0 : Int32).toInt; decide, by show (15 : Int32).toInt ≤ (15 : Int); decide⟩
      · -- number 1
        obtain ⟨-, -, h0', hj', -⟩ := hP
        obtain ⟨v1, v2⟩ := hj' 0 (by omega)
        have ev : f_X10_value S' 15 3 (nI i) (nI 1 - 1) = gI T' 69 (44 + 4 * i + 0) := (val_at S' 15 (s := 3) (i := i) (f := 0) (by decide) hi (by decide)).trans v1
        refine ⟨⟨?_, ?_, ?_⟩, high_t S' (w := 3) (k := 1) (by decide) (by decide) (by decide), ?_, ?_⟩
        · show (F_X4_lowOf S' 13 (nI 3) (nI 1) (nI i)).1 = (if gI T' 64 16 = 0 then gI T' 69 (44 + 4 * i) else 0)
          unfold F_X4_lowOf
          simp only [bd_def]
          rw [pr_1, show (if nI 3 = (3 : Int32) then (if (nI 1 - nI 1 / (2 : Int32) * (2 : Int32)) = (1 : Int32) then (1 : Int32) else 0) else 0) = 1 by decide, if_neg one_ne, ev, if_pos h0']
          rfl
        · exact fun x3 e3 q => absurd q (by rw [← e3]; decide)
        · exact fun x3 e3 q => p_val _ _ _ _ _
        · show (0 : Int) ≤ (if gI T' 64 16 = 0 then gI T' 69 (44 + 4 * i) else 0).toInt
          rw [if_pos h0']; exact v2.1
        · show (15 : Int32).toInt ≤ (15 : Int)
          decide
      · exact ⟨low_t S' (w := 3) (k := 2) (by decide) (by decide) (by decide) _, high_t S' (w := 3) (k := 2) (by decide) (by decide) (by decide), by show (0 : Int) ≤ (0 : Int32).toInt; decide, by show (200 : Int32).toInt ≤ (200 : Int); decide⟩
      · -- number 3
        obtain ⟨-, -, h0', hj', -⟩ := hP
        obtain ⟨v1, v2⟩ := hj' 2 (by omega)
        have ev : f_X10_value S' 15 3 (nI i) (nI 3 - 1) = gI T' 69 (44 + 4 * i + 2) := (val_at S' 15 (s := 3) (i := i) (f := 2) (by decide) hi (by decide)).trans v1
        refine ⟨⟨?_, ?_, ?_⟩, high_t S' (w := 3) (k := 3) (by decide) (by decide) (by decide), ?_, ?_⟩
        · show (F_X4_lowOf S' 13 (nI 3) (nI 3) (nI i)).1 = (if gI T' 64 16 = 0 then gI T' 69 (44 + 4 * i + 2) else 0)
          unfold F_X4_lowOf
          simp only [bd_def]
          rw [pr_1, show (if nI 3 = (3 : Int32) then (if (nI 3 - nI 3 / (2 : Int32) * (2 : Int32)) = (1 : Int32) then (1 : Int32) else 0) else 0) = 1 by decide, if_neg one_ne, ev, if_pos h0']
          
        · exact fun x3 e3 q => absurd q (by rw [← e3]; decide)
        · exact fun x3 e3 q => p_val _ _ _ _ _
        · show (0 : Int) ≤ (if gI T' 64 16 = 0 then gI T' 69 (44 + 4 * i + 2) else 0).toInt
          rw [if_pos h0']; exact v2.1
        · show (200 : Int32).toInt ≤ (200 : Int)
          decide)
  rw [← show (3 : Int32) = nI 3 from rfl] at r1 r4
  rw [← show (3 : Int32) = nI 3 from rfl] at pE
  rw [← eR] at r4
  refine ⟨r1, ?_, ?_⟩
  · -- the places
    refine ⟨g3', fun r1 er1 x2 ex2 => ?_, fun r1 er1 x2 ex2 r3 er3 _ => ?_, fun r1 er1 x2 ex2 r3 er3 x5 ex5 => ?_, fun r1 er1 x2 ex2 r3 er3 x5 ex5 r6 er6 => ?_, fun r1 er1 x2 ex2 r3 er3 x5 ex5 r6 er6 r7 er7 _ => ?_, fun r1 er1 x2 ex2 r3 er3 x5 ex5 r6 er6 r7 er7 x9 ex9 => ?_, fun r1 er1 x2 ex2 r3 er3 x5 ex5 r6 er6 r7 er7 x9 ex9 r10 er10 => ?_⟩
    · rw [← er1, g1'] at ex2
      rw [← er1, g2', ← ex2]; exact pI.1
    · rw [← er1, g1'] at ex2
      rw [← ex2]; exact vp_in_nI (by omega) (by omega)
    · rw [← er1, g1'] at ex2
      rw [← er1, g2', ← ex2] at er3
      rw [← er3, ← ex2, nI_clamp' (by omega)] at ex5
      rw [← er3, ← ex5, ← ex2, a1]; exact pI.2.1
    · rw [← er1, g1'] at ex2
      rw [← er1, g2', ← ex2] at er3
      rw [← er3, ← ex2, nI_clamp' (by omega)] at ex5
      rw [← er3, ← ex5, ← ex2, a1] at er6
      rw [← er6, ← ex2, a2]; exact pI.2.2.1
    · rw [← er1, g1'] at ex2
      rw [← ex2, a2]; exact vp_in_nI (by omega) (by omega)
    · rw [← er1, g1'] at ex2
      rw [← er1, g2', ← ex2] at er3
      rw [← er3, ← ex2, nI_clamp' (by omega)] at ex5
      rw [← er3, ← ex5, ← ex2, a1] at er6
      rw [← er6, ← ex2, a2] at er7
      rw [← er7, ← ex2, a2, nI_clamp' (by omega)] at ex9
      rw [← er7, ← ex9, ← ex2, a3]; exact pI.2.2.2.1
    · rw [← er1, g1'] at ex2
      rw [← er1, g2', ← ex2] at er3
      rw [← er3, ← ex2, nI_clamp' (by omega)] at ex5
      rw [← er3, ← ex5, ← ex2, a1] at er6
      rw [← er6, ← ex2, a2] at er7
      rw [← er7, ← ex2, a2, nI_clamp' (by omega)] at ex9
      rw [← er7, ← ex9, ← ex2, a3] at er10
      rw [← er10]; exact pE
  · rcases r4 with q | ⟨q1, q2, q3, q4, q5, q6, q7, q8⟩
    · exact Or.inl q
    · right
      have hV : ∀ x, ¬ ((10 + i) * 5 + 0 ≤ x ∧ x < (10 + i) * 5 + 0 + 4) → gI (f_X4_readThing S 13 3 3).2 17 x = gI S 17 x := fun x hx => by
        rw [q6 x hx, if_neg (fun z => absurd z.1 (by decide))]
      have hW : ∀ x, ¬ ((44 + 4 * i) ≤ x ∧ x < (44 + 4 * i) + 4) → gI (f_X12_readForm T 64) 69 x = if x = 3 then nI (i + 1) else gI T 69 x := fun x hx => by rw [q7 x hx, n69]
      refine ⟨q1, ⟨q2, q3, q4, wr_form hi hWR hV hW (fun j hj => (q5 j hj).1) q8, wb_form hi hWB hc hW (q5 0 (by omega)).2 (q5 1 (by omega)).2 (q5 2 (by omega)).2 (q5 3 (by omega)).2, fun i' h1 h2 f hf => ?_⟩, fun x hx => hW x (by omega)⟩
      rw [hW 5 (by omega), if_neg (by omega)] at h1
      rw [hW _ (by omega), if_neg (by omega)]
      exact hZ i' h1 h2 f hf
theorem wr_rule {C V W C' V' W' : Nat → Int32} (h : WayR C V W) (hV : ∀ x, ¬ ((16 + 0) * 5 + 0 ≤ x ∧ x < (16 + 0) * 5 + 0 + 4) → V' x = V x) (hW : ∀ x, ¬ (68 ≤ x ∧ x < 68 + 4) → W' x = if x = 4 then nI (0 + 1) else W x) (hn : ∀ j, j < 4 → V' ((16 + 0) * 5 + 0 + j) = W' (68 + j)) (hC : ∀ x, C' x = if x = 4 then nI (0 + 1) else C x) : WayR C' V' W' := by
  refine ⟨fun j hj => ?_, fun a f ha hf => by rw [hV _ (by omega), hW _ (by omega), if_neg (by omega)]; exact h.2.1 a f ha hf, fun a f ha hf => by rw [hV _ (by omega), hW _ (by omega), if_neg (by omega)]; exact h.2.2.1 a f ha hf, fun a f ha hf => by rw [hV _ (by omega), hW _ (by omega), if_neg (by omega)]; exact h.2.2.2.1 a f ha hf, fun a f ha hf => by rw [hV _ (by omega), hW _ (by omega), if_neg (by omega)]; exact h.2.2.2.2.1 a f ha hf, fun f hf => hn f hf, fun a f ha hf => by rw [hV _ (by omega), hW _ (by omega), if_neg (by omega)]; exact h.2.2.2.2.2.2 a f ha hf⟩
  rw [hC, hW j (by omega)]
  by_cases q : j = 4
  · rw [if_pos q, if_pos q]
  · rw [if_neg q, if_neg q]; exact h.1 j hj
theorem wb_rule {W W' : Nat → Int32} (hB : WayB W) (hc : W 4 = nI 0) (hW : ∀ x, ¬ (68 ≤ x ∧ x < 68 + 4) → W' x = if x = 4 then nI (0 + 1) else W x) (b0 : bw (W' (68 + 0)) 1 200) (b1 : bw (W' (68 + 1)) 0 99) (b2 : bw (W' (68 + 2)) 0 99) (b3 : bw (W' (68 + 3)) 0 99) : WayB W' := by
  have hWo : ∀ x, ¬ (68 ≤ x ∧ x < 68 + 4) → x ≠ 4 → W' x = W x := fun x h1 h2 => by rw [hW x h1, if_neg h2]
  have hWs : W' 4 = nI (0 + 1) := by rw [hW 4 (by omega), if_pos rfl]
  refine ⟨⟨by rw [hWo 0 (by omega) (by omega)]; exact hB.1.1, by rw [hWo 1 (by omega) (by omega)]; exact hB.1.2.1, by rw [hWo 2 (by omega) (by omega)]; exact hB.1.2.2.1, by rw [hWo 3 (by omega) (by omega)]; exact hB.1.2.2.2.1, by rw [hWs]; exact ⟨by rw [nI_ti (by omega)]; omega, by rw [nI_ti (by omega)]; omega⟩, by rw [hWo 5 (by omega) (by omega)]; exact hB.1.2.2.2.2.2⟩, fun a ha => by
    rw [hWo (6 + 3 * a) (by omega) (by omega), hWo (6 + 3 * a + 1) (by omega) (by omega), hWo (6 + 3 * a + 2) (by omega) (by omega), hWo 0 (by omega) (by omega)]
    exact hB.2.1 a ha, fun a ha => by
    rw [hWo (15 + 3 * a) (by omega) (by omega), hWo (15 + 3 * a + 1) (by omega) (by omega), hWo (15 + 3 * a + 2) (by omega) (by omega), hWo 1 (by omega) (by omega)]
    exact hB.2.2.1 a ha, fun a ha => by
    rw [hWo (24 + 5 * a) (by omega) (by omega), hWo (24 + 5 * a + 1) (by omega) (by omega), hWo (24 + 5 * a + 2) (by omega) (by omega), hWo (24 + 5 * a + 3) (by omega) (by omega), hWo (24 + 5 * a + 4) (by omega) (by omega), hWo 2 (by omega) (by omega)]
    exact hB.2.2.2.1 a ha, fun a ha => by
    rw [hWo (44 + 4 * a) (by omega) (by omega), hWo (44 + 4 * a + 1) (by omega) (by omega), hWo (44 + 4 * a + 2) (by omega) (by omega), hWo (44 + 4 * a + 3) (by omega) (by omega)]
    exact hB.2.2.2.2.1 a ha, ⟨⟨Int.le_trans (by decide) b0.1, b0.2⟩, b1, b2, b3⟩, fun a ha hlt => ?_⟩
  rw [hWo 5 (by omega) (by omega)] at hlt
  exact act_mono (hWo _ (by omega) (by omega)) (hWo _ (by omega) (by omega)) (hWo _ (by omega) (by omega)) (hWo _ (by omega) (by omega)) (hWo _ (by omega) (by omega)) (by rw [hWo 2 (by omega) (by omega)]; exact Int.le_refl _) (hB.2.2.2.2.2.2 a ha hlt)
theorem t_rule {N : Nat} {S T : HSt} (hG : GS N S T) (hc : gI T 69 4 = nI 0) : p_X4_readThing S 13 4 4 ∧ p_X12_readRule T 64 ∧ (((f_X4_readThing S 13 4 4).1 = 0 ∧ FE (f_X4_readThing S 13 4 4).2 (f_X12_readRule T 64)) ∨ ((f_X4_readThing S 13 4 4).1 = 1 ∧ GS N (f_X4_readThing S 13 4 4).2 (f_X12_readRule T 64) ∧ ∀ x, x < 6 → gI (f_X12_readRule T 64) 69 x = if x = 4 then nI (0 + 1) else gI T 69 x)) := by
  obtain ⟨hT, ⟨kd, b, e, hX⟩, h0, hWR, hWB, hZ⟩ := hG
  have hX' := hX
  obtain ⟨⟨s3, s4, s5⟩, ⟨t12, t13, t14, t15⟩, ⟨hbe, heN, hkd⟩, -, -⟩ := hX'
  obtain ⟨pc, pm, hT1, hX1⟩ := next_R hT s5 t12 heN
  have fm := v_X12_next T 64
  have fc := v_X4_next S 13
  have n69 : gI (f_X12_next T 64) 69 = gI T 69 := fr_addr fm 69 (by decide)

  have eR : f_X12_readRule T 64 = f_X12_ends (iterN 68 (fun k _ => match k with | 0 => (1 : Int32) | 1 => (0 : Int32) | 2 => (0 : Int32) | _ => (0 : Int32)) (fun k _ => match k with | 0 => (200 : Int32) | 1 => (99 : Int32) | 2 => (99 : Int32) | _ => (99 : Int32)) 4 0 (f_X12_next T 64)) 64 4 := by
    unfold f_X12_readRule
    simp only [bd_def]
    rw [must_1 h0]
    rfl
  obtain ⟨r1, pI, pE, r4⟩ := thing (N := N) (at' := 68) (w := 4) (s := 4) (i := 0) (first := 0) (K := 4) (S := S) (T1 := f_X12_next T 64) (lc := fun k => match k with | 0 => (1 : Int) | 1 => (0 : Int) | 2 => (0 : Int) | _ => (0 : Int)) (hc := fun k => match k with | 0 => (200 : Int) | 1 => (99 : Int) | 2 => (99 : Int) | _ => (99 : Int)) (lo := fun k _ => match k with | 0 => (1 : Int32) | 1 => (0 : Int32) | 2 => (0 : Int32) | _ => (0 : Int32)) (hi := fun k _ => match k with | 0 => (200 : Int32) | 1 => (99 : Int32) | 2 => (99 : Int32) | _ => (99 : Int32)) (by decide) (by decide) (by decide) (by decide) (by decide) (by omega) (by omega) (by decide) ((hWR.1 4 (by decide)).trans hc) (by rw [n69]; exact hc) (fun q => absurd q (by decide)) pc ⟨hT1, hX1, by rw [fm 64 16 (by decide) (by decide), h0], fun j hj => by omega, fun _ _ => rfl, fun _ _ => rfl, rfl⟩ (fun k hk S' T' hP => by
      have hkc : k = 0 ∨ k = 1 ∨ k = 2 ∨ k = 3 := by omega
      rcases hkc with rfl | rfl | rfl | rfl
      · exact ⟨low_t S' (w := 4) (k := 0) (by decide) (by decide) (by decide) _, high_t S' (w := 4) (k := 0) (by decide) (by decide) (by decide), by show (1 : Int) ≤ (1 : Int32).toInt; decide, by show (200 : Int32).toInt ≤ (200 : Int); decide⟩
      · exact ⟨low_t S' (w := 4) (k := 1) (by decide) (by decide) (by decide) _, high_t S' (w := 4) (k := 1) (by decide) (by decide) (by decide), by show (0 : Int) ≤ (0 : Int32).toInt; decide, by show (99 : Int32).toInt ≤ (99 : Int); decide⟩
      · exact ⟨low_t S' (w := 4) (k := 2) (by decide) (by decide) (by decide) _, high_t S' (w := 4) (k := 2) (by decide) (by decide) (by decide), by show (0 : Int) ≤ (0 : Int32).toInt; decide, by show (99 : Int32).toInt ≤ (99 : Int); decide⟩
      · exact ⟨low_t S' (w := 4) (k := 3) (by decide) (by decide) (by decide) _, high_t S' (w := 4) (k := 3) (by decide) (by decide) (by decide), by show (0 : Int) ≤ (0 : Int32).toInt; decide, by show (99 : Int32).toInt ≤ (99 : Int); decide⟩)
  rw [← show (4 : Int32) = nI 4 from rfl] at r1 r4
  rw [← show (4 : Int32) = nI 4 from rfl] at pE
  rw [← eR] at r4
  refine ⟨r1, ?_, ?_⟩
  · -- the places
    refine ⟨fun S3 e3 _ => by rw [if_neg one_ne] at e3; rw [← e3]; exact pm, fun r1 er1 => ?_, fun r1 er1 r2 er2 => ?_, fun r1 er1 r2 er2 r3 er3 => ?_, fun r1 er1 r2 er2 r3 er3 r4 er4 => ?_, fun r1 er1 r2 er2 r3 er3 r4 er4 r5 er5 => ?_⟩
    · rw [must_1 h0] at er1; rw [← er1]; exact pI.1
    · rw [must_1 h0] at er1; rw [← er1] at er2; rw [← er2]; exact pI.2.1
    · rw [must_1 h0] at er1; rw [← er1] at er2; rw [← er2] at er3; rw [← er3]; exact pI.2.2.1
    · rw [must_1 h0] at er1; rw [← er1] at er2; rw [← er2] at er3; rw [← er3] at er4; rw [← er4]; exact pI.2.2.2.1
    · rw [must_1 h0] at er1; rw [← er1] at er2; rw [← er2] at er3; rw [← er3] at er4; rw [← er4] at er5; rw [← er5]; exact pE
  · rcases r4 with q | ⟨q1, q2, q3, q4, q5, q6, q7, q8⟩
    · exact Or.inl q
    · right
      have hV : ∀ x, ¬ ((16 + 0) * 5 + 0 ≤ x ∧ x < (16 + 0) * 5 + 0 + 4) → gI (f_X4_readThing S 13 4 4).2 17 x = gI S 17 x := fun x hx => by
        rw [q6 x hx, if_neg (fun z => absurd z.1 (by decide))]
      have hW : ∀ x, ¬ (68 ≤ x ∧ x < 68 + 4) → gI (f_X12_readRule T 64) 69 x = if x = 4 then nI (0 + 1) else gI T 69 x := fun x hx => by rw [q7 x hx, n69]
      refine ⟨q1, ⟨q2, q3, q4, wr_rule hWR hV hW (fun j hj => (q5 j hj).1) q8, wb_rule hWB hc hW (q5 0 (by omega)).2 (q5 1 (by omega)).2 (q5 2 (by omega)).2 (q5 3 (by omega)).2, fun i' h1 h2 f hf => ?_⟩, fun x hx => hW x (by omega)⟩
      rw [hW 5 (by omega), if_neg (by omega)] at h1
      rw [hW _ (by omega), if_neg (by omega)]
      exact hZ i' h1 h2 f hf
