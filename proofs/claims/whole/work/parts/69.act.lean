-- needs: 68.things
/-! ===== way: acts ===== -/
theorem none_L {at' : Nat} (hat : at' + 5 ≤ 172) (v1 : Int32) : ∀ (n k : Nat) (T : HSt), k ≤ 5 → 5 - k < n → T_X12_readAct_45 n T v1 (nI at') (nI k) ∧ (L_X12_readAct_45 n T v1 (nI at') (nI k)).1 = v1 ∧ (L_X12_readAct_45 n T v1 (nI at') (nI k)).2.1 = nI at' ∧ (∀ x, gI (L_X12_readAct_45 n T v1 (nI at') (nI k)).2.2.2 69 x = if at' + k ≤ x ∧ x < at' + 5 then -1000000 else gI T 69 x) ∧ (∀ x, x ≠ 69 → gI (L_X12_readAct_45 n T v1 (nI at') (nI k)).2.2.2 x = gI T x) := by
  intro n
  induction n with
  | zero => intro k T _ h; omega
  | succ n ih =>
    intro k T hk hn
    unfold T_X12_readAct_45 L_X12_readAct_45
    by_cases c : (5 : Int32) ≤ nI k
    · have : k = 5 := by
        rw [ti_le, nI_ti (by omega), show (5 : Int32).toInt = 5 from rfl] at c
        omega
      subst this
      rw [if_pos c]
      refine ⟨⟨fun q => absurd c q, fun q => absurd c q⟩, rfl, rfl, fun x => ?_, fun x _ => rfl⟩
      rw [if_neg (by omega)]
      rfl
    · have hk5 : k < 5 := by
        rw [ti_le, nI_ti (by omega), show (5 : Int32).toInt = 5 from rfl] at c
        omega
      rw [if_neg c, bd_def, nI_add, nI_clamp' (by omega)]
      obtain ⟨i1, i2, i3, i4, i5⟩ := ih (k + 1) (sI T 69 (at' + k) (-1000000)) (by omega) (by omega)
      rw [nI_succ] at i1 i2 i3 i4 i5
      refine ⟨⟨fun _ => vp_in_nI (by omega) (by omega), fun _ S1 e => by rw [← e]; exact i1⟩, i2, i3, fun x => ?_, fun x hx => (i5 x hx).trans (gs_ne hx)⟩
      rw [i4 x, gs_eq]
      by_cases q : x = at' + k
      · rw [if_neg (by omega), if_pos q, if_pos (by omega)]
      · rw [if_neg q]
        by_cases q2 : at' + (k + 1) ≤ x ∧ x < at' + 5
        · rw [if_pos q2, if_pos (by omega)]
        · rw [if_neg q2, if_neg (by omega)]
/-- the act's numbers: how many, from, to -/
def aK (w : Nat) : Nat := if w ≤ 6 then 4 else if w ≤ 8 then 1 else 0
def aLo (w k : Nat) (_T : HSt) : Int32 := if w ≤ 6 then (match k with | 0 => 1 | _ => 0) else 0
def aHi (w k : Nat) (T : HSt) : Int32 := if w ≤ 6 then (match k with | 0 => 40 | 1 => 4 | 2 => 9 | _ => 15) else gI T 69 2 - 1
def aLc (w k : Nat) : Int := if w ≤ 6 then (match k with | 0 => 1 | _ => 0) else 0
def aHc (w k : Nat) (b : Int) : Int := if w ≤ 6 then (match k with | 0 => 40 | 1 => 4 | 2 => 9 | _ => 15) else b - 1
theorem aL_le (w k : Nat) (T : HSt) : aLc w k ≤ (aLo w k T).toInt := by
  unfold aLc aLo
  by_cases q : w ≤ 6
  · rw [if_pos q, if_pos q]
    match k with
    | 0 => decide
    | _ + 1 => exact Int.le_refl _
  · rw [if_neg q, if_neg q]
    exact Int.le_refl _
theorem aK_t : ∀ w, 5 ≤ w → w < 10 → (tbF 3).getD w 0 = nI (aK w) := by
  intro w h1 h2
  have hc : w = 5 ∨ w = 6 ∨ w = 7 ∨ w = 8 ∨ w = 9 := by omega
  rcases hc with rfl | rfl | rfl | rfl | rfl <;> decide
theorem high_b (S : HSt) {w k : Nat} (hw : w = 7 ∨ w = 8) : f_X4_highOf S 13 (nI w) (nI k) = gI S 16 2 - 1 ∧ p_X4_highOf S 13 (nI w) (nI k) := by
  have hz : (if nI w = (7 : Int32) then (1 : Int32) else if nI w = (8 : Int32) then 1 else 0) = 1 := by
    rcases hw with rfl | rfl <;> decide
  constructor
  · show (F_X4_highOf S 13 (nI w) (nI k)).1 = _
    unfold F_X4_highOf
    simp only [bd_def]
    rw [pr_1, hz, if_neg one_ne, show f_X10_howMany S 15 2 = gI S 16 2 from many15 S (s := 2) (by decide)]
  · refine ⟨fun x3 e3 q => ?_, fun x3 e3 q => p_many _ _ _⟩
    rw [hz] at e3; rw [← e3] at q; exact absurd q one_ne
/-- the model's heap where an act's numbers begin -/
noncomputable def aT (T : HSt) (i kd : Nat) : HSt := (L_X12_readAct_45 1000 (sI (f_X12_next T 64) 69 (72 + 5 * i) (nI kd)) (nI kd) (nI (72 + 5 * i)) 1).2.2.2
theorem aT_v {T : HSt} {i kd : Nat} (hi : i < 20) : (∀ x, gI (aT T i kd) 69 x = if x = 72 + 5 * i then nI kd else if 72 + 5 * i + 1 ≤ x ∧ x < 72 + 5 * i + 5 then -1000000 else gI T 69 x) ∧ (∀ x, x ≠ 69 → gI (aT T i kd) x = gI (f_X12_next T 64) x) := by
  obtain ⟨-, -, -, h4, h5⟩ := none_L (at' := 72 + 5 * i) (by omega) (nI kd) 1000 1 (sI (f_X12_next T 64) 69 (72 + 5 * i) (nI kd)) (by omega) (by omega)
  rw [show nI 1 = (1 : Int32) from rfl] at h4 h5
  have n69 : ∀ x, gI (f_X12_next T 64) 69 x = gI T 69 x := fun x => congrFun (fr_addr (v_X12_next T 64) 69 (by decide)) x
  refine ⟨fun x => ?_, fun x hx => (h5 x hx).trans (gs_ne hx)⟩
  refine (h4 x).trans ?_
  rw [gs_eq, n69]
  by_cases q : x = 72 + 5 * i
  · rw [if_neg (by omega), if_pos q, if_pos q]
  · rw [if_neg q, if_neg q]
theorem wr_act {C V W C' V' W' : Nat → Int32} {i w : Nat} (hi : i < 20) (hw : 5 ≤ w ∧ w < 10) (h : WayR C V W) (hZ : ∀ f, f < 5 → W (72 + 5 * i + f) = 0) (hV : ∀ x, ¬ ((17 + i) * 5 + 1 ≤ x ∧ x < (17 + i) * 5 + 1 + aK w) → V' x = if x = (17 + i) * 5 then nI (w - 3) else V x) (hW : ∀ x, ¬ (72 + 5 * i + 1 ≤ x ∧ x < 72 + 5 * i + 1 + aK w) → W' x = if x = 5 then nI (i + 1) else if x = 72 + 5 * i then nI (w - 3) else if 72 + 5 * i + 1 ≤ x ∧ x < 72 + 5 * i + 5 then -1000000 else W x) (hn : ∀ j, j < aK w → V' ((17 + i) * 5 + 1 + j) = W' (72 + 5 * i + 1 + j) ∧ 0 ≤ (W' (72 + 5 * i + 1 + j)).toInt) (hC : ∀ x, C' x = if x = 5 then nI (i + 1) else C x) : WayR C' V' W' := by
  have hK : aK w ≤ 4 := by unfold aK; split <;> (try split) <;> omega
  have o : ∀ x, x < 72 → x ≠ 5 → W' x = W x := fun x h1 h2 => by rw [hW x (by omega), if_neg h2, if_neg (by omega), if_neg (by omega)]
  have ov : ∀ x, x < 85 → V' x = V x := fun x h1 => by rw [hV x (by omega), if_neg (by omega)]
  refine ⟨fun j hj => ?_, fun a f ha hf => by rw [ov _ (by omega), o _ (by omega) (by omega)]; exact h.2.1 a f ha hf, fun a f ha hf => by rw [ov _ (by omega), o _ (by omega) (by omega)]; exact h.2.2.1 a f ha hf, fun a f ha hf => by rw [ov _ (by omega), o _ (by omega) (by omega)]; exact h.2.2.2.1 a f ha hf, fun a f ha hf => by rw [ov _ (by omega), o _ (by omega) (by omega)]; exact h.2.2.2.2.1 a f ha hf, fun f hf => by rw [ov _ (by omega), o _ (by omega) (by omega)]; exact h.2.2.2.2.2.1 f hf, fun a f ha hf => ?_⟩
  · rw [hC]
    by_cases q : j = 5
    · rw [if_pos q, hW j (by omega), if_pos q]
    · rw [if_neg q, o j (by omega) q]; exact h.1 j hj
  · by_cases q : a = i
    · subst q
      by_cases f0 : f = 0
      · subst f0
        rw [show (17 + a) * 5 + 0 = (17 + a) * 5 from rfl, show 72 + 5 * a + 0 = 72 + 5 * a from rfl, hV _ (by omega), if_pos rfl, hW _ (by omega), if_neg (by omega), if_pos rfl, cl0_of (nI_none (by omega))]
      · by_cases fK : f < 1 + aK w
        · obtain ⟨n1, n2⟩ := hn (f - 1) (by omega)
          rw [show (17 + a) * 5 + 1 + (f - 1) = (17 + a) * 5 + f by omega, show 72 + 5 * a + 1 + (f - 1) = 72 + 5 * a + f by omega] at n1
          rw [show 72 + 5 * a + 1 + (f - 1) = 72 + 5 * a + f by omega] at n2
          rw [n1, cl0_of (fun z => by rw [z] at n2; exact absurd n2 (by decide))]
        · rw [hV _ (by omega), if_neg (by omega), h.2.2.2.2.2.2 a f ha hf, hZ f hf, hW _ (by omega), if_neg (by omega), if_neg (by omega), if_pos (by omega)]
          rfl
    · rw [hV _ (by omega), if_neg (by omega), hW _ (by omega), if_neg (by omega), if_neg (by omega), if_neg (by omega)]
      exact h.2.2.2.2.2.2 a f ha hf
theorem wb_act {W W' : Nat → Int32} {i w : Nat} (hi : i < 20) (hw : 5 ≤ w ∧ w < 10) (hB : WayB W) (hc : W 5 = nI i) (hW : ∀ x, ¬ (72 + 5 * i + 1 ≤ x ∧ x < 72 + 5 * i + 1 + aK w) → W' x = if x = 5 then nI (i + 1) else if x = 72 + 5 * i then nI (w - 3) else if 72 + 5 * i + 1 ≤ x ∧ x < 72 + 5 * i + 5 then -1000000 else W x) (hn : ∀ j, j < aK w → bw (W' (72 + 5 * i + 1 + j)) (aLc w j) (aHc w j (W 2).toInt)) : WayB W' := by
  have hK : aK w ≤ 4 := by unfold aK; split <;> (try split) <;> omega
  have o : ∀ x, x < 72 → x ≠ 5 → W' x = W x := fun x h1 h2 => by rw [hW x (by omega), if_neg h2, if_neg (by omega), if_neg (by omega)]
  have o5 : W' 5 = nI (i + 1) := by rw [hW 5 (by omega), if_pos rfl]
  refine ⟨⟨by rw [o 0 (by omega) (by omega)]; exact hB.1.1, by rw [o 1 (by omega) (by omega)]; exact hB.1.2.1, by rw [o 2 (by omega) (by omega)]; exact hB.1.2.2.1, by rw [o 3 (by omega) (by omega)]; exact hB.1.2.2.2.1, by rw [o 4 (by omega) (by omega)]; exact hB.1.2.2.2.2.1, by rw [o5]; exact ⟨by rw [nI_ti (by omega)]; omega, by rw [nI_ti (by omega)]; omega⟩⟩, fun a ha => ?_, fun a ha => ?_, fun a ha => ?_, fun a ha => ?_, ?_, fun a ha hlt => ?_⟩
  · rw [o (6 + 3 * a) (by omega) (by omega), o (6 + 3 * a + 1) (by omega) (by omega), o (6 + 3 * a + 2) (by omega) (by omega), o 0 (by omega) (by omega)]
    exact hB.2.1 a ha
  · rw [o (15 + 3 * a) (by omega) (by omega), o (15 + 3 * a + 1) (by omega) (by omega), o (15 + 3 * a + 2) (by omega) (by omega), o 1 (by omega) (by omega)]
    exact hB.2.2.1 a ha
  · rw [o (24 + 5 * a) (by omega) (by omega), o (24 + 5 * a + 1) (by omega) (by omega), o (24 + 5 * a + 2) (by omega) (by omega), o (24 + 5 * a + 3) (by omega) (by omega), o (24 + 5 * a + 4) (by omega) (by omega), o 2 (by omega) (by omega)]
    exact hB.2.2.2.1 a ha
  · rw [o (44 + 4 * a) (by omega) (by omega), o (44 + 4 * a + 1) (by omega) (by omega), o (44 + 4 * a + 2) (by omega) (by omega), o (44 + 4 * a + 3) (by omega) (by omega)]
    exact hB.2.2.2.2.1 a ha
  · rw [o 68 (by omega) (by omega), o 69 (by omega) (by omega), o 70 (by omega) (by omega), o 71 (by omega) (by omega)]
    exact hB.2.2.2.2.2.1
  · by_cases q : a = i
    · subst q
      have k0 : W' (72 + 5 * a) = nI (w - 3) := by rw [hW _ (by omega), if_neg (by omega), if_pos rfl]
      have kn : ∀ f, 1 + aK w ≤ f → f < 5 → W' (72 + 5 * a + f) = -1000000 := fun f h1 h2 => by rw [hW _ (by omega), if_neg (by omega), if_neg (by omega), if_pos (by omega)]
      unfold ActB
      have hcw : w = 5 ∨ w = 6 ∨ w = 7 ∨ w = 8 ∨ w = 9 := by omega
      rcases hcw with rfl | rfl | rfl | rfl | rfl
      · exact Or.inl ⟨Or.inl k0, hn 0 (by decide), hn 1 (by decide), hn 2 (by decide), hn 3 (by decide)⟩
      · exact Or.inl ⟨Or.inr k0, hn 0 (by decide), hn 1 (by decide), hn 2 (by decide), hn 3 (by decide)⟩
      · have b := hn 0 (by decide)
        have b1 : 0 ≤ (W' (72 + 5 * a + 1)).toInt := b.1
        have b2 : (W' (72 + 5 * a + 1)).toInt ≤ (W 2).toInt - 1 := b.2
        exact Or.inr (Or.inl ⟨Or.inl k0, ⟨b1, by rw [o 2 (by omega) (by omega)]; omega⟩, kn 2 (by decide) (by omega), kn 3 (by decide) (by omega), kn 4 (by decide) (by omega)⟩)
      · have b := hn 0 (by decide)
        have b1 : 0 ≤ (W' (72 + 5 * a + 1)).toInt := b.1
        have b2 : (W' (72 + 5 * a + 1)).toInt ≤ (W 2).toInt - 1 := b.2
        exact Or.inr (Or.inl ⟨Or.inr k0, ⟨b1, by rw [o 2 (by omega) (by omega)]; omega⟩, kn 2 (by decide) (by omega), kn 3 (by decide) (by omega), kn 4 (by decide) (by omega)⟩)
      · exact Or.inr (Or.inr ⟨k0, kn 1 (by decide) (by omega), kn 2 (by decide) (by omega), kn 3 (by decide) (by omega), kn 4 (by decide) (by omega)⟩)
    · have hx : ∀ f, f < 5 → W' (72 + 5 * a + f) = W (72 + 5 * a + f) := fun f hf => by rw [hW _ (by omega), if_neg (by omega), if_neg (by omega), if_neg (by omega)]
      rw [o5, nI_ti (by omega)] at hlt
      exact act_mono (hx 0 (by decide)) (hx 1 (by decide)) (hx 2 (by decide)) (hx 3 (by decide)) (hx 4 (by decide)) (by rw [o 2 (by omega) (by omega)]; exact Int.le_refl _) (hB.2.2.2.2.2.2 a ha (by rw [hc, nI_ti (by omega)]; omega))
theorem t_act {N : Nat} {S T : HSt} {i w : Nat} (hi : i < 20) (hw : 5 ≤ w ∧ w < 10) (hG : GS N S T) (hc : gI T 69 5 = nI i) (hkw : f_X12_kindOfWord T 64 = nI (w - 3)) (pkw : p_X12_kindOfWord T 64) : p_X4_readThing S 13 (nI w) 5 ∧ p_X12_readAct T 64 ∧ (((f_X4_readThing S 13 (nI w) 5).1 = 0 ∧ FE (f_X4_readThing S 13 (nI w) 5).2 (f_X12_readAct T 64)) ∨ ((f_X4_readThing S 13 (nI w) 5).1 = 1 ∧ GS N (f_X4_readThing S 13 (nI w) 5).2 (f_X12_readAct T 64) ∧ ∀ x, x < 6 → gI (f_X12_readAct T 64) 69 x = if x = 5 then nI (i + 1) else gI T 69 x)) := by
  obtain ⟨hT, ⟨kd, b, e, hX⟩, h0, hWR, hWB, hZ⟩ := hG
  have hX' := hX
  obtain ⟨⟨s3, s4, s5⟩, ⟨t12, t13, t14, t15⟩, ⟨hbe, heN, hkd⟩, -, -⟩ := hX'
  obtain ⟨pc, pm, hT1, kd1, b1, e1, hX1⟩ := next_R hT s5 t12 heN
  have fm := v_X12_next T 64
  have fc := v_X4_next S 13
  have n69 : gI (f_X12_next T 64) 69 = gI T 69 := fr_addr fm 69 (by decide)
  have hK4 : aK w ≤ 4 := by unfold aK; split <;> (try split) <;> omega
  obtain ⟨g1, g2, g3⟩ := begins_at h0 (s := 5) (i := i) (room := 20) (at' := 72) (each := 5) (by decide) hi (by decide) hc pm
  have g1' : (f_X12_begins T 64 5 20 72 5).1 = nI (72 + 5 * i) := g1
  have g2' : (f_X12_begins T 64 5 20 72 5).2 = f_X12_next T 64 := g2
  have g3' : p_X12_begins T 64 5 20 72 5 := g3
  obtain ⟨l1, l2, l3, -, -⟩ := none_L (at' := 72 + 5 * i) (by omega) (nI (w - 3)) 1000 1 (sI (f_X12_next T 64) 69 (72 + 5 * i) (nI (w - 3))) (by omega) (by omega)
  rw [show nI 1 = (1 : Int32) from rfl] at l1 l2 l3
  obtain ⟨av, ao⟩ := aT_v (T := T) (i := i) (kd := w - 3) hi
  have eaT : (L_X12_readAct_45 1000 (sI (f_X12_next T 64) 69 (72 + 5 * i) (nI (w - 3))) (nI (w - 3)) (nI (72 + 5 * i)) 1).2.2.2 = aT T i (w - 3) := rfl
  have n16 : gI (f_X12_next T 64) 64 16 ≤ 0 := by rw [fm 64 16 (by decide) (by decide), h0]; decide
  have zk : ¬ nI (w - 3) = (-1000000 : Int32) := nI_none (by omega)
  have a1 : nI (72 + 5 * i) + (1 : Int32) = nI (72 + 5 * i + 1) := nI_add _ 1
  have a2 : nI (72 + 5 * i) + (2 : Int32) = nI (72 + 5 * i + 1 + 1) := nI_add _ 2
  have a3 : nI (72 + 5 * i) + (3 : Int32) = nI (72 + 5 * i + 1 + 2) := nI_add _ 3
  have a4 : nI (72 + 5 * i) + (4 : Int32) = nI (72 + 5 * i + 1 + 3) := nI_add _ 4
  have e2' : (2 : Int32).toNatClampNeg = 2 := rfl
  have hcw : w = 5 ∨ w = 6 ∨ w = 7 ∨ w = 8 ∨ w = 9 := by omega
  -- the model's act as begin, numbers, end
  have eN : (if nI (w - 3) = (2 : Int32) then f_X12_number (f_X12_number (f_X12_number (f_X12_number (aT T i (w - 3)) 64 (nI (72 + 5 * i + 1)) 1 40) 64 (nI (72 + 5 * i + 1 + 1)) 0 4) 64 (nI (72 + 5 * i + 1 + 2)) 0 9) 64 (nI (72 + 5 * i + 1 + 3)) 0 15 else if nI (w - 3) = (3 : Int32) then f_X12_number (f_X12_number (f_X12_number (f_X12_number (aT T i (w - 3)) 64 (nI (72 + 5 * i + 1)) 1 40) 64 (nI (72 + 5 * i + 1 + 1)) 0 4) 64 (nI (72 + 5 * i + 1 + 2)) 0 9) 64 (nI (72 + 5 * i + 1 + 3)) 0 15 else if nI (w - 3) = (6 : Int32) then aT T i (w - 3) else f_X12_number (aT T i (w - 3)) 64 (nI (72 + 5 * i + 1)) 0 (gI (aT T i (w - 3)) 69 2 - 1)) = iterN (72 + 5 * i + 1) (aLo w) (aHi w) (aK w) 0 (aT T i (w - 3)) := by
    rcases hcw with rfl | rfl | rfl | rfl | rfl
    · rw [if_pos (by decide)]; rfl
    · rw [if_neg (by decide), if_pos (by decide)]; rfl
    · rw [if_neg (by decide), if_neg (by decide), if_neg (by decide)]; rfl
    · rw [if_neg (by decide), if_neg (by decide), if_neg (by decide)]; rfl
    · rw [if_neg (by decide), if_neg (by decide), if_pos (by decide)]; rfl
  have eR : f_X12_readAct T 64 = f_X12_ends (iterN (72 + 5 * i + 1) (aLo w) (aHi w) (aK w) 0 (aT T i (w - 3))) 64 5 := by
    rw [← eN]
    unfold f_X12_readAct
    simp only [bd_def]
    rw [hkw, if_neg zk, g1', g2', if_pos n16, nI_clamp' (by omega), l2, l3, eaT, a1, a2, a3, a4, e2']
  have hTA : TP N (f_X4_next S 13) (aT T i (w - 3)) := hT1.of rfl rfl (by rw [ao 64 (by decide)]) (by rw [ao 70 (by decide)])
  have hXA : NX N (f_X4_next S 13) (aT T i (w - 3)) kd1 b1 e1 := by
    unfold NX at hX1 ⊢
    rw [bt_of (ao 70 (by decide)), ao 64 (by decide)]
    exact hX1
  have c16 : gI (f_X4_next S 13) 16 = gI S 16 := fr_addr fc 16 (by decide)
  have hb4 := hWB.1.2.2.1
  obtain ⟨r1, pI, pE, r4⟩ := thing (N := N) (at' := 72 + 5 * i + 1) (w := w) (s := 5) (i := i) (first := 1) (K := aK w) (S := S) (T1 := aT T i (w - 3)) (lc := aLc w) (hc := fun k => aHc w k (gI T 69 2).toInt) (lo := aLo w) (hi := aHi w) (by omega) (by decide) hi (by decide) (by omega) (by omega) (by omega) (aK_t w hw.1 hw.2) ((hWR.1 5 (by decide)).trans hc) (by rw [av 5, if_neg (by omega), if_neg (by omega)]; exact hc) (fun _ => hw.1) pc ⟨hTA, ⟨kd1, b1, e1, hXA⟩, by rw [ao 64 (by decide), fm 64 16 (by decide) (by decide), h0], fun j hj => by omega, fun _ _ => rfl, fun _ _ => rfl, rfl⟩ (fun k hk S' T' hP => by
      have hlow : ∀ k, k < aK w → (tbF 4).getD (w * 5 + k) 0 = aLo w k T' ∧ aLc w k ≤ (aLo w k T').toInt := fun k hk => by
        rcases hcw with rfl | rfl | rfl | rfl | rfl
        · have hkc : k = 0 ∨ k = 1 ∨ k = 2 ∨ k = 3 := by
            have : aK 5 = 4 := rfl
            omega
          rcases hkc with rfl | rfl | rfl | rfl <;> exact ⟨rfl, aL_le _ _ _⟩
        · have hkc : k = 0 ∨ k = 1 ∨ k = 2 ∨ k = 3 := by
            have : aK 6 = 4 := rfl
            omega
          rcases hkc with rfl | rfl | rfl | rfl <;> exact ⟨rfl, aL_le _ _ _⟩
        · have hkc : k = 0 := by
            have : aK 7 = 1 := rfl
            omega
          subst hkc; exact ⟨rfl, by show (0 : Int) ≤ (0 : Int32).toInt; decide⟩
        · have hkc : k = 0 := by
            have : aK 8 = 1 := rfl
            omega
          subst hkc; exact ⟨rfl, by show (0 : Int) ≤ (0 : Int32).toInt; decide⟩
        · have : aK 9 = 0 := rfl
          omega
      obtain ⟨lo1, lo2⟩ := low_t S' (w := w) (k := k) (by omega) (by omega) (by omega) (nI i)
      refine ⟨⟨lo1.trans (hlow k hk).1, lo2⟩, ?_, (hlow k hk).2, ?_⟩
      · by_cases q : w = 7 ∨ w = 8
        · obtain ⟨h1, h2⟩ := high_b S' (k := k) q
          refine ⟨?_, h2⟩
          obtain ⟨-, -, -, -, -, y6, y7⟩ := hP
          rw [h1, y7, c16]
          have e69 : gI T' 69 2 = gI T 69 2 := by rw [y6 2 (by omega), av 2, if_neg (by omega), if_neg (by omega)]
          show gI S 16 2 - 1 = aHi w k T'
          unfold aHi
          rw [if_neg (by omega), e69, ← hWR.1 2 (by decide)]
        · obtain ⟨h1, h2⟩ := high_t S' (w := w) (k := k) (by omega) (by omega) (by omega)
          refine ⟨h1.trans ?_, h2⟩
          rcases hcw with rfl | rfl | rfl | rfl | rfl
          · have hkc : k = 0 ∨ k = 1 ∨ k = 2 ∨ k = 3 := by
              have : aK 5 = 4 := rfl
              omega
            rcases hkc with rfl | rfl | rfl | rfl <;> rfl
          · have hkc : k = 0 ∨ k = 1 ∨ k = 2 ∨ k = 3 := by
              have : aK 6 = 4 := rfl
              omega
            rcases hkc with rfl | rfl | rfl | rfl <;> rfl
          · omega
          · omega
          · have : aK 9 = 0 := rfl
            omega
      · by_cases q : w ≤ 6
        · unfold aHi aHc
          rw [if_pos q, if_pos q]
          match k with
          | 0 => decide
          | 1 => decide
          | 2 => decide
          | _ + 3 => exact Int.le_refl _
        · obtain ⟨-, -, -, -, -, y6, y7⟩ := hP
          have e69 : gI T' 69 2 = gI T 69 2 := by rw [y6 2 (by omega), av 2, if_neg (by omega), if_neg (by omega)]
          unfold aHi aHc
          rw [if_neg q, if_neg q, e69, ti_sub (by rw [ti1]; have := hb4.1; omega) (by rw [ti1]; have := hb4.2; omega), ti1]
          exact Int.le_refl _)
  rw [← show (5 : Int32) = nI 5 from rfl] at r1 r4 pE
  rw [← eR] at r4
  refine ⟨r1, ?_, ?_⟩
  · -- the places
    have h4 : w = 5 ∨ w = 6 → p_X12_number (aT T i (w - 3)) 64 (nI (72 + 5 * i + 1)) 1 40 ∧ p_X12_number (f_X12_number (aT T i (w - 3)) 64 (nI (72 + 5 * i + 1)) 1 40) 64 (nI (72 + 5 * i + 1 + 1)) 0 4 ∧ p_X12_number (f_X12_number (f_X12_number (aT T i (w - 3)) 64 (nI (72 + 5 * i + 1)) 1 40) 64 (nI (72 + 5 * i + 1 + 1)) 0 4) 64 (nI (72 + 5 * i + 1 + 2)) 0 9 ∧ p_X12_number (f_X12_number (f_X12_number (f_X12_number (aT T i (w - 3)) 64 (nI (72 + 5 * i + 1)) 1 40) 64 (nI (72 + 5 * i + 1 + 1)) 0 4) 64 (nI (72 + 5 * i + 1 + 2)) 0 9) 64 (nI (72 + 5 * i + 1 + 3)) 0 15 := fun q => by
      rcases q with rfl | rfl
      · exact ⟨pI.1, pI.2.1, pI.2.2.1, pI.2.2.2.1⟩
      · exact ⟨pI.1, pI.2.1, pI.2.2.1, pI.2.2.2.1⟩
    have h1 : w = 7 ∨ w = 8 → p_X12_number (aT T i (w - 3)) 64 (nI (72 + 5 * i + 1)) 0 (gI (aT T i (w - 3)) 69 2 - 1) := fun q => by
      rcases q with rfl | rfl
      · exact pI.1
      · exact pI.1
    have wk : ∀ q : Nat, q < 100 → nI (w - 3) = nI q → w = q + 3 := fun q hq e => by
      have := congrArg Int32.toInt e
      rw [nI_ti (by omega), nI_ti (by omega)] at this
      omega
    refine ⟨pkw, fun x1 ex1 _ => g3', fun x1 ex1 _ r3 er3 x4 ex4 _ => ?_, fun x1 ex1 _ r3 er3 x4 ex4 _ S6 e6 => ?_, fun x1 ex1 _ r3 er3 x4 ex4 _ S6 e6 r7 er7 q => ?_, fun x1 ex1 _ r3 er3 x4 ex4 _ S6 e6 r7 er7 q r9 er9 => ?_, fun x1 ex1 _ r3 er3 x4 ex4 _ S6 e6 r7 er7 q r9 er9 r10 er10 => ?_, fun x1 ex1 _ r3 er3 x4 ex4 _ S6 e6 r7 er7 q r9 er9 r10 er10 r11 er11 => ?_, fun x1 ex1 _ r3 er3 x4 ex4 _ S6 e6 r7 er7 q q2 q3 => ?_, fun x1 ex1 _ r3 er3 x4 ex4 _ S6 e6 r7 er7 q q2 => ?_, fun x1 ex1 _ r3 er3 x4 ex4 _ S6 e6 r7 er7 q q2 r9 er9 => ?_, fun x1 ex1 _ r3 er3 x4 ex4 _ S6 e6 r7 er7 q q2 r9 er9 r10 er10 => ?_, fun x1 ex1 _ r3 er3 x4 ex4 _ S6 e6 r7 er7 q q2 r9 er9 r10 er10 r11 er11 => ?_, fun x1 ex1 _ r3 er3 x4 ex4 _ S6 e6 r7 er7 S20 e20 => ?_⟩
    all_goals (first | (rw [← er3, g1'] at ex4))
    · rw [← ex4]; exact vp_in_nI (by omega) (by omega)
    all_goals (first | (rw [← er3, g2', ← ex4, nI_clamp' (by omega), ← ex1, hkw] at e6))
    · rw [← e6, ← ex1, hkw, ← ex4]; exact l1
    all_goals (first | (rw [← e6, ← ex1, hkw, ← ex4] at er7))
    · rw [← er7, l2] at q
      rw [← er7, l3, eaT, a1]
      exact (h4 (Or.inl (wk 2 (by omega) q))).1
    · rw [← er7, l2] at q
      rw [← er7, l3, eaT, a1] at er9
      rw [← er9, ← er7, l3, a2]
      exact (h4 (Or.inl (wk 2 (by omega) q))).2.1
    · rw [← er7, l2] at q
      rw [← er7, l3, eaT, a1] at er9
      rw [← er9, ← er7, l3, a2] at er10
      rw [← er10, ← er7, l3, a3]
      exact (h4 (Or.inl (wk 2 (by omega) q))).2.2.1
    · rw [← er7, l2] at q
      rw [← er7, l3, eaT, a1] at er9
      rw [← er9, ← er7, l3, a2] at er10
      rw [← er10, ← er7, l3, a3] at er11
      rw [← er11, ← er7, l3, a4]
      exact (h4 (Or.inl (wk 2 (by omega) q))).2.2.2
    · rw [← er7, l2] at q q2 q3
      rw [← er7, l3, eaT, a1, e2']
      refine h1 ?_
      rcases hcw with rfl | rfl | rfl | rfl | rfl
      · exact absurd rfl q
      · exact absurd rfl q2
      · exact Or.inl rfl
      · exact Or.inr rfl
      · exact absurd rfl q3
    · rw [← er7, l2] at q2
      rw [← er7, l3, eaT, a1]
      exact (h4 (Or.inr (wk 3 (by omega) q2))).1
    · rw [← er7, l2] at q2
      rw [← er7, l3, eaT, a1] at er9
      rw [← er9, ← er7, l3, a2]
      exact (h4 (Or.inr (wk 3 (by omega) q2))).2.1
    · rw [← er7, l2] at q2
      rw [← er7, l3, eaT, a1] at er9
      rw [← er9, ← er7, l3, a2] at er10
      rw [← er10, ← er7, l3, a3]
      exact (h4 (Or.inr (wk 3 (by omega) q2))).2.2.1
    · rw [← er7, l2] at q2
      rw [← er7, l3, eaT, a1] at er9
      rw [← er9, ← er7, l3, a2] at er10
      rw [← er10, ← er7, l3, a3] at er11
      rw [← er11, ← er7, l3, a4]
      exact (h4 (Or.inr (wk 3 (by omega) q2))).2.2.2
    · simp only [bd_def] at e20
      rw [← er7, l2, l3, eaT, a1, a2, a3, a4, e2', eN] at e20
      rw [← e20]; exact pE
  · rcases r4 with q | ⟨q1, q2, q3, q4, q5, q6, q7, q8⟩
    · exact Or.inl q
    · right
      have hV : ∀ x, ¬ ((17 + i) * 5 + 1 ≤ x ∧ x < (17 + i) * 5 + 1 + aK w) → gI (f_X4_readThing S 13 (nI w) 5).2 17 x = if x = (17 + i) * 5 then nI (w - 3) else gI S 17 x := fun x hx => by
        rw [q6 x hx]
        by_cases z : x = (17 + i) * 5
        · rw [if_pos ⟨rfl, z⟩, if_pos z]
        · rw [if_neg (fun y => z y.2), if_neg z]
      have hW : ∀ x, ¬ (72 + 5 * i + 1 ≤ x ∧ x < 72 + 5 * i + 1 + aK w) → gI (f_X12_readAct T 64) 69 x = if x = 5 then nI (i + 1) else if x = 72 + 5 * i then nI (w - 3) else if 72 + 5 * i + 1 ≤ x ∧ x < 72 + 5 * i + 5 then -1000000 else gI T 69 x := fun x hx => by rw [q7 x hx, av x]
      have hlc0 : ∀ j, 0 ≤ aLc w j := fun j => by
        unfold aLc
        split
        · split <;> omega
        · omega
      refine ⟨q1, ⟨q2, q3, q4, wr_act hi hw hWR (fun f hf => hZ i (by rw [hc, nI_ti (by omega)]; omega) hi f hf) hV hW (fun j hj => ⟨(q5 j hj).1, by have := (q5 j hj).2.1; have := hlc0 j; omega⟩) q8, wb_act hi hw hWB hc hW (fun j hj => (q5 j hj).2), fun i' h1 h2 f hf => ?_⟩, fun x hx => ?_⟩
      · rw [hW 5 (by omega), if_pos rfl, nI_ti (by omega)] at h1
        rw [hW _ (by omega), if_neg (by omega), if_neg (by omega), if_neg (by omega)]
        exact hZ i' (by rw [hc, nI_ti (by omega)]; omega) h2 f hf
      · rw [hW x (by omega)]
        by_cases z : x = 5
        · rw [if_pos z, if_pos z]
        · rw [if_neg z, if_neg z, if_neg (by omega), if_neg (by omega)]
