-- needs: 46.odds
/-! ===== a run of acts, on both sides ===== -/
def RR (m : Nat) (S T : HSt) : Prop := WayR (gI S 20) (gI S 21) (gI T 68) ∧ WayB (gI T 68) ∧ HeldR (gI S 18) (gI T 68) (gI T 64 18) (gI T 64 19) ∧ (bw (gI S 18 4) 40 400 ∧ bw (gI S 18 5) 0 9) ∧ LoopR (gI S 36) (WL T) ∧ LoopB m (gI S 18 4) (gI S 18 5) (WL T)
theorem RR.mono {m k : Nat} {S T : HSt} (h : m ≤ k) (hR : RR m S T) : RR k S T := ⟨hR.1, hR.2.1, hR.2.2.1, hR.2.2.2.1, hR.2.2.2.2.1, hR.2.2.2.2.2.mono h⟩
theorem RR.of {m : Nat} {S S' T T' : HSt} (h1 : gI S' 18 = gI S 18) (h2 : gI S' 20 = gI S 20) (h3 : gI S' 21 = gI S 21) (h4 : gI S' 36 = gI S 36) (t1 : gI T' 68 = gI T 68) (t2 : gI T' 64 18 = gI T 64 18) (t3 : gI T' 64 19 = gI T 64 19) (t4 : ∀ j, j < 7 → WL T' j = WL T j) (hR : RR m S T) : RR m S' T' := by
  obtain ⟨a, b, c, d, e, f⟩ := hR
  unfold RR
  rw [h1, h2, h3, h4, t1, t2, t3]
  exact ⟨a, b, c, d, e.cg t4, f.cg t4⟩
/-- with a new loop -/
theorem RR.loop {m k : Nat} {S S' T T' : HSt} (h1 : gI S' 18 = gI S 18) (h2 : gI S' 20 = gI S 20) (h3 : gI S' 21 = gI S 21) (t1 : gI T' 68 = gI T 68) (t2 : gI T' 64 18 = gI T 64 18) (t3 : gI T' 64 19 = gI T 64 19) (hL : LoopR (gI S' 36) (WL T')) (hB : LoopB k (gI S 18 4) (gI S 18 5) (WL T')) (hR : RR m S T) : RR k S' T' := by
  obtain ⟨a, b, c, d, -, -⟩ := hR
  unfold RR
  rw [h1, h2, h3, t1, t2, t3]
  exact ⟨a, b, c, d, hL, hB⟩
theorem RR.prm {m : Nat} {S T : HSt} (hR : RR m S T) : PRm S 18 T := by
  obtain ⟨-, hB, ⟨hr, -, h4, h5, h6, -⟩, -⟩ := hR
  obtain ⟨r, hr2, e⟩ := nI_of_bw (n := 3) hr.1 (by have := hr.2; omega) (by omega)
  have hb := hB.2.1 r hr2
  refine ⟨⟨(rope_at T hr (k := 0) (by decide)).1.trans h4.symm, (rope_at T hr (k := 1) (by decide)).1.trans h5.symm, (rope_at T hr (k := 2) (by decide)).1.trans h6.symm⟩, ⟨?_, ?_, ?_⟩, hr⟩
  · rw [h4, e, nI_clamp' (by omega)]; exact hb.1
  · rw [h5, e, nI_clamp' (by omega)]; exact hb.2.1
  · rw [h6, e, nI_clamp' (by omega)]; exact hb.2.2.1
theorem RR.size {m : Nat} {S T : HSt} (hR : RR m S T) : bw (WL T 0) 0 200 := by
  obtain ⟨-, -, -, ⟨h4, -⟩, -, hB⟩ := hR
  exact ⟨hB.1.1, by have := hB.1.2; have := h4.2; omega⟩
theorem RR.fallen {m : Nat} {S T : HSt} (hR : RR m S T) : f_X1_hasFallen S 36 = f_X12_isStill T 64 := by
  rw [fallen_v (U := S) (lp := 36) hR.2.2.2.2.1.1 hR.2.2.2.2.1.2.2.2.2.2.2 hR.size]
  rfl
theorem RR.opn {m : Nat} {S T : HSt} (hR : RR m S T) (h : f_X12_isStill T 64 = 0) : gI T 64 25 = 0 := by
  rw [still_v] at h
  by_cases c : gI T 64 25 = 0
  · exact c
  · rw [if_neg c] at h
    exact absurd h (by decide)
theorem RR.lnk {m : Nat} {S T : HSt} (hR : RR m S T) (hm : m ≤ 2000) {j : Nat} (hj : j < 4) (hc : (j : Int) < (gI T 68 2).toInt) : TLnk S T 18 36 j (gI T 68 (24 + 5 * j)) (gI T 68 (24 + 5 * j + 1)) (gI T 68 (24 + 5 * j + 2)) (gI T 68 (24 + 5 * j + 3)) (gI T 68 (24 + 5 * j + 4)) (gI S 18 7) (gI S 18 8) (gI S 18 9) (WL T 0) (WL T 1) (WL T 4) (WL T 5) := by
  have hz := hR.size
  obtain ⟨hW, hWB, hH, -, hL, hB⟩ := hR
  exact lnkG hW hWB hH hL hz hB.2.1 ⟨hB.2.2.2.2.1.1, by have := hB.2.2.2.2.1.2; omega⟩ hB.2.2.2.2.2.1 hj hc
theorem rr_tick {m : Nat} {S T : HSt} (hR : RR m S T) (hm : m ≤ 100000) (hk : gI T 64 25 = 0) {st up lt tn tm : Int32} (hlt : bw lt 0 9) (htn : (tm = tn ∧ bw tn 0 15) ∨ (tm = -1000000 ∧ tn = tnd (gI S 36 1) up (gI S 36 3))) : RR (m + 1) (f_X1_advance S 36 18 st up lt tn) (f_X12_doTick T 64 st up lt tm) := by
  have f1 := v_X1_advance S 36 18 st up lt tn
  have f2 := v_X12_doTick T 64 st up lt tm
  obtain ⟨h1, h2⟩ := adv_tick (sc := 18) (o := 36) (st := st) (up := up) (by decide) hR.prm hm hR.2.2.2.2.1 hR.2.2.2.2.2 hk hlt htn
  exact hR.loop (fr_addr f1 18 (by decide)) (fr_addr f1 20 (by decide)) (fr_addr f1 21 (by decide)) (fr_addr f2 68 (by decide)) (f2 64 18 (by decide) (by decide)) (f2 64 19 (by decide) (by decide)) h1 h2
/-- the act's numbers on both sides -/
theorem RR.act {m : Nat} {S T : HSt} (hR : RR m S T) {i : Nat} (hi : i < 20) (hc : (i : Int) < (gI T 68 5).toInt) : ∃ kd, 2 ≤ kd ∧ kd ≤ 6 ∧ gI T 68 (72 + 5 * i) = nI kd ∧ f_X10_kindOf S 19 (nI i) = nI kd ∧ (∀ U : HSt, gI U 21 = gI S 21 → f_X10_kindOf U 19 (nI i) = nI kd) ∧ (∀ U : HSt, ∀ f, f < 5 → gI U 21 = gI S 21 → f_X10_value U 19 5 (nI i) (nI f) = cl0 (gI T 68 (72 + 5 * i + f))) := by
  obtain ⟨hW, hB, -⟩ := hR
  have hA := hB.2.2.2.2.2.2 i hi hc
  obtain ⟨kd, k1, k2, k3⟩ := act_kd hA
  have V : ∀ U : HSt, ∀ f, f < 5 → gI U 21 = gI S 21 → f_X10_value U 19 5 (nI i) (nI f) = cl0 (gI T 68 (72 + 5 * i + f)) := fun U f hf hU => by
    refine (val_at U 19 (s := 5) (i := i) (f := f) (by decide) hi hf).trans ?_
    rw [show gI U (19 + 2) = gI S 21 from hU]
    exact hW.2.2.2.2.2.2 i f hi hf
  have hK : ∀ U : HSt, gI U 21 = gI S 21 → f_X10_kindOf U 19 (nI i) = nI kd := fun U hU => by
    have := V U 0 (by decide) hU
    rw [show 72 + 5 * i + 0 = 72 + 5 * i from rfl, k3, cl0_of (nI_none (by omega))] at this
    exact this
  exact ⟨kd, k1, k2, k3, hK S rfl, hK, V⟩
theorem gJ_ite {c : Prop} [Decidable c] (A B : HSt) : gJ (if c then A else B) = if c then gJ A else gJ B := by
  by_cases h : c
  · rw [if_pos h, if_pos h]
  · rw [if_neg h, if_neg h]
theorem gJ_adv (S : HSt) (o sc : Nat) (a b c d : Int32) : gJ (f_X1_advance S o sc a b c d) = gJ S := by
  unfold f_X1_advance
  simp only [bd_def, gJ_sI, gJ_ite, ite_self]
theorem gJ_fall (S : HSt) (o : Nat) : gJ (f_X1_fallToHand S o) = gJ S := rfl
theorem gJ_gather (S : HSt) (o : Nat) : gJ (f_X1_gather S o) = gJ S := rfl
theorem gJ_begin (S : HSt) (o : Nat) : gJ (f_X1_begin S o) = gJ S := rfl
theorem gJ_face (S : HSt) (o sc : Nat) (a b c : Int32) : gJ (f_X9_face S o sc a b c) = gJ S := rfl
theorem gJ_aim (S : HSt) (o sc lp : Nat) (a b : Int32) : gJ (f_X9_aim S o sc lp a b) = gJ S := by
  unfold f_X9_aim
  simp only [bd_def, gJ_sI, gJ_ite, gJ_face, ite_self]
/-- the ticks of a looped act -/
theorem ticks_L {i t kd : Nat} (hi : i < 20) (ht : t ≤ 40) {up lt tn : Int32} (hlt : bw lt 0 9) (htn : bw tn 0 15) : ∀ (n m k : Nat) (S T : HSt), RR m S T → m + (t - k) ≤ 100000 → k ≤ t → t - k < n → f_X10_kindOf S 19 (nI i) = nI kd → (∀ U : HSt, ∀ f, f < 5 → gI U 21 = gI S 21 → f_X10_value U 19 5 (nI i) (nI f) = cl0 (gI T 68 (72 + 5 * i + f))) → (gI T 68 (72 + 5 * i + 1) = nI t ∧ gI T 68 (72 + 5 * i + 2) = up ∧ gI T 68 (72 + 5 * i + 3) = lt ∧ gI T 68 (72 + 5 * i + 4) = tn) → (cl0 up = up ∧ cl0 lt = lt ∧ cl0 tn = tn) → gI S 35 3 = gI T 64 30 → T_X6_perform_38 18 n S (nI i) (nI t) (nI k) ∧ T_X12_doAct_89 n T (nI i) (nI kd) (nI k) ∧ RR (m + (t - k)) (L_X6_perform_38 18 n S (nI i) (nI t) (nI k)).2.2.2 (L_X12_doAct_89 n T (nI i) (nI kd) (nI k)).2.2.2 ∧ gI (L_X6_perform_38 18 n S (nI i) (nI t) (nI k)).2.2.2 35 3 = gI (L_X12_doAct_89 n T (nI i) (nI kd) (nI k)).2.2.2 64 30 ∧ gJ (L_X6_perform_38 18 n S (nI i) (nI t) (nI k)).2.2.2 = gJ S ∧ (∀ j, j ≠ 3 → gI (L_X6_perform_38 18 n S (nI i) (nI t) (nI k)).2.2.2 35 j = gI S 35 j) ∧ gI (L_X12_doAct_89 n T (nI i) (nI kd) (nI k)).2.2.2 64 29 = gI T 64 29 := by
  intro n
  induction n with
  | zero => intro m k S T _ _ _ h; omega
  | succ n ih =>
    intro m k S T hR hm hk hn hkd hV hd hcl h3
    obtain ⟨d1, d2, d3, d4⟩ := hd
    have D1 := deed_at T (i := i) (k := 1) hi (by decide)
    have D2 := deed_at T (i := i) (k := 2) hi (by decide)
    have D3 := deed_at T (i := i) (k := 3) hi (by decide)
    have D4 := deed_at T (i := i) (k := 4) hi (by decide)
    rw [show nI 1 = (1 : Int32) from rfl] at D1
    rw [show nI 2 = (2 : Int32) from rfl] at D2
    rw [show nI 3 = (3 : Int32) from rfl] at D3
    rw [show nI 4 = (4 : Int32) from rfl] at D4
    have hf := hR.fallen
    have hV2 : f_X10_value S 19 5 (nI i) 2 = up := (hV S 2 (by decide) rfl).trans (by rw [d2, hcl.1])
    have hV3 : f_X10_value S 19 5 (nI i) 3 = lt := (hV S 3 (by decide) rfl).trans (by rw [d3, hcl.2.1])
    have hV4 : f_X10_value S 19 5 (nI i) 4 = tn := (hV S 4 (by decide) rfl).trans (by rw [d4, hcl.2.2])
    have hadv : f_X6_advance S 35 18 (nI i) = f_X1_advance S 36 18 (if nI kd = 3 then 1 else 0) up lt tn := by
      unfold f_X6_advance
      simp only [bd_def]
      rw [show 18 + 1 = 19 from rfl, hkd, hV2, hV3, hV4]
    unfold T_X6_perform_38 T_X12_doAct_89 L_X6_perform_38 L_X12_doAct_89
    rw [D1.1, d1, D2.1, d2, D3.1, d3, D4.1, d4, hf]
    by_cases c : nI t ≤ nI k
    · rw [if_pos c, if_pos c]
      refine ⟨⟨fun q => absurd c q, fun q => absurd c q⟩, ⟨D1.2, fun q => absurd c q, fun q => absurd c q, fun q => absurd c q, fun q => absurd c q, fun q => absurd c q⟩, hR.mono (by omega), h3, rfl, fun _ _ => rfl, rfl⟩
    · rw [if_neg c, if_neg c]
      have hkt : k < t := by
        rw [ti_le, nI_ti (by omega), nI_ti (by omega)] at c
        omega
      by_cases d : f_X12_isStill T 64 = 0
      · rw [if_pos d, if_pos d]
        have hR2 := rr_tick hR (by omega) (hR.opn d) (st := if nI kd = 3 then 1 else 0) (up := up) (tm := tn) hlt (Or.inl ⟨rfl, htn⟩)
        simp only [bd_def]
        rw [hadv]
        have f1 := v_X1_advance S 36 18 (if nI kd = 3 then 1 else 0) up lt tn
        have f2 := v_X12_doTick T 64 (if nI kd = 3 then 1 else 0) up lt tn
        have j1 : gJ (f_X1_advance S 36 18 (if nI kd = 3 then 1 else 0) up lt tn) = gJ S := gJ_adv _ _ _ _ _ _ _
        generalize hS1 : f_X1_advance S 36 18 (if nI kd = 3 then 1 else 0) up lt tn = S1 at f1 j1 hR2
        generalize hT1 : f_X12_doTick T 64 (if nI kd = 3 then 1 else 0) up lt tn = T1 at f2 hR2
        have a21 : gI (sI S1 35 3 (gI S1 36 5)) 21 = gI S 21 := by rw [gs_ne (by decide), fr_addr f1 21 (by decide)]
        have a68 : gI (sI T1 64 30 (gI T1 64 26)) 68 = gI T 68 := by rw [gs_ne (by decide), fr_addr f2 68 (by decide)]
        have hR3 : RR (m + 1) (sI S1 35 3 (gI S1 36 5)) (sI T1 64 30 (gI T1 64 26)) := hR2.of (gs_ne (by decide)) (gs_ne (by decide)) (gs_ne (by decide)) (gs_ne (by decide)) (gs_ne (by decide)) (gs_o (by decide)) (gs_o (by decide)) (fun j hj => gs_o (by omega))
        obtain ⟨i1, i2, i3, i4, i5, i6, i7⟩ := ih (m + 1) (k + 1) (sI S1 35 3 (gI S1 36 5)) (sI T1 64 30 (gI T1 64 26)) hR3 (by omega) (by omega) (by omega) (by
            have := hV S 0 (by decide) rfl
            have h2 := hV (sI S1 35 3 (gI S1 36 5)) 0 (by decide) a21
            exact (h2.trans this.symm).trans hkd) (fun U f hf2 hU => by rw [a68]; exact hV U f hf2 (by rw [hU, a21])) (by rw [a68]; exact ⟨d1, d2, d3, d4⟩) hcl (by
              rw [gs_eq, if_pos rfl, gs_eq, if_pos rfl]
              exact hR2.2.2.2.2.1.2.2.2.2.2.1)
        rw [nI_succ] at i1 i2 i3 i4 i5 i6 i7
        refine ⟨⟨fun _ _ => ⟨p_kind _ _ _, fun _ _ => p_val _ _ _ _ _, fun _ _ _ _ => p_val _ _ _ _ _, fun _ _ _ _ _ _ => p_val _ _ _ _ _⟩, fun _ _ r hr s hs => ?_⟩, ⟨D1.2, fun _ _ _ _ => D2.2, fun _ _ _ _ => D3.2, fun _ _ _ _ => D4.2, fun _ _ x hx => p_tick hR.prm _ _ _ _, fun _ _ x hx r hr s hs => ?_⟩, ?_, i4, i5.trans j1, fun j hj => (i6 j hj).trans ?_, i7.trans ?_⟩
        · rw [← hs, ← hr]; exact i1
        · rw [← hs, ← hr, ← hx, hT1]; exact i2
        · have : m + 1 + (t - (k + 1)) = m + (t - k) := by omega
          rw [← this]; exact i3
        · rw [gs_o hj, fr_addr f1 35 (by decide)]
        · rw [gs_o (by decide)]
          exact f2 64 29 (by decide) (by decide)
      · rw [if_neg d, if_neg d]
        refine ⟨⟨fun _ q => absurd q d, fun _ q => absurd q d⟩, ⟨D1.2, fun _ q => absurd q d, fun _ q => absurd q d, fun _ q => absurd q d, fun _ q => absurd q d, fun _ q => absurd q d⟩, hR.mono (by omega), h3, rfl, fun _ _ => rfl, rfl⟩
