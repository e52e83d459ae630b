-- needs: 47.run
/-! ===== a loop of the class's own, at lp, beside the model's ===== -/
def RG (lp m : Nat) (S T : HSt) : Prop := WayR (gI S 20) (gI S 21) (gI T 68) ∧ WayB (gI T 68) ∧ HeldR (gI S 18) (gI T 68) (gI T 64 18) (gI T 64 19) ∧ (bw (gI S 18 4) 40 400 ∧ bw (gI S 18 5) 0 9) ∧ LoopR (gI S lp) (WL T) ∧ LoopB m (gI S 18 4) (gI S 18 5) (WL T)
theorem RG.mono {lp m k : Nat} {S T : HSt} (h : m ≤ k) (hR : RG lp m S T) : RG lp k S T := ⟨hR.1, hR.2.1, hR.2.2.1, hR.2.2.2.1, hR.2.2.2.2.1, hR.2.2.2.2.2.mono h⟩
theorem RG.of {lp m : Nat} {S S' T T' : HSt} (h1 : gI S' 18 = gI S 18) (h2 : gI S' 20 = gI S 20) (h3 : gI S' 21 = gI S 21) (h4 : gI S' lp = gI S lp) (t1 : gI T' 68 = gI T 68) (t2 : gI T' 64 18 = gI T 64 18) (t3 : gI T' 64 19 = gI T 64 19) (t4 : ∀ j, j < 7 → WL T' j = WL T j) (hR : RG lp m S T) : RG lp m S' T' := by
  obtain ⟨a, b, c, d, e, f⟩ := hR
  unfold RG
  rw [h1, h2, h3, h4, t1, t2, t3]
  exact ⟨a, b, c, d, e.cg t4, f.cg t4⟩
/-- with a new loop, perhaps elsewhere -/
theorem RG.loop {lp lq m k : Nat} {S S' T T' : HSt} (h1 : gI S' 18 = gI S 18) (h2 : gI S' 20 = gI S 20) (h3 : gI S' 21 = gI S 21) (t1 : gI T' 68 = gI T 68) (t2 : gI T' 64 18 = gI T 64 18) (t3 : gI T' 64 19 = gI T 64 19) (hL : LoopR (gI S' lq) (WL T')) (hB : LoopB k (gI S 18 4) (gI S 18 5) (WL T')) (hR : RG lp m S T) : RG lq k S' T' := by
  obtain ⟨a, b, c, d, -, -⟩ := hR
  unfold RG
  rw [h1, h2, h3, t1, t2, t3]
  exact ⟨a, b, c, d, hL, hB⟩
theorem RG.prm {lp m : Nat} {S T : HSt} (hR : RG lp m S T) : PRm S 18 T := by
  obtain ⟨-, hB, ⟨hr, -, h4, h5, h6, -⟩, -⟩ := hR
  obtain ⟨r, hr2, e⟩ := nI_of_bw (n := 3) hr.1 (by have := hr.2; omega) (by omega)
  have hb := hB.2.1 r hr2
  refine ⟨⟨(rope_at T hr (k := 0) (by decide)).1.trans h4.symm, (rope_at T hr (k := 1) (by decide)).1.trans h5.symm, (rope_at T hr (k := 2) (by decide)).1.trans h6.symm⟩, ⟨?_, ?_, ?_⟩, hr⟩
  · rw [h4, e, nI_clamp' (by omega)]; exact hb.1
  · rw [h5, e, nI_clamp' (by omega)]; exact hb.2.1
  · rw [h6, e, nI_clamp' (by omega)]; exact hb.2.2.1
theorem RG.size {lp m : Nat} {S T : HSt} (hR : RG lp m S T) : bw (WL T 0) 0 200 := by
  obtain ⟨-, -, -, ⟨h4, -⟩, -, hB⟩ := hR
  exact ⟨hB.1.1, by have := hB.1.2; have := h4.2; omega⟩
theorem RG.fallen {lp m : Nat} {S T : HSt} (hR : RG lp m S T) : f_X1_hasFallen S lp = f_X12_isStill T 64 := by
  rw [fallen_v (U := S) (lp := lp) hR.2.2.2.2.1.1 hR.2.2.2.2.1.2.2.2.2.2.2 hR.size]
  rfl
theorem RG.opn {lp m : Nat} {S T : HSt} (_hR : RG lp m S T) (h : f_X12_isStill T 64 = 0) : gI T 64 25 = 0 := by
  rw [still_v] at h
  by_cases c : gI T 64 25 = 0
  · exact c
  · rw [if_neg c] at h
    exact absurd h (by decide)
theorem RG.lnk {lp m : Nat} {S T : HSt} (hR : RG lp m S T) (hm : m ≤ 2000) {j : Nat} (hj : j < 4) (hc : (j : Int) < (gI T 68 2).toInt) : TLnk S T 18 lp j (gI T 68 (24 + 5 * j)) (gI T 68 (24 + 5 * j + 1)) (gI T 68 (24 + 5 * j + 2)) (gI T 68 (24 + 5 * j + 3)) (gI T 68 (24 + 5 * j + 4)) (gI S 18 7) (gI S 18 8) (gI S 18 9) (WL T 0) (WL T 1) (WL T 4) (WL T 5) := by
  have hz := hR.size
  obtain ⟨hW, hWB, hH, -, hL, hB⟩ := hR
  exact lnkG hW hWB hH hL hz hB.2.1 ⟨hB.2.2.2.2.1.1, by have := hB.2.2.2.2.1.2; omega⟩ hB.2.2.2.2.2.1 hj hc
theorem seven_ne {lp x : Nat} (h : lp ≠ x) : ∀ q ∈ [(lp, 0), (lp, 1), (lp, 2), (lp, 3), (lp, 4), (lp, 5), (lp, 6)], q.1 ≠ x := by
  intro q hq
  simp only [List.mem_cons, List.not_mem_nil, or_false] at hq
  rcases hq with rfl | rfl | rfl | rfl | rfl | rfl | rfl <;> exact h
theorem rg_tick {lp m : Nat} {S T : HSt} (n18 : lp ≠ 18) (n20 : lp ≠ 20) (n21 : lp ≠ 21) (hR : RG lp m S T) (hm : m ≤ 100000) (hk : gI T 64 25 = 0) {st up lt tn tm : Int32} (hlt : bw lt 0 9) (htn : (tm = tn ∧ bw tn 0 15) ∨ (tm = -1000000 ∧ tn = tnd (gI S lp 1) up (gI S lp 3))) : RG lp (m + 1) (f_X1_advance S lp 18 st up lt tn) (f_X12_doTick T 64 st up lt tm) := by
  have f1 := v_X1_advance S lp 18 st up lt tn
  have f2 := v_X12_doTick T 64 st up lt tm
  obtain ⟨h1, h2⟩ := adv_tick (sc := 18) (o := lp) (st := st) (up := up) (fun q => n18 q.symm) hR.prm hm hR.2.2.2.2.1 hR.2.2.2.2.2 hk hlt htn
  exact hR.loop (fr_addr f1 18 (seven_ne n18)) (fr_addr f1 20 (seven_ne n20)) (fr_addr f1 21 (seven_ne n21)) (fr_addr f2 68 (by decide)) (f2 64 18 (by decide) (by decide)) (f2 64 19 (by decide) (by decide)) h1 h2
/-- the first loop on both sides -/
theorem rg_first {lp : Nat} {S T : HSt} (n18 : lp ≠ 18) (n20 : lp ≠ 20) (n21 : lp ≠ 21) (hW : WayR (gI S 20) (gI S 21) (gI T 68)) (hB : WayB (gI T 68)) (hH : HeldR (gI S 18) (gI T 68) (gI T 64 18) (gI T 64 19)) (h4 : bw (gI S 18 4) 40 400) (h5 : bw (gI S 18 5) 0 9) : RG lp 0 (f_X1_begin S lp) (f_X12_first T 64) := by
  have f1 := v_X1_begin S lp
  have f2 := v_X12_first T 64
  obtain ⟨a0, a1, a2, a3, a4, a5, a6⟩ := begin_at S lp
  obtain ⟨b0, b1, b2, b3, b4, b5, b6⟩ := first_at T
  unfold RG
  rw [fr_addr f1 18 (seven_ne n18), fr_addr f1 20 (seven_ne n20), fr_addr f1 21 (seven_ne n21), fr_addr f2 68 (by decide), f2 64 18 (by decide) (by decide), f2 64 19 (by decide) (by decide)]
  refine ⟨hW, hB, hH, ⟨h4, h5⟩, ⟨?_, ?_, ?_, ?_, ?_, ?_, ?_⟩, fresh_B h4 h5 b0 b1 b2 (by rw [b3]; exact ⟨by decide, by decide⟩) (by rw [b4]; exact ⟨by decide, by decide⟩) b5⟩
  · rw [a0, b0]
  · rw [a1, b1]
  · rw [a2, b2]
  · rw [a3, b3]
  · rw [a4, b4]
  · rw [a5, b6]
  · rw [a6, b5]
theorem scn_W {n : Nat} {S T : HSt} (hI : Inv0 n S) (h68 : gI T 68 = gI S 68) (h18 : gI T 64 18 = gI S 64 18) (h19 : gI T 64 19 = gI S 64 19) : WayR (gI S 20) (gI S 21) (gI T 68) ∧ WayB (gI T 68) ∧ HeldR (gI S 18) (gI T 68) (gI T 64 18) (gI T 64 19) := by
  obtain ⟨⟨hW, hB, hH, -⟩, -⟩ := hI.2.2.2.2.1
  rw [h68, h18, h19]
  exact ⟨hW, hB, hH⟩
