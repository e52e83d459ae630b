-- needs: 9q.throws
theorem throws_L {S B : HSt} {K : Int32} {c n d N k A : Nat} {x : (Nat → Int32) × Nat} {g : HSt → Nat → Nat → Int32 → Int32 × HSt} {pg : HSt → Nat → Nat → Int32 → Prop} (hE : EV S B) (hc : (gI B 68 2).toInt = c) (hA : A = 6 + 2 * c) (hn : n ≤ 5) (hk : d + 1 + k = n) (hG : 0 < k → SPEC S B K c n A k (d + 1) g pg) (hv : VX S K d x N) (hN : N + (k + 1) ≤ 1999) : ∀ (f b : Nat) (S1 : HSt), b ≤ c → c - b < f → SY S B K c n S1 d x → ROWO S1 d (scn (it6 B A k x) (6 + 2 * b) 0) → T_X2_tryThrows_12 g pg 18 f S1 (nI d) (nI c) (nI b) ∧ SY S B K c n (L_X2_tryThrows_12 g 18 f S1 (nI d) (nI c) (nI b)).2.2.2 d x ∧ FrC n d S1 (L_X2_tryThrows_12 g 18 f S1 (nI d) (nI c) (nI b)).2.2.2 ∧ ROWO (L_X2_tryThrows_12 g 18 f S1 (nI d) (nI c) (nI b)).2.2.2 d (scn (it6 B A k x) A 0) := by
  have hc4 : c ≤ 4 := by have := hE.2.1.1.2.2.1.2; omega
  intro f
  induction f with
  | zero => intro b S1 _ h; omega
  | succ f ih =>
    intro b S1 hb hf h ho
    by_cases q : b = c
    · subst q
      have z : nI b ≤ nI b := by rw [ti_le]; exact Int.le_refl _
      have e : L_X2_tryThrows_12 g 18 (f + 1) S1 (nI d) (nI b) (nI b) = (nI d, nI b, nI b, S1) := by
        rw [L_X2_tryThrows_12, if_pos z]
        rfl
      rw [e]
      rw [← hA] at ho
      refine ⟨?_, h, FrC.refl _ _ _, ho⟩
      rw [T_X2_tryThrows_12]
      exact ⟨fun w => absurd z w, fun w => absurd z w, fun w => absurd z w, fun w => absurd z w, fun w => absurd z w⟩
    · obtain ⟨S2, a1, a2, a3, a4, a5⟩ := throw_step hE hc hA hn hk hG h hv hN (b := b) (by omega) ho f
      obtain ⟨i1, i2, i3, i4⟩ := ih (b + 1) S2 (by omega) (by omega) a3 a5
      rw [a1]
      exact ⟨a2 i1, i2, a4.trans i3, i4⟩
theorem throws_at {S B S' : HSt} {K : Int32} {c n d N k A : Nat} {x : (Nat → Int32) × Nat} {g : HSt → Nat → Nat → Int32 → Int32 × HSt} {pg : HSt → Nat → Nat → Int32 → Prop} (hE : EV S B) (hc : (gI B 68 2).toInt = c) (hA : A = 6 + 2 * c) (hn : n ≤ 5) (hk : d + 1 + k = n) (hG : 0 < k → SPEC S B K c n A k (d + 1) g pg) (h : SY S B K c n S' d x) (hv : VX S K d x N) (hN : N + (k + 1) ≤ 1999) (ho : ROWO S' d (scn (it6 B A k x) 6 0)) : p_X2_tryThrows g pg S' 43 18 (nI d) ∧ SY S B K c n (f_X2_tryThrows g S' 43 18 (nI d)) d x ∧ FrC n d S' (f_X2_tryThrows g S' 43 18 (nI d)) ∧ ROWO (f_X2_tryThrows g S' 43 18 (nI d)) d (scn (it6 B A k x) A 0) := by
  have hc4 : c ≤ 4 := by have := hE.2.1.1.2.2.1.2; omega
  have em : f_X10_howMany S' 19 2 = nI c := by
    have e1 : f_X10_howMany S' 19 2 = gI S' 20 2 := many_at S' 19 (s := 2) (by decide)
    rw [e1, h.1.1.2.1, hE.1.1 2 (by decide), ti_eq, nI_ti (by omega)]
    exact hc
  obtain ⟨a1, a2, a3, a4⟩ := throws_L hE hc hA hn hk hG hv hN 1000 0 S' (Nat.zero_le _) (by omega) h ho
  unfold p_X2_tryThrows f_X2_tryThrows
  rw [show 18 + 1 = 19 from rfl, em]
  simp only [bd_def]
  refine ⟨⟨p_many _ _ _, fun y ey => by rw [← ey]; exact a1⟩, a2, a3, a4⟩
theorem seek_c {S B : HSt} {K : Int32} {c n A : Nat} (hE : EV S B) (hc : (gI B 68 2).toInt = c) (hA : A = 6 + 2 * c) (hn : n ≤ 5) : ∀ (k f d : Nat), k + 1 ≤ f → d + (k + 1) = n → SPEC S B K c n A (k + 1) d (f_X2_seekFromN f) (p_X2_seekFromN f) := by
  have hc4 : c ≤ 4 := by have := hE.2.1.1.2.2.1.2; omega
  intro k
  induction k with
  | zero => ?_
  | succ k ih => ?_
  all_goals
    intro f d hf hd S' x N h hv hN
    obtain ⟨f, rfl⟩ : ∃ q, f = q + 1 := ⟨f - 1, by omega⟩
    have ed : (nI d).toNatClampNeg = d := nI_clamp' (by omega)
    have v6 : vp_in (nI d) 6 := vp_in_nI (by omega) (by omega)
    have hm : ∀ U : HSt, gI U 43 = gI S' 43 → ¬ gI U 43 6 ≤ nI d := fun U e => by rw [e, h.2.1, ti_le, nI_ti (by omega), nI_ti (by omega)]; omega
    have q2 : ∀ y, y ≠ 52 → y ≠ 53 → gI (sI (sI S' 52 d 0) 53 d 0) y = gI S' y := fun y h1 h2 => by rw [gs_ne h2, gs_ne h1]
    have f0 : FrC n d S' (sI (sI S' 52 d 0) 53 d 0) := ⟨fun y h1 h2 _ _ _ _ => q2 y h1 h2, fun j hj => by rw [gs_ne (by decide), gs_o (by omega)], fun j hj => by rw [gs_o (by omega), gs_ne (by decide)]⟩
    have s0 : SY S B K c n (sI (sI S' 52 d 0) 53 d 0) d x := h.fr (by omega) f0 (h.1.of (q2 18 (by decide) (by decide)) (q2 20 (by decide) (by decide)) (q2 21 (by decide) (by decide)) (q2 54 (by decide) (by decide)) ((shp_sI _ _ _ _).trans (shp_sI _ _ _ _)))
    have r0 : ROWO (sI (sI S' 52 d 0) 53 d 0) d none := ⟨by rw [gs_ne (by decide), gs_eq, if_pos rfl], by rw [gs_eq, if_pos rfl]⟩
  · obtain ⟨t1, t2, t3, t4⟩ := ticks_at (k := 0) (A := A) (g := f_X2_seekFromN f) (pg := p_X2_seekFromN f) hE hc4 hn (by omega) (fun q => absurd q (by omega)) s0 hv (by omega) r0
    obtain ⟨w1, w2, w3, w4⟩ := throws_at (k := 0) (g := f_X2_seekFromN f) (pg := p_X2_seekFromN f) hE hc hA hn (by omega) (fun q => absurd q (by omega)) t2 hv (by omega) t4
    show p_X2_seekFromB (f_X2_seekFromN f) (p_X2_seekFromN f) S' 43 18 (nI d) ∧ CI S B K c (f_X2_seekFromB (f_X2_seekFromN f) S' 43 18 (nI d)).2 ∧ FrC n d S' (f_X2_seekFromB (f_X2_seekFromN f) S' 43 18 (nI d)).2 ∧ RW (f_X2_seekFromB (f_X2_seekFromN f) S' 43 18 (nI d)).2 d (bs6 B A (0 + 1) x) ∧ (f_X2_seekFromB (f_X2_seekFromN f) S' 43 18 (nI d)).1 = gI (f_X2_seekFromB (f_X2_seekFromN f) S' 43 18 (nI d)).2 53 d
    have eB : f_X2_seekFromB (f_X2_seekFromN f) S' 43 18 (nI d) = pr (gI (f_X2_tryThrows (f_X2_seekFromN f) (f_X2_tryTicks (f_X2_seekFromN f) (sI (sI S' 52 d 0) 53 d 0) 43 18 (nI d)) 43 18 (nI d)) 53 d) (f_X2_tryThrows (f_X2_seekFromN f) (f_X2_tryTicks (f_X2_seekFromN f) (sI (sI S' 52 d 0) 53 d 0) 43 18 (nI d)) 43 18 (nI d)) := by
      unfold f_X2_seekFromB
      simp only [bd_def]
      rw [ed, if_neg (hm _ (q2 43 (by decide) (by decide)))]
    rw [eB, pr_1, pr_2]
    refine ⟨?_, w2.1, f0.trans (t3.trans w3), ?_, rfl⟩
    · unfold p_X2_seekFromB
      rw [ed]
      refine ⟨v6, fun _ _ => v6, fun S1 e1 S2 e2 _ => ?_, fun S1 e1 S2 e2 _ r er => ?_, fun _ _ _ _ _ _ => v6⟩
      · rw [← e2, ← e1]; exact t1
      · rw [← er, ← e2, ← e1]; exact w1
    · rw [bs6_s]; exact w4.rw
  · have hG : SPEC S B K c n A (k + 1) (d + 1) (f_X2_seekFromN f) (p_X2_seekFromN f) := ih f (d + 1) (by omega) (by omega)
    obtain ⟨t1, t2, t3, t4⟩ := ticks_at (k := k + 1) (A := A) (g := f_X2_seekFromN f) (pg := p_X2_seekFromN f) hE hc4 hn (by omega) (fun _ => hG) s0 hv (by omega) r0
    obtain ⟨w1, w2, w3, w4⟩ := throws_at (k := k + 1) (g := f_X2_seekFromN f) (pg := p_X2_seekFromN f) hE hc hA hn (by omega) (fun _ => hG) t2 hv (by omega) t4
    show p_X2_seekFromB (f_X2_seekFromN f) (p_X2_seekFromN f) S' 43 18 (nI d) ∧ CI S B K c (f_X2_seekFromB (f_X2_seekFromN f) S' 43 18 (nI d)).2 ∧ FrC n d S' (f_X2_seekFromB (f_X2_seekFromN f) S' 43 18 (nI d)).2 ∧ RW (f_X2_seekFromB (f_X2_seekFromN f) S' 43 18 (nI d)).2 d (bs6 B A (k + 1 + 1) x) ∧ (f_X2_seekFromB (f_X2_seekFromN f) S' 43 18 (nI d)).1 = gI (f_X2_seekFromB (f_X2_seekFromN f) S' 43 18 (nI d)).2 53 d
    have eB : f_X2_seekFromB (f_X2_seekFromN f) S' 43 18 (nI d) = pr (gI (f_X2_tryThrows (f_X2_seekFromN f) (f_X2_tryTicks (f_X2_seekFromN f) (sI (sI S' 52 d 0) 53 d 0) 43 18 (nI d)) 43 18 (nI d)) 53 d) (f_X2_tryThrows (f_X2_seekFromN f) (f_X2_tryTicks (f_X2_seekFromN f) (sI (sI S' 52 d 0) 53 d 0) 43 18 (nI d)) 43 18 (nI d)) := by
      unfold f_X2_seekFromB
      simp only [bd_def]
      rw [ed, if_neg (hm _ (q2 43 (by decide) (by decide)))]
    rw [eB, pr_1, pr_2]
    refine ⟨?_, w2.1, f0.trans (t3.trans w3), ?_, rfl⟩
    · unfold p_X2_seekFromB
      rw [ed]
      refine ⟨v6, fun _ _ => v6, fun S1 e1 S2 e2 _ => ?_, fun S1 e1 S2 e2 _ r er => ?_, fun _ _ _ _ _ _ => v6⟩
      · rw [← e2, ← e1]; exact t1
      · rw [← er, ← e2, ← e1]; exact w1
    · rw [bs6_s]; exact w4.rw
