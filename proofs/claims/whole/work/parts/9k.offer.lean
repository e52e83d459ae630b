-- needs: 9j.worth
/-! ===== moves: offer ===== -/
def ROWO (S' : HSt) (d : Nat) (o : WRo) : Prop := match o with
  | none => gI S' 52 d = 0 ∧ gI S' 53 d = 0
  | some v => gI S' 52 d = nI v.2.length ∧ (1 ≤ v.2.length ∧ v.2.length ≤ 5) ∧ (gI S' 53 d).toInt = v.1 ∧ ∀ i, i < v.2.length → gI S' (46 + d) i = nI (v.2.getD i 0)
/-- the row behind -/
def RB (S' : HSt) (d : Nat) (r : List Nat) : Prop := gI S' 52 d = nI r.length ∧ ∀ i, i < r.length → gI S' (46 + d) i = nI (r.getD i 0)
noncomputable def of4 (S' : HSt) (d : Nat) (m w : Int32) : HSt := sI (sI S' 53 d w) (46 + d) 0 m
noncomputable def ofT (S' : HSt) (d : Nat) (m w : Int32) (l : Nat) : HSt := sI (rI (of4 S' d m w) (46 + d) (va_cpy (gI (of4 S' d m w) (46 + (d + 1))) (gI (of4 S' d m w) (46 + d)) 0 1 l)) 52 d (1 + nI l)
theorem offer_v {S' : HSt} {d l : Nat} (hd : d < 5) (hl : l ≤ 4) (h : gI S' 52 (d + 1) = nI l) (m w : Int32) : f_X2_offer S' 43 (nI d) m w = (if gI S' 52 d ≤ 0 then ofT S' d m w l else if gI S' 53 d < w then ofT S' d m w l else S') ∧ p_X2_offer S' 43 (nI d) m w := by
  have ed : (nI d).toNatClampNeg = d := nI_clamp' (by omega)
  have ed1 : (nI d + 1).toNatClampNeg = d + 1 := by rw [nsucc]; exact nI_clamp' (by omega)
  have e4 : (if (4 : Int32) < nI l then (4 : Int32) else nI l) = nI l := by
    rw [if_neg]
    rw [ti_lt, nI_ti (by omega), show (4 : Int32).toInt = 4 from rfl]; omega
  have el : (nI l).toNatClampNeg = l := nI_clamp' (by omega)
  have v6 : vp_in (nI d) 6 := vp_in_nI (by omega) (by omega)
  have v7 : vp_in (nI d + 1) 6 := by rw [nsucc]; exact vp_in_nI (by omega) (by omega)
  have n0 : ¬ nI l < 0 := by rw [ti_lt, ti0, nI_ti (by omega)]; omega
  have z0 : (0 : Int32).toNatClampNeg = 0 := rfl
  have z1 : (1 : Int32).toNatClampNeg = 1 := rfl
  constructor
  · unfold f_X2_offer ofT of4
    simp only [bd_def]
    rw [ed, ed1, h, e4, el, z0, z1]
  · unfold p_X2_offer
    rw [ed1, h, e4]
    refine ⟨v6, fun _ => v7, fun _ _ _ => v6, fun _ _ _ _ _ => v6, fun _ _ _ _ _ _ _ => v7, fun _ _ _ _ _ _ _ => v6, fun _ x ex _ _ _ _ => by rw [← ex]; exact n0, fun _ x ex _ _ _ _ => by rw [← ex, el, z0]; omega, fun _ x ex _ _ _ _ => by rw [← ex, el, z1]; omega, fun _ _ _ _ _ _ _ _ _ => v6, fun _ => v6, fun _ _ => v7, fun _ _ _ _ => v6, fun _ _ _ _ _ _ => v6, fun _ _ _ _ _ _ _ _ => v7, fun _ _ _ _ _ _ _ _ => v6, fun _ _ x ex _ _ _ _ => by rw [← ex]; exact n0, fun _ _ x ex _ _ _ _ => by rw [← ex, el, z0]; omega, fun _ _ x ex _ _ _ _ => by rw [← ex, el, z1]; omega, fun _ _ _ _ _ _ _ _ _ _ => v6⟩
theorem ofT_at {S' : HSt} {d : Nat} {r : List Nat} (hd : d < 5) (hl : r.length ≤ 4) (h : RB S' (d + 1) r) (m : Nat) (w : Int32) : ROWO (ofT S' d (nI m) w r.length) d (some (w.toInt, m :: r)) ∧ (∀ x k, ¬ (x = 52 ∧ k = d) → ¬ (x = 53 ∧ k = d) → x ≠ 46 + d → gI (ofT S' d (nI m) w r.length) x k = gI S' x k) := by
  have g4 : ∀ x, x ≠ 53 → x ≠ 46 + d → gI (of4 S' d (nI m) w) x = gI S' x := fun x h1 h2 => by
    unfold of4
    rw [gs_ne h2, gs_ne h1]
  have g46 : ∀ k, gI (of4 S' d (nI m) w) (46 + d) k = if k = 0 then nI m else gI S' (46 + d) k := fun k => by
    unfold of4
    rw [gs_eq]
    rw [gs_ne (show 46 + d ≠ 53 by omega)]
  have e1 : (1 : Int32) + nI r.length = nI (r.length + 1) := by
    rw [show (1 : Int32) = nI 1 from rfl, nI_add, Nat.add_comm]
  constructor
  · refine ⟨?_, ?_, ?_, fun i hi => ?_⟩
    · show gI (ofT S' d (nI m) w r.length) 52 d = nI (m :: r).length
      unfold ofT
      rw [gs_eq, if_pos rfl, e1]
      rfl
    · show 1 ≤ (m :: r).length ∧ (m :: r).length ≤ 5
      rw [List.length_cons]; omega
    · show (gI (ofT S' d (nI m) w r.length) 53 d).toInt = w.toInt
      unfold ofT
      rw [gs_ne (show (53 : Nat) ≠ 52 by decide), gI_rI, if_neg (show ¬ (53 : Nat) = 46 + d by omega)]
      unfold of4
      rw [gs_ne (show 53 ≠ 46 + d by omega), gs_eq, if_pos rfl]
    · have hi' : i < r.length + 1 := hi
      show gI (ofT S' d (nI m) w r.length) (46 + d) i = nI ((m :: r).getD i 0)
      unfold ofT
      rw [gs_ne (show 46 + d ≠ 52 by omega), gI_rI, if_pos rfl]
      show (if 1 ≤ i ∧ i < 1 + r.length then gI (of4 S' d (nI m) w) (46 + (d + 1)) (0 + (i - 1)) else gI (of4 S' d (nI m) w) (46 + d) i) = _
      by_cases q : i = 0
      · subst q
        rw [if_neg (by omega), g46, if_pos rfl]
        rfl
      · obtain ⟨j, rfl⟩ : ∃ j, i = j + 1 := ⟨i - 1, by omega⟩
        rw [if_pos (by omega), g4 _ (by omega) (by omega), show 0 + (j + 1 - 1) = j by omega, h.2 j (by omega)]
        rfl
  · intro x k h1 h2 h3
    unfold ofT
    by_cases q : x = 52
    · subst q
      rw [gs_o (by omega), gI_rI, if_neg h3, g4 52 (by decide) h3]
    · rw [gs_ne q, gI_rI, if_neg h3]
      unfold of4
      rw [gs_ne h3]
      by_cases q2 : x = 53
      · subst q2; rw [gs_o (by omega)]
      · rw [gs_ne q2]
theorem offer_at {S' : HSt} {d : Nat} {r : List Nat} {o : WRo} (hd : d < 5) (hl : r.length ≤ 4) (h : RB S' (d + 1) r) (ho : ROWO S' d o) (m : Nat) (w : Int32) : p_X2_offer S' 43 (nI d) (nI m) w ∧ ROWO (f_X2_offer S' 43 (nI d) (nI m) w) d (offO o (some (w.toInt, m :: r))) ∧ (∀ x k, ¬ (x = 52 ∧ k = d) → ¬ (x = 53 ∧ k = d) → x ≠ 46 + d → gI (f_X2_offer S' 43 (nI d) (nI m) w) x k = gI S' x k) := by
  obtain ⟨e1, e2⟩ := offer_v hd hl h.1 (nI m) w
  obtain ⟨t1, t2⟩ := ofT_at hd hl h m w
  refine ⟨e2, ?_⟩
  rw [e1]
  cases o with
  | none =>
    have h0 : gI S' 52 d ≤ 0 := by rw [ho.1]; decide
    rw [if_pos h0]
    exact ⟨t1, t2⟩
  | some v =>
    obtain ⟨a1, ⟨a2, a2'⟩, a3, a4⟩ := id ho
    have h0 : ¬ gI S' 52 d ≤ 0 := by rw [a1, ti_le, ti0, nI_ti (by omega)]; omega
    rw [if_neg h0]
    by_cases q : gI S' 53 d < w
    · rw [if_pos q]
      have e : offO (some v) (some (w.toInt, m :: r)) = some (w.toInt, m :: r) := by
        show (if v.1 < w.toInt then _ else _) = _
        rw [if_pos (by rw [ti_lt, a3] at q; exact q)]
      rw [e]
      exact ⟨t1, t2⟩
    · rw [if_neg q]
      have e : offO (some v) (some (w.toInt, m :: r)) = some v := by
        show (if v.1 < w.toInt then _ else _) = _
        rw [if_neg (by rw [ti_lt, a3] at q; exact q)]
      rw [e]
      exact ⟨ho, fun _ _ _ _ _ => rfl⟩
theorem ROWO.of {S' S'' : HSt} {d : Nat} {o : WRo} (h1 : gI S'' 52 d = gI S' 52 d) (h2 : gI S'' 53 d = gI S' 53 d) (h3 : gI S'' (46 + d) = gI S' (46 + d)) (h : ROWO S' d o) : ROWO S'' d o := by
  cases o with
  | none => exact ⟨h1.trans h.1, h2.trans h.2⟩
  | some v => exact ⟨h1.trans h.1, h.2.1, by rw [h2]; exact h.2.2.1, fun i hi => by rw [h3]; exact h.2.2.2 i hi⟩
/-- what was found, as a row -/
def RW (S' : HSt) (d : Nat) (v : Int × List Nat) : Prop := RB S' d v.2 ∧ (gI S' 53 d).toInt = v.1
theorem ROWO.rw {S' : HSt} {d : Nat} {o : WRo} (h : ROWO S' d o) : RW S' d (o.getD (0, [])) := by
  cases o with
  | none => exact ⟨⟨h.1, fun i hi => absurd hi (Nat.not_lt_zero _)⟩, by show (gI S' 53 d).toInt = 0; rw [h.2]; rfl⟩
  | some v => exact ⟨⟨h.1, h.2.2.2⟩, h.2.2.1⟩
