-- needs: 9c.dfs
theorem scn_skip {f : Nat → WRo} {m g : Nat} (hmg : m ≤ g) (h : ∀ k, m ≤ k → k < g → f k = none) : scn f g 0 = scn f m 0 := by
  obtain ⟨e, rfl⟩ : ∃ e, g = m + e := ⟨g - m, by omega⟩
  rw [scn_add, Nat.zero_add, scn_none e m h, offO_nr]
theorem scn_one {f : Nat → WRo} (g : Nat) : scn f (g + 1) 0 = offO (scn f g 0) (f g) := by
  rw [scn_add, Nat.zero_add]
  show offO _ (offO (f g) none) = _
  rw [offO_nr]
theorem off_some {a : WRo} (x : Int × List Nat) : ∃ v, offO a (some x) = some v := by
  cases a with
  | none => exact ⟨x, rfl⟩
  | some y =>
    by_cases q : y.1 < x.1
    · exact ⟨x, if_pos q⟩
    · exact ⟨y, if_neg q⟩
theorem scn_ne {f : Nat → WRo} {g : Nat} (h : ∃ v, f g = some v) : ∃ v, scn f (g + 1) 0 = some v := by
  obtain ⟨v, hv⟩ := h
  rw [scn_one, hv]
  exact off_some v
theorem nI_mm1 (m : Nat) : nI (m + 1) + (-1 : Int32) = nI m := nI_dn
theorem m1_p1 (m : Nat) : nI m + (-1 : Int32) + 1 = nI m := by
  rw [Int32.add_assoc]
  show nI m + ((-1 : Int32) + 1) = nI m
  rw [show ((-1 : Int32) + 1) = nI 0 by decide, nI_add]
  rfl
/-- what is found from depth d on, goes to the best row -/
theorem dfs6 {S B : HSt} {n c A : Nat} (hn : n ≤ 5) (hE : EV S B) (hc : (gI B 68 2).toInt = c) (hA : A = 6 + 2 * c) : ∀ (k d N : Nat) (x : (Nat → Int32) × Nat) (w : Int) (pre : List Nat) (b : WRo) (T : HSt), d + k = n → N + k ≤ 1999 → LB S N x.1 → x.2 < 16 → (-1000 + 99 * (k : Int) ≤ w ∧ w ≤ 1000 - 99 * (k : Int)) → DS B T d x w pre b → gI T 73 d = -1 → ∃ cost, cost ≤ X6 A k ∧ ∃ T', FrD d T T' ∧ MB T' (offO b (shf w pre (some (bs6 B A k x)))) ∧ ∀ f, (T_X12_seekRows_50 f T' (nI n) (nI A) (nI d + (-1)) → T_X12_seekRows_50 (f + cost) T (nI n) (nI A) (nI d)) ∧ L_X12_seekRows_50 (f + cost) T (nI n) (nI A) (nI d) = L_X12_seekRows_50 f T' (nI n) (nI A) (nI d + (-1)) := by
  have hc4 : c ≤ 4 := by have := hE.2.1.1.2.2.1.2; omega
  intro k
  induction k with
  | zero =>
    intro d N x w pre b T hk hN hL hx hw h h73
    have hd : d = n := by omega
    obtain ⟨p1, p2, p3⟩ := h.lay (by omega) hL.2.2.2.2.2.1
    obtain ⟨f1, f2, f3, f4, f5⟩ := lay_fr T d
    have hy : (if gI (f_X12_layPath T 64 (nI d)) 73 d < 0 then (0 : Int32) else 1) = 0 := by rw [f2, h73, if_pos (by decide)]
    have hxx : (if nI d = nI n then nI A else (gI (f_X12_layPath T 64 (nI d)) 73 d + 1)) = nI A := by rw [hd, if_pos rfl]
    obtain ⟨t1, f, t2, t3, t4, -, -⟩ := scan_L p2 (s := x.2) (d := d) (A := A) (by omega) (by omega) (by omega) p3.2.2.1 (nI n) 0 1000 A (Nat.le_refl _) (by omega)
    have hf : f = A := by omega
    subst hf
    have it := it_up (f := f) (by omega) hxx hy p1 t1 t4 (by rw [ti_le]; exact Int.le_refl _) (p_look _ (by omega))
    obtain ⟨l1, l2⟩ := look_at (T := f_X12_layPath T 64 (nI d)) (d := d) (w := w) (pre := pre) p3.2.2.2.2.2.2 (by omega) h.2.2.2.2.1 p3.2.2.2.1 p3.2.2.2.2.2.1
    rw [if_pos rfl] at it
    refine ⟨1, Nat.le_refl _, f_X12_lookRow (f_X12_layPath T 64 (nI d)) 64 (nI d), ?_, ?_, it⟩
    · refine f1.trans ⟨⟨by funext k; exact l2 68 k (by decide) (by omega), l2 64 18 (by decide) (by omega), l2 64 19 (by decide) (by omega)⟩, fun i _ => l2 72 i (by decide) (by omega), fun k _ => ⟨l2 74 k (by decide) (by omega), l2 75 k (by decide) (by omega)⟩, fun i _ => l2 73 i (by decide) (by omega)⟩
    · rw [bs6_0]
      show MB _ (offO b (some (w + 0, pre ++ [])))
      rw [Int.add_zero, List.append_nil]
      exact l1
  | succ k ih =>
    intro d N x w pre b0 T0 hk hN hL hx hw
    have hw' : -1000 + 99 * (k : Int) + 99 ≤ w ∧ w ≤ 1000 - 99 * (k : Int) - 99 := by omega
    -- from move m on
    have key : ∀ (j m : Nat) (b : WRo) (T : HSt), m ≤ A → A - m ≤ j → DS B T d x w pre b → gI T 73 d = nI m + (-1) → b = offO b0 (shf w pre (scn (it6 B A k x) m 0)) → (0 < m → ∃ v, scn (it6 B A k x) m 0 = some v) → ∃ cost, cost ≤ j * (1 + X6 A k) + 1 ∧ ∃ T', FrD d T T' ∧ MB T' (offO b0 (shf w pre (some (bs6 B A (k + 1) x)))) ∧ ∀ f, (T_X12_seekRows_50 f T' (nI n) (nI A) (nI d + (-1)) → T_X12_seekRows_50 (f + cost) T (nI n) (nI A) (nI d)) ∧ L_X12_seekRows_50 (f + cost) T (nI n) (nI A) (nI d) = L_X12_seekRows_50 f T' (nI n) (nI A) (nI d + (-1)) := by
      intro j
      induction j with
      | zero =>
        intro m b T hm hj h h73 hb hne
        have hmA : m = A := by omega
        subst hmA
        obtain ⟨p1, p2, p3⟩ := h.lay (by omega) hL.2.2.2.2.2.1
        obtain ⟨f1, f2, f3, f4, f5⟩ := lay_fr T d
        obtain ⟨q, rfl⟩ : ∃ q, m = q + 1 := ⟨m - 1, by omega⟩
        have hy : (if gI (f_X12_layPath T 64 (nI d)) 73 d < 0 then (0 : Int32) else 1) = 1 := by rw [f2, h73, nI_mm1, if_neg (by rw [ti_lt, ti0, nI_ti (by omega)]; omega)]
        have hxx : (if nI d = nI n then nI (q + 1) else (gI (f_X12_layPath T 64 (nI d)) 73 d + 1)) = nI (q + 1) := by
          rw [f2, h73, m1_p1]; exact ite_self _
        obtain ⟨t1, f, t2, t3, t4, t5, -⟩ := scan_L p2 (s := x.2) (d := d) (A := q + 1) (by omega) (by omega) (by omega) p3.2.2.1 (nI n) 1 1000 (q + 1) (Nat.le_refl _) (by omega)
        have hf : f = q + 1 := by omega
        subst hf
        have it := it_up (f := q + 1) (by omega) hxx hy p1 t1 t4 (by rw [ti_le]; exact Int.le_refl _) (p_look _ (by omega))
        rw [if_neg (by decide)] at it
        refine ⟨1, by omega, f_X12_layPath T 64 (nI d), f1, ?_, it⟩
        obtain ⟨v, hv⟩ := hne (by omega)
        rw [bs6_s, hv]
        rw [hb, hv] at p3
        exact p3.2.2.2.2.2.2
      | succ j ihj =>
        intro m b T hm hj h h73 hb hne
        obtain ⟨p1, p2, p3⟩ := h.lay (by omega) hL.2.2.2.2.2.1
        obtain ⟨f1, f2, f3, f4, f5⟩ := lay_fr T d
        have hdn : ¬ nI d = nI n := fun z => by
          have := congrArg Int32.toInt z
          rw [nI_ti (by omega), nI_ti (by omega)] at this
          omega
        have hxx : (if nI d = nI n then nI A else (gI (f_X12_layPath T 64 (nI d)) 73 d + 1)) = nI m := by
          rw [if_neg hdn, f2, h73, m1_p1]
        obtain ⟨y, hy⟩ : ∃ y, (if gI (f_X12_layPath T 64 (nI d)) 73 d < 0 then (0 : Int32) else 1) = y := ⟨_, rfl⟩
        obtain ⟨t1, f, t2, t3, t4, t5, t6⟩ := scan_L p2 (s := x.2) (d := d) (A := A) (by omega) (by omega) (by omega) p3.2.2.1 (nI n) y 1000 m hm (by omega)
        have hskip : scn (it6 B A k x) f 0 = scn (it6 B A k x) m 0 := scn_skip t2 (fun i h1 h2 => by
          unfold it6
          rw [t5 i h1 h2]
          rfl)
        by_cases hfA : f = A
        · subst hfA
          have it := it_up (f := f) (by omega) hxx hy p1 t1 t4 (by rw [ti_le]; exact Int.le_refl _) (p_look _ (by omega))
          by_cases hm0 : m = 0
          · subst hm0
            have y0 : y = 0 := by rw [← hy, f2, h73, if_pos (by decide)]
            rw [y0, if_pos rfl] at it
            obtain ⟨l1, l2⟩ := look_at (T := f_X12_layPath T 64 (nI d)) (d := d) (w := w) (pre := pre) p3.2.2.2.2.2.2 (by omega) h.2.2.2.2.1 p3.2.2.2.1 p3.2.2.2.2.2.1
            refine ⟨1, by omega, f_X12_lookRow (f_X12_layPath T 64 (nI d)) 64 (nI d), ?_, ?_, it⟩
            · refine f1.trans ⟨⟨by funext k; exact l2 68 k (by decide) (by omega), l2 64 18 (by decide) (by omega), l2 64 19 (by decide) (by omega)⟩, fun i _ => l2 72 i (by decide) (by omega), fun k _ => ⟨l2 74 k (by decide) (by omega), l2 75 k (by decide) (by omega)⟩, fun i _ => l2 73 i (by decide) (by omega)⟩
            · rw [bs6_s, hskip]
              show MB _ (offO b0 (some (w + 0, pre ++ [])))
              rw [Int.add_zero, List.append_nil]
              have e : b = b0 := by
                rw [hb]
                show offO b0 none = b0
                rw [offO_nr]
              rw [e] at l1
              exact l1
          · obtain ⟨q, rfl⟩ : ∃ q, m = q + 1 := ⟨m - 1, by omega⟩
            have y1 : y = 1 := by rw [← hy, f2, h73, nI_mm1, if_neg (by rw [ti_lt, ti0, nI_ti (by omega)]; omega)]
            rw [y1, if_neg (by decide)] at it
            refine ⟨1, by omega, f_X12_layPath T 64 (nI d), f1, ?_, it⟩
            obtain ⟨v, hv⟩ := hne (by omega)
            rw [bs6_s, hskip, hv]
            rw [hb, hv] at p3
            exact p3.2.2.2.2.2.2
        · have hfl : f < A := by omega
          have hmay : may6 B x f = true := t6 hfl
          obtain ⟨d1, d2, d3, d4, d5⟩ := dn_at hE hL (by omega) hc (m := f) (by omega) (by omega) hx h (by omega) hmay
          have it := it_dn (f := f) (by omega) hxx hy p1 t1 t4 (by rw [ti_le, nI_ti (by omega), nI_ti (by omega)]; omega) d1
          have hg := gn_bw hE hL (by omega) hc (m := f) (by omega)
          obtain ⟨c1, hc1, T3, a1, a2, a3⟩ := ih (d + 1) (N + 1) (stp6 B x f) (w + gn6 B x f) (pre ++ [f]) b (dnT T d f) (by omega) (by omega) (stp_B hE hL (by omega) hmay) (stp_lt hc4 hx (by omega)) (by omega) d3 d5
          have fr3 : FrD d T T3 := d2.trans a1.dn
          have i73 : gI T3 73 d = nI (f + 1) + (-1) := by rw [a1.2.2.2 d (by omega), d4, nI_mm1]
          have eit : it6 B A k x f = some (gn6 B x f + (bs6 B A k (stp6 B x f)).1, f :: (bs6 B A k (stp6 B x f)).2) := by
            unfold it6; rw [if_pos hmay]
          have eb : offO b (shf (w + gn6 B x f) (pre ++ [f]) (some (bs6 B A k (stp6 B x f)))) = offO b0 (shf w pre (scn (it6 B A k x) (f + 1) 0)) := by
            rw [scn_one, hskip, shf_off, ← offO_assoc, ← hb, eit]
            show offO b (some (w + gn6 B x f + _, pre ++ [f] ++ _)) = offO b (some (w + (gn6 B x f + _), pre ++ f :: _))
            rw [Int.add_assoc, List.append_assoc]
            rfl
          rw [eb] at a2
          obtain ⟨c2, hc2, T4, b1, b2, b3⟩ := ihj (f + 1) _ T3 (by omega) (by omega) (h.of fr3 a2) i73 rfl (fun _ => scn_ne ⟨_, eit⟩)
          refine ⟨1 + (c1 + c2), ?_, T4, fr3.trans b1, b2, fun g => ?_⟩
          · rw [Nat.succ_mul]; omega
          · obtain ⟨x1, x2⟩ := b3 g
            obtain ⟨y1, y2⟩ := a3 (g + c2)
            obtain ⟨z1, z2⟩ := it (g + c2 + c1)
            rw [nI_mm1] at y1 y2
            rw [show g + (1 + (c1 + c2)) = g + c2 + c1 + 1 by omega]
            exact ⟨fun q => z1 (y1 (x1 q)), z2.trans (y2.trans x2)⟩
    intro h h73
    obtain ⟨cost, h1, h2⟩ := key A 0 b0 T0 (Nat.zero_le _) (Nat.le_refl _) h (by rw [h73]; rfl) (by
      show b0 = offO b0 none
      rw [offO_nr]) (fun q => by omega)
    exact ⟨cost, h1, h2⟩
