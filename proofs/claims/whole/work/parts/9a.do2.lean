-- needs: 99.do
theorem p_path (T : HSt) {d : Nat} (hd : d < 6) : p_X12_keepPath T 64 (nI d) := (path_L hd 1000 T 0 (by omega) (by omega)).1
theorem EqB.of {T U B : HSt} {L : Nat → Int32} (h : EqB T B L) (h1 : ∀ x k, x = 64 ∨ x = 68 → k ≠ 28 → gI U x k = gI T x k) (h2 : gI U 68 = gI T 68) : EqB U B L :=
  ⟨h2.trans h.1, (h1 64 18 (Or.inl rfl) (by decide)).trans h.2.1, (h1 64 19 (Or.inl rfl) (by decide)).trans h.2.2.1, fun j hj => (h1 64 (20 + j) (Or.inl rfl) (by omega)).trans (h.2.2.2 j hj)⟩
theorem do_at {S B T : HSt} {x : (Nat → Int32) × Nat} {N m c d : Nat} {w : Int} (hE : EV S B) (hL : LB S N x.1) (hN : N ≤ 1999) (hc : (gI B 68 2).toInt = c) (hm : m < 6 + 2 * c) (hd : d < 5) (hx : x.2 < 64) (h : EqB T B x.1) (h74 : gI T 74 d = nI x.2) (h75 : (gI T 75 d).toInt = w) (hw : -1000 ≤ w ∧ w ≤ 1000) (hmay : may6 B x m = true) :
    p_X12_doMove T 64 (nI m) (nI d) ∧ (∀ j, j < 6 → gI (f_X12_doMove T 64 (nI m) (nI d)) 72 (7 * (d + 1) + j) = (stp6 B x m).1 j) ∧ gI (f_X12_doMove T 64 (nI m) (nI d)) 74 (d + 1) = nI (stp6 B x m).2 ∧ (gI (f_X12_doMove T 64 (nI m) (nI d)) 75 (d + 1)).toInt = w + gn6 B x m ∧ (∀ k, k ≠ d + 1 → gI (f_X12_doMove T 64 (nI m) (nI d)) 74 k = gI T 74 k ∧ gI (f_X12_doMove T 64 (nI m) (nI d)) 75 k = gI T 75 k) ∧ (∀ i, ¬ (7 * (d + 1) ≤ i ∧ i < 7 * (d + 1) + 7) → gI (f_X12_doMove T 64 (nI m) (nI d)) 72 i = gI T 72 i) := by
  have hc4 : c ≤ 4 := by have := hE.2.1.1.2.2.1.2; omega
  have hB := stp_B hE hL (by omega) hmay
  have hg := gn_bw hE hL (by omega) hc hm
  have v1 : vp_in (nI d) 6 := vp_in_nI (by omega) (by omega)
  have v2 : vp_in (nI d + 1) 6 := by rw [nsucc]; exact vp_in_nI (by omega) (by omega)
  have pk : ∀ U, p_X12_keepPath U 64 (nI d + 1) := fun U => by rw [nsucc]; exact p_path U (by omega)
  have eclr : (nI d).toNatClampNeg = d := nI_clamp' (by omega)
  have eclr1 : (nI d + 1).toNatClampNeg = d + 1 := by rw [nsucc]; exact nI_clamp' (by omega)
  have e2 : dm2 T d = sI (sI T 74 (d + 1) (gI T 74 d)) 75 (d + 1) (gI (sI T 74 (d + 1) (gI T 74 d)) 75 d) := rfl
  by_cases q : m < 6
  · have nq : ¬ (6 : Int32) ≤ nI m := fun z => by have := (le6 (show m < 14 by omega)).mp z; omega
    obtain ⟨a1, a2, a3⟩ := dm2_at T d
    have hE2 : EqB (dm2 T d) B x.1 := h.of (fun y k hy _ => a3 y k (by omega) (by omega)) (by funext k; exact a3 68 k (by omega) (by omega))
    obtain ⟨S', hR, -⟩ := mkRG hE hL hE2
    have pt : ∀ a b, p_X12_doTick (dm2 T d) 64 0 a b (-1000000) := fun a b => p_tick hR.prm _ _ _ _
    have ft := v_X12_doTick (dm2 T d) 64 0 (nI (m / 2 + 1)) (if m % 2 = 0 then 4 else 8) (-1000000)
    have es : ∀ j, j < 6 → WL (f_X12_doTick (dm2 T d) 64 0 (nI (m / 2 + 1)) (if m % 2 = 0 then 4 else 8) (-1000000)) j = (stp6 B x m).1 j := fun j hj => by
      rw [tick_cg hE2 _ _ _ _ j hj]
      unfold stp6
      rw [if_pos q]
      show _ = rdL _ j
      unfold rdL
      rw [if_pos hj]
    have hs2 : (stp6 B x m).2 = x.2 := by unfold stp6; rw [if_pos q]
    have hg0 : gn6 B x m = 0 := by unfold gn6; rw [if_pos q]
    rw [hs2, hg0, do_lo T hd q]
    generalize f_X12_doTick (dm2 T d) 64 0 (nI (m / 2 + 1)) (if m % 2 = 0 then 4 else 8) (-1000000) = U at ft es
    obtain ⟨-, k2, k3, k4⟩ := path_at U (d := d + 1) (by omega) (by rw [show gI U 64 25 = WL U 5 from rfl, es 5 (by omega)]; exact hB.2.2.2.2.2.1)
    have g74 : gI U 74 = gI (dm2 T d) 74 := fr_addr ft 74 (by decide)
    have g75 : gI U 75 = gI (dm2 T d) 75 := fr_addr ft 75 (by decide)
    have g72 : gI U 72 = gI (dm2 T d) 72 := fr_addr ft 72 (by decide)
    refine ⟨?_, fun j hj => by rw [k2 j (by omega)]; exact es j hj, ?_, ?_, fun k hk => ⟨?_, ?_⟩, fun i hi => ?_⟩
    · unfold p_X12_doMove
      rw [eclr, eclr1]
      refine ⟨v1, v2, fun _ _ => v1, fun _ _ => v2, fun _ _ _ _ z => absurd z nq, fun _ _ _ _ z => absurd z nq, fun _ _ _ _ z => absurd z nq, fun _ _ _ _ z => absurd z nq, fun _ _ _ _ z => absurd z nq, fun S1 e1 S2 e2' _ x12 _ => ?_, fun _ _ _ _ _ _ => pk _⟩
      subst e1
      subst e2'
      rw [← e2]
      exact pt _ _
    · rw [k4 74 (by decide), g74, a1, h74]
    · rw [k4 75 (by decide), g75, a2, h75]; omega
    · rw [k4 74 (by decide), g74, a3 74 k (by omega) (by omega)]
    · rw [k4 75 (by decide), g75, a3 75 k (by omega) (by omega)]
    · rw [k3 i hi, g72, a3 72 i (by omega) (by omega)]
  · have pq : (6 : Int32) ≤ nI m := (le6 (show m < 14 by omega)).mpr (by omega)
    have e6 := m6 m (by omega) (by omega)
    have e7 := m2 m (by omega)
    have he : nI (m % 2) = 0 ∨ nI (m % 2) = 1 := by
      rcases Nat.mod_two_eq_zero_or_one m with e | e <;> rw [e]
      · exact Or.inl rfl
      · exact Or.inr rfl
    have ex : (if nI (m % 2) = 1 then (1 : Int32) else 0) = nI (m % 2) := by
      rcases he with e | e <;> rw [e]
      · rfl
      · rfl
    have hb : (m - 6) / 2 < 4 := by omega
    have hbc : (((m - 6) / 2 : Nat) : Int) < (gI B 68 2).toInt := by omega
    have hs2 : (stp6 B x m).2 = x.2 ||| 2 ^ ((m - 6) / 2) := by unfold stp6; rw [if_neg q]
    have hg0 : gn6 B x m = (f_X12_counts (ly B x.1) 64 (nI (m % 2)) (nI ((m - 6) / 2))).1.toInt := by unfold gn6; rw [if_neg q]
    have hst : (stp6 B x m).1 = rdL (f_X12_shut (ly B x.1) 64) := by unfold stp6; rw [if_neg q]
    have hdo := do_hi T hd (show m < 14 by omega) (show 6 ≤ m by omega)
    have e5 : ∀ b, dm5 T d b = sI (dm2 T d) 74 (d + 1) (gI (dm2 T d) 74 (d + 1) ||| ((1 : Int32) <<< (nI b &&& 31))) := fun _ => rfl
    generalize (m - 6) / 2 = b at e6 hb hbc hs2 hg0 hdo
    generalize m % 2 = e at e7 he ex hg0 hdo
    obtain ⟨a1, a2, a3⟩ := dm5_at T hx (show b < 6 by omega) h74
    have hE5 : EqB (dm5 T d b) B x.1 := h.of (fun y k hy _ => a3 y k (by omega) (by omega)) (by funext k; exact a3 68 k (by omega) (by omega))
    obtain ⟨pc, ec⟩ := hE5.cnt hE hL (by omega) hb hbc he
    have fc := v_X12_counts (dm5 T d b) 64 (nI e) (nI b)
    have fs := v_X12_shut (dm9 T d b e) 64
    have h9 : ∀ y k, y ≠ 75 → ¬ (y = 64 ∧ k = 28) → gI (dm9 T d b e) y k = gI (dm5 T d b) y k := fun y k h1 h2 => by
      unfold dm9
      rw [gs_ne h1]
      by_cases z : y = 64
      · subst z
        exact fc 64 k (by intro w; simp at w; omega) (by simp)
      · rw [fr_addr fc y (by intro w hw; simp at hw; subst hw; simp; omega)]
    have hE9 : EqB (dm9 T d b e) B x.1 := hE5.of (fun y k hy hk => h9 y k (by omega) (by omega)) (by funext k; exact h9 68 k (by omega) (by omega))
    have es : ∀ j, j < 6 → WL (f_X12_shut (dm9 T d b e) 64) j = (stp6 B x m).1 j := fun j hj => by
      rw [shut_cg hE9 j hj, hst]
      show _ = rdL _ j
      unfold rdL
      rw [if_pos hj]
    have w75 : (gI (dm9 T d b e) 75 (d + 1)).toInt = w + gn6 B x m := by
      unfold dm9
      rw [gs_eq, if_pos rfl, ec, a2, ti_add (by rw [h75, ← hg0]; omega) (by rw [h75, ← hg0]; omega), h75, hg0]
    have k75 : ∀ k, k ≠ d + 1 → gI (dm9 T d b e) 75 k = gI (dm5 T d b) 75 k := fun k hk => by
      unfold dm9
      rw [gs_o hk, fr_addr fc 75 (by decide)]
    rw [hs2, hdo]
    generalize hU : f_X12_shut (dm9 T d b e) 64 = U at fs es
    obtain ⟨-, k2, k3, k4⟩ := path_at U (d := d + 1) (by omega) (by rw [show gI U 64 25 = WL U 5 from rfl, es 5 (by omega)]; exact hB.2.2.2.2.2.1)
    have g74 : gI U 74 = gI (dm9 T d b e) 74 := fr_addr fs 74 (by decide)
    have g75 : gI U 75 = gI (dm9 T d b e) 75 := fr_addr fs 75 (by decide)
    have g72 : gI U 72 = gI (dm9 T d b e) 72 := fr_addr fs 72 (by decide)
    refine ⟨?_, fun j hj => by rw [k2 j (by omega)]; exact es j hj, ?_, ?_, fun k hk => ⟨?_, ?_⟩, fun i hi => ?_⟩
    · unfold p_X12_doMove
      rw [eclr, eclr1, e6, e7, ex]
      refine ⟨v1, v2, fun _ _ => v1, fun _ _ => v2, fun _ _ _ _ _ _ _ => v2, fun _ _ _ _ _ _ _ => v2, fun _ _ _ _ _ _ _ _ _ => v2, fun S1 e1 S2 e2' _ x4 e4 S5 e5' x7 e7' => ?_, fun _ _ _ _ _ _ _ _ _ _ _ _ _ => v2, fun _ _ _ _ z => absurd pq z, fun _ _ _ _ _ _ => pk _⟩
      subst e1
      subst e2'
      subst e4
      subst e5'
      subst e7'
      rw [← e2, ← e5]
      exact pc
    · rw [k4 74 (by decide), g74, h9 74 _ (by decide) (by omega), a1]
    · rw [k4 75 (by decide), g75, w75]
    · rw [k4 74 (by decide), g74, h9 74 _ (by decide) (by omega), a3 74 k (by omega) (by omega)]
    · rw [k4 75 (by decide), g75, k75 k hk, a3 75 k (by omega) (by omega)]
    · rw [k3 i hi, g72, h9 72 _ (by decide) (by omega), a3 72 i (by omega) (by omega)]
