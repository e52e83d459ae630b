-- needs: 9b.it
/-! ===== moves: the model's whole search ===== -/
noncomputable def bs6 (B : HSt) (A k : Nat) (x : (Nat → Int32) × Nat) : Int × List Nat := bsm A (may6 B) (stp6 B) (gn6 B) k x
noncomputable def it6 (B : HSt) (A k : Nat) (x : (Nat → Int32) × Nat) (m : Nat) : WRo := if may6 B x m then some (gn6 B x m + (bs6 B A k (stp6 B x m)).1, m :: (bs6 B A k (stp6 B x m)).2) else none
theorem bs6_s (B : HSt) (A k : Nat) (x : (Nat → Int32) × Nat) : bs6 B A (k + 1) x = (scn (it6 B A k x) A 0).getD (0, []) := rfl
theorem bs6_0 (B : HSt) (A : Nat) (x : (Nat → Int32) × Nat) : bs6 B A 0 x = (0, []) := rfl
theorem MB.of {T T' : HSt} {b : WRo} (h1 : gI T' 64 38 = gI T 64 38) (h2 : gI T' 64 39 = gI T 64 39) (h3 : gI T' 76 = gI T 76) (h : MB T b) : MB T' b := by
  cases b with
  | none => show gI T' 64 38 = _; rw [h1]; exact h
  | some x =>
    obtain ⟨a1, a2, a3, a4⟩ := h
    exact ⟨by rw [h1]; exact a1, a2, by rw [h2]; exact a3, fun k hk => by rw [h3]; exact a4 k hk⟩
def X6 (A : Nat) : Nat → Nat
  | 0 => 1
  | k + 1 => A * (1 + X6 A k) + 1
def FrD (d : Nat) (T T' : HSt) : Prop := (gI T' 68 = gI T 68 ∧ gI T' 64 18 = gI T 64 18 ∧ gI T' 64 19 = gI T 64 19) ∧ (∀ i, i < 7 * (d + 1) → gI T' 72 i = gI T 72 i) ∧ (∀ k, k ≤ d → gI T' 74 k = gI T 74 k ∧ gI T' 75 k = gI T 75 k) ∧ (∀ i, i < d → gI T' 73 i = gI T 73 i)
theorem FrD.refl (d : Nat) (T : HSt) : FrD d T T := ⟨⟨rfl, rfl, rfl⟩, fun _ _ => rfl, fun _ _ => ⟨rfl, rfl⟩, fun _ _ => rfl⟩
theorem FrD.trans {d : Nat} {T U V : HSt} (h : FrD d T U) (h' : FrD d U V) : FrD d T V :=
  ⟨⟨h'.1.1.trans h.1.1, h'.1.2.1.trans h.1.2.1, h'.1.2.2.trans h.1.2.2⟩, fun i hi => (h'.2.1 i hi).trans (h.2.1 i hi), fun k hk => ⟨(h'.2.2.1 k hk).1.trans (h.2.2.1 k hk).1, (h'.2.2.1 k hk).2.trans (h.2.2.1 k hk).2⟩, fun i hi => (h'.2.2.2 i hi).trans (h.2.2.2 i hi)⟩
theorem FrD.dn {d : Nat} {T U : HSt} (h : FrD (d + 1) T U) : FrD d T U := ⟨h.1, fun i hi => h.2.1 i (by omega), fun k hk => h.2.2.1 k (by omega), fun i hi => h.2.2.2 i (by omega)⟩
/-- the search stands at depth d -/
def DS (B T : HSt) (d : Nat) (x : (Nat → Int32) × Nat) (w : Int) (pre : List Nat) (b : WRo) : Prop := (gI T 68 = gI B 68 ∧ gI T 64 18 = gI B 64 18 ∧ gI T 64 19 = gI B 64 19) ∧ (∀ j, j < 6 → gI T 72 (7 * d + j) = x.1 j) ∧ gI T 74 d = nI x.2 ∧ (gI T 75 d).toInt = w ∧ pre.length = d ∧ (∀ i, i < d → gI T 73 i = nI (pre.getD i 0)) ∧ MB T b
theorem lay_fr (T : HSt) (d : Nat) : FrD d T (f_X12_layPath T 64 (nI d)) ∧ gI (f_X12_layPath T 64 (nI d)) 73 = gI T 73 ∧ gI (f_X12_layPath T 64 (nI d)) 76 = gI T 76 ∧ gI (f_X12_layPath T 64 (nI d)) 64 38 = gI T 64 38 ∧ gI (f_X12_layPath T 64 (nI d)) 64 39 = gI T 64 39 := by
  have f := v_X12_layPath T 64 (nI d)
  have e : ∀ x, x ≠ 64 → gI (f_X12_layPath T 64 (nI d)) x = gI T x := fun x hx => fr_addr f x (by intro q hq; simp at hq; rcases hq with h | h | h | h | h | h | h <;> rw [h] <;> simp <;> omega)
  have e64 : ∀ k, (k < 20 ∨ 26 < k) → k ≠ 1000 → gI (f_X12_layPath T 64 (nI d)) 64 k = gI T 64 k := fun k hk h1 => f 64 k (by intro q; simp at q; omega) (by simp)
  refine ⟨⟨⟨e 68 (by decide), e64 18 (by omega) (by decide), e64 19 (by omega) (by decide)⟩, fun i _ => by rw [e 72 (by decide)], fun k _ => ⟨by rw [e 74 (by decide)], by rw [e 75 (by decide)]⟩, fun i _ => by rw [e 73 (by decide)]⟩, e 73 (by decide), e 76 (by decide), e64 38 (by omega) (by decide), e64 39 (by omega) (by decide)⟩
theorem DS.of {B T T' : HSt} {d : Nat} {x : (Nat → Int32) × Nat} {w : Int} {pre : List Nat} {b b' : WRo} (h : DS B T d x w pre b) (hf : FrD d T T') (hb : MB T' b') : DS B T' d x w pre b' := by
  obtain ⟨⟨a1, a2, a3⟩, a4, a5, a6, a7, a8, -⟩ := h
  exact ⟨⟨hf.1.1.trans a1, hf.1.2.1.trans a2, hf.1.2.2.trans a3⟩, fun j hj => (hf.2.1 _ (by omega)).trans (a4 j hj), (hf.2.2.1 d (Nat.le_refl _)).1.trans a5, by rw [(hf.2.2.1 d (Nat.le_refl _)).2]; exact a6, a7, fun i hi => (hf.2.2.2 i hi).trans (a8 i hi), hb⟩
/-- the loop is laid -/
theorem DS.lay {B T : HSt} {d : Nat} {x : (Nat → Int32) × Nat} {w : Int} {pre : List Nat} {b : WRo} (h : DS B T d x w pre b) (hd : d < 6) (h5 : Bz (x.1 5)) : p_X12_layPath T 64 (nI d) ∧ EqB (f_X12_layPath T 64 (nI d)) B x.1 ∧ DS B (f_X12_layPath T 64 (nI d)) d x w pre b := by
  obtain ⟨f1, f2, f3, f4, f5⟩ := lay_fr T d
  obtain ⟨p1, p2, -⟩ := layP_at T hd (by rw [h.2.1 5 (by omega)]; exact h5)
  have h' := h.of f1 (h.2.2.2.2.2.2.of f4 f5 f3)
  exact ⟨p1, ⟨h'.1.1, h'.1.2.1, h'.1.2.2, fun j hj => by rw [p2 j (by omega)]; exact h.2.1 j hj⟩, h'⟩
/-- the heap behind a move -/
theorem dn_at {S B T : HSt} {x : (Nat → Int32) × Nat} {N m c d : Nat} {w : Int} {pre : List Nat} {b : WRo} (hE : EV S B) (hL : LB S N x.1) (hN : N ≤ 1999) (hc : (gI B 68 2).toInt = c) (hm : m < 6 + 2 * c) (hd : d < 5) (hx : x.2 < 16) (h : DS B T d x w pre b) (hw : -1000 ≤ w ∧ w ≤ 1000) (hmay : may6 B x m = true) :
    p_X12_doMove (sI (f_X12_layPath T 64 (nI d)) 73 d (nI m)) 64 (nI m) (nI d) ∧ FrD d T (dnT T d m) ∧ DS B (dnT T d m) (d + 1) (stp6 B x m) (w + gn6 B x m) (pre ++ [m]) b ∧ gI (dnT T d m) 73 d = nI m ∧ gI (dnT T d m) 73 (d + 1) = -1 := by
  obtain ⟨p1, p2, p3⟩ := h.lay (by omega) hL.2.2.2.2.2.1
  obtain ⟨f1, f2, f3, f4, f5⟩ := lay_fr T d
  unfold dnT
  generalize f_X12_layPath T 64 (nI d) = U at p2 p3 f1 f2 f3 f4 f5
  have hU : ∀ y, y ≠ 73 → gI (sI U 73 d (nI m)) y = gI U y := fun y hy => gs_ne hy
  have e2 : EqB (sI U 73 d (nI m)) B x.1 := p2.of (fun y k hy _ => by rw [hU y (by omega)]) (hU 68 (by decide))
  obtain ⟨d1, d2, d3, d4, d5, d6⟩ := do_at hE hL hN hc hm hd (by omega) e2 (by rw [hU 74 (by decide)]; exact p3.2.2.1) (by rw [hU 75 (by decide)]; exact p3.2.2.2.1) hw hmay
  have fd := v_X12_doMove (sI U 73 d (nI m)) 64 (nI m) (nI d)
  generalize hV : f_X12_doMove (sI U 73 d (nI m)) 64 (nI m) (nI d) = V at d2 d3 d4 d5 d6 fd
  have g68 : gI V 68 = gI U 68 := (fr_addr fd 68 (by decide)).trans (hU 68 (by decide))
  have g76 : gI V 76 = gI U 76 := (fr_addr fd 76 (by decide)).trans (hU 76 (by decide))
  have g73 : gI V 73 = gI (sI U 73 d (nI m)) 73 := fr_addr fd 73 (by decide)
  have g64 : ∀ k, (k < 20 ∨ 28 < k) → k ≠ 1000 → gI V 64 k = gI U 64 k := fun k hk h1 => (fd 64 k (by intro q; simp at q; omega) (by simp)).trans (by rw [hU 64 (by decide)])
  have hne : ∀ y, y ≠ 73 → gI (sI V 73 (d + 1) (-1)) y = gI V y := fun y hy => gs_ne hy
  have hfr : FrD d T (sI V 73 (d + 1) (-1)) := by
    refine f1.trans ⟨⟨(hne 68 (by decide)).trans g68, by rw [hne 64 (by decide), g64 18 (by omega) (by decide)], by rw [hne 64 (by decide), g64 19 (by omega) (by decide)]⟩, fun i hi => by rw [hne 72 (by decide), d6 i (by omega), hU 72 (by decide)], fun k hk => ⟨by rw [hne 74 (by decide), (d5 k (by omega)).1, hU 74 (by decide)], by rw [hne 75 (by decide), (d5 k (by omega)).2, hU 75 (by decide)]⟩, fun i hi => by rw [gs_o (by omega), g73, gs_o (by omega)]⟩
  refine ⟨d1, hfr, ⟨⟨(hne 68 (by decide)).trans (g68.trans p3.1.1), ?_, ?_⟩, fun j hj => ?_, ?_, ?_, ?_, fun i hi => ?_, ?_⟩, ?_, ?_⟩
  · rw [hne 64 (by decide), g64 18 (by omega) (by decide)]; exact p3.1.2.1
  · rw [hne 64 (by decide), g64 19 (by omega) (by decide)]; exact p3.1.2.2
  · rw [hne 72 (by decide)]; exact d2 j hj
  · rw [hne 74 (by decide)]; exact d3
  · rw [hne 75 (by decide)]; exact d4
  · simp; exact h.2.2.2.2.1
  · rw [gs_o (by omega), g73, gs_eq]
    have hl := h.2.2.2.2.1
    by_cases e : i = d
    · rw [if_pos e, e, ← hl, getD_app2]
    · rw [if_neg e, getD_app1 (by omega)]; exact p3.2.2.2.2.2.1 i (by omega)
  · exact p3.2.2.2.2.2.2.of (by rw [hne 64 (by decide), g64 38 (by omega) (by decide)]) (by rw [hne 64 (by decide), g64 39 (by omega) (by decide)]) (by rw [hne 76 (by decide), g76])
  · rw [gs_o (by omega), g73, gs_eq, if_pos rfl]
  · rw [gs_eq, if_pos rfl]
theorem stp_lt {B : HSt} {x : (Nat → Int32) × Nat} {c m : Nat} (hc : c ≤ 4) (hx : x.2 < 16) (hm : m < 6 + 2 * c) : (stp6 B x m).2 < 16 := by
  unfold stp6
  by_cases q : m < 6
  · rw [if_pos q]; exact hx
  · rw [if_neg q]
    exact b_F 4 (by omega) x.2 hx ((m - 6) / 2) (by omega)
