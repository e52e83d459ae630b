-- needs: 9l.cls
/-! ===== moves: ticks of the class's search ===== -/
def SPEC (S B : HSt) (K : Int32) (c n A k d' : Nat) (g : HSt → Nat → Nat → Int32 → Int32 × HSt) (pg : HSt → Nat → Nat → Int32 → Prop) : Prop := ∀ (S' : HSt) (x : (Nat → Int32) × Nat) (N : Nat), SY S B K c n S' d' x → VX S K d' x N → N + k ≤ 1999 → pg S' 43 18 (nI d') ∧ CI S B K c (g S' 43 18 (nI d')).2 ∧ FrC n d' S' (g S' 43 18 (nI d')).2 ∧ RW (g S' 43 18 (nI d')).2 d' (bs6 B A k x) ∧ (g S' 43 18 (nI d')).1 = gI (g S' 43 18 (nI d')).2 53 d'
theorem scn_mem {f : Nat → WRo} : ∀ (c m : Nat) {v : Int × List Nat}, scn f c m = some v → ∃ i, m ≤ i ∧ i < m + c ∧ f i = some v := by
  intro c
  induction c with
  | zero => intro m v h; exact absurd h (by intro q; cases q)
  | succ c ih =>
    intro m v h
    have h' : offO (f m) (scn f c (m + 1)) = some v := h
    cases hf : f m with
    | none =>
      rw [hf, offO_nl] at h'
      obtain ⟨i, a, b, e⟩ := ih (m + 1) h'
      exact ⟨i, by omega, by omega, e⟩
    | some x =>
      cases hg : scn f c (m + 1) with
      | none =>
        rw [hf, hg, offO_nr] at h'
        exact ⟨m, by omega, by omega, by rw [hf, h']⟩
      | some y =>
        rw [hf, hg] at h'
        by_cases q : x.1 < y.1
        · have : offO (some x) (some y) = some y := if_pos q
          rw [this] at h'
          obtain ⟨i, a, b, e⟩ := ih (m + 1) (hg.trans h')
          exact ⟨i, by omega, by omega, e⟩
        · have : offO (some x) (some y) = some x := if_neg q
          rw [this] at h'
          exact ⟨m, by omega, by omega, by rw [hf, h']⟩
theorem scn_dom {f : Nat → WRo} {v : Int} {r : List Nat} : ∀ (c m i : Nat), m ≤ i → i < m + c → f i = some (v, r) → ∃ w q, scn f c m = some (w, q) ∧ v ≤ w := by
  intro c
  induction c with
  | zero => intro m i h1 h2; omega
  | succ c ih =>
    intro m i h1 h2 hf
    show ∃ w q, offO (f m) (scn f c (m + 1)) = some (w, q) ∧ v ≤ w
    by_cases e : i = m
    · subst e
      rw [hf]
      cases hg : scn f c (i + 1) with
      | none => exact ⟨v, r, offO_nr _, Int.le_refl _⟩
      | some y =>
        by_cases q : v < y.1
        · exact ⟨y.1, y.2, if_pos q, by omega⟩
        · exact ⟨v, r, if_neg q, Int.le_refl _⟩
    · obtain ⟨w, q, h3, h4⟩ := ih (m + 1) i (by omega) (by omega) hf
      rw [h3]
      cases hf2 : f m with
      | none => exact ⟨w, q, rfl, h4⟩
      | some y =>
        by_cases z : y.1 < w
        · exact ⟨w, q, if_pos z, h4⟩
        · exact ⟨y.1, y.2, if_neg z, by omega⟩
theorem bs6_len (B : HSt) (A : Nat) : ∀ (k : Nat) (x : (Nat → Int32) × Nat), (bs6 B A k x).2.length ≤ k := by
  intro k
  induction k with
  | zero => intro x; exact Nat.le_refl _
  | succ k ih =>
    intro x
    rw [bs6_s]
    cases h : scn (it6 B A k x) A 0 with
    | none => exact Nat.zero_le _
    | some v =>
      obtain ⟨i, -, -, e⟩ := scn_mem A 0 h
      unfold it6 at e
      by_cases q : may6 B x i = true
      · rw [if_pos q] at e
        have := Option.some.inj e
        show v.2.length ≤ k + 1
        rw [← this]
        show (i :: (bs6 B A k (stp6 B x i)).2).length ≤ k + 1
        rw [List.length_cons]
        have := ih (stp6 B x i)
        omega
      · rw [if_neg q] at e
        exact absurd e (by intro z; cases z)
theorem bs6_bw {S B : HSt} {c : Nat} (hE : EV S B) (hc : (gI B 68 2).toInt = c) : ∀ (k N : Nat) (x : (Nat → Int32) × Nat), LB S N x.1 → N + k ≤ 1999 → -99 * (k : Int) ≤ (bs6 B (6 + 2 * c) k x).1 ∧ (bs6 B (6 + 2 * c) k x).1 ≤ 99 * (k : Int) := by
  intro k
  induction k with
  | zero => intro N x _ _; exact ⟨by show _ ≤ (0 : Int); omega, by show (0 : Int) ≤ _; omega⟩
  | succ k ih =>
    intro N x hL hN
    rw [bs6_s]
    cases h : scn (it6 B (6 + 2 * c) k x) (6 + 2 * c) 0 with
    | none => exact ⟨by show _ ≤ (0 : Int); omega, by show (0 : Int) ≤ _; omega⟩
    | some v =>
      obtain ⟨i, -, hi, e⟩ := scn_mem (6 + 2 * c) 0 h
      unfold it6 at e
      by_cases q : may6 B x i = true
      · rw [if_pos q] at e
        have e2 := Option.some.inj e
        have h1 := ih (N + 1) (stp6 B x i) (stp_B hE hL (by omega) q) (by omega)
        have h2 := gn_bw hE hL (by omega) hc (m := i) (by omega)
        show -99 * ((k + 1 : Nat) : Int) ≤ v.1 ∧ v.1 ≤ 99 * ((k + 1 : Nat) : Int)
        rw [← e2]
        show -99 * ((k + 1 : Nat) : Int) ≤ gn6 B x i + _ ∧ gn6 B x i + _ ≤ 99 * ((k + 1 : Nat) : Int)
        omega
      · rw [if_neg q] at e
        exact absurd e (by intro z; cases z)
/-- two ticks to the same spin and size lead to the same state -/
theorem stp_eq {B : HSt} {x : (Nat → Int32) × Nat} {m m' : Nat} (h : m < 6) (h' : m' < 6) (hs : tnm (x.1 1) (nI (m / 2 + 1)) (x.1 3) = tnm (x.1 1) (nI (m' / 2 + 1)) (x.1 3)) (h0 : (stp6 B x m).1 0 = (stp6 B x m').1 0) : stp6 B x m = stp6 B x m' := by
  have c1 : gI (ly B x.1) 64 21 = x.1 1 := ly_W B x.1 1 (by omega)
  have c3 : gI (ly B x.1) 64 23 = x.1 3 := ly_W B x.1 3 (by omega)
  have hj : ∀ j, j < 6 → (stp6 B x m).1 j = (stp6 B x m').1 j := fun j hj => by
    have hc : j = 0 ∨ j = 1 ∨ j = 2 ∨ j = 3 ∨ j = 4 ∨ j = 5 := by omega
    by_cases q : j = 0
    · subst q; exact h0
    rw [stp_lo B x h j hj, stp_lo B x h' j hj]
    unfold WL
    rcases hc with rfl | rfl | rfl | rfl | rfl | rfl
    · exact absurd rfl q
    · show gI _ 64 21 = gI _ 64 21
      rw [tck_21, tck_21, c1, c3, hs]
    · show gI _ 64 22 = gI _ 64 22
      rw [tck_22, tck_22, c1, c3, hs]
    · show gI _ 64 23 = gI _ 64 23
      rw [tck_23, tck_23, c1, c3, hs]
    · show gI _ 64 24 = gI _ 64 24
      rw [tck_24, tck_24]
    · show gI _ 64 25 = gI _ 64 25
      rw [tck_25, tck_25, c1, c3, hs]
  have e1 : (stp6 B x m).1 = (stp6 B x m').1 := by
    funext j
    by_cases q : j < 6
    · exact hj j q
    · unfold stp6
      rw [if_pos h, if_pos h']
      exact (if_neg q).trans (if_neg q).symm
  have e2 : (stp6 B x m).2 = (stp6 B x m').2 := by
    unfold stp6
    rw [if_pos h, if_pos h']
  exact Prod.ext e1 e2
