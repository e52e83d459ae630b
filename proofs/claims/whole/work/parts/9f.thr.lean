-- needs: 9e.rowsm
/-! ===== moves: the size from which on a throw is likely ===== -/
def con (g : Int → Bool) (zf o : Int → Int) (s z : Int) : Int := if g z = true then (if s < zf z then 0 else o z) else 0
def smz (g : Int → Bool) (zf o : Int → Int) (s : Int) : Nat → Int → Int
  | 0, _ => 0
  | n + 1, z => con g zf o s z + smz g zf o s n (z + 1)
theorem smz_mono {g : Int → Bool} {zf o : Int → Int} (ho : ∀ z, 0 ≤ o z) {s s' : Int} (h : s ≤ s') : ∀ (n : Nat) (z : Int), smz g zf o s n z ≤ smz g zf o s' n z := by
  intro n
  induction n with
  | zero => intro z; exact Int.le_refl _
  | succ n ih =>
    intro z
    show con g zf o s z + smz g zf o s n (z + 1) ≤ con g zf o s' z + smz g zf o s' n (z + 1)
    have h1 := ih (z + 1)
    have h2 : con g zf o s z ≤ con g zf o s' z := by
      unfold con
      have := ho z
      split
      · split
        · split <;> omega
        · rw [if_neg (by omega)]; omega
      · omega
    omega
theorem smz_ex {g : Int → Bool} {zf o : Int → Int} {s : Int} : ∀ (n : Nat) (z : Int), smz g zf o s n z ≠ smz g zf o (s - 1) n z → ∃ y, z ≤ y ∧ y < z + n ∧ g y = true ∧ zf y = s := by
  intro n
  induction n with
  | zero => intro z h; exact absurd rfl h
  | succ n ih =>
    intro z h
    by_cases q : g z = true ∧ zf z = s
    · exact ⟨z, by omega, by omega, q.1, q.2⟩
    · have h2 : con g zf o s z = con g zf o (s - 1) z := by
        unfold con
        by_cases c : g z = true
        · rw [if_pos c, if_pos c]
          have : zf z ≠ s := fun e => q ⟨c, e⟩
          by_cases c2 : s < zf z
          · rw [if_pos c2, if_pos (by omega)]
          · rw [if_neg c2, if_neg (by omega)]
        · rw [if_neg c, if_neg c]
      obtain ⟨y, h3, h4, h5⟩ := ih (z + 1) (fun e => h (by
        show con g zf o s z + smz g zf o s n (z + 1) = con g zf o (s - 1) z + smz g zf o (s - 1) n (z + 1)
        rw [h2, e]))
      exact ⟨y, by omega, by omega, h5⟩
theorem smz_neg {g : Int → Bool} {zf o : Int → Int} (hz : ∀ z, g z = true → 0 ≤ zf z) {s : Int} (hs : s < 0) : ∀ (n : Nat) (z : Int), smz g zf o s n z = 0 := by
  intro n
  induction n with
  | zero => intro z; rfl
  | succ n ih =>
    intro z
    show con g zf o s z + smz g zf o s n (z + 1) = 0
    rw [ih]
    have : con g zf o s z = 0 := by
      unfold con
      by_cases c : g z = true
      · have := hz z c
        rw [if_pos c, if_pos (by omega)]
      · rw [if_neg c]
    omega
theorem thr_ex {g : Int → Bool} {zf o : Int → Int} (hz : ∀ z, g z = true → 0 ≤ zf z) {w : Int} (hw : 0 < w) {n : Nat} {z : Int} : ∀ k : Nat, w ≤ 2 * smz g zf o k n z → ∃ y, z ≤ y ∧ y < z + n ∧ g y = true ∧ zf y ≤ k ∧ w ≤ 2 * smz g zf o (zf y) n z := by
  intro k
  induction k with
  | zero =>
    intro h
    have e := smz_neg (o := o) hz (s := 0 - 1) (by omega) n z
    obtain ⟨y, h1, h2, h3, h4⟩ := smz_ex (g := g) (zf := zf) (o := o) (s := 0) n z (fun q => by rw [e] at q; simp at h; omega)
    exact ⟨y, h1, h2, h3, by rw [h4]; simp, by rw [h4]; exact h⟩
  | succ k ih =>
    intro h
    by_cases e : smz g zf o ((k : Int) + 1) n z = smz g zf o ((k : Int) + 1 - 1) n z
    · rw [show ((k : Int) + 1 - 1) = k by omega] at e
      rw [show ((k + 1 : Nat) : Int) = (k : Int) + 1 by simp, e] at h
      obtain ⟨y, h1, h2, h3, h4, h5⟩ := ih h
      exact ⟨y, h1, h2, h3, by omega, h5⟩
    · obtain ⟨y, h1, h2, h3, h4⟩ := smz_ex n z e
      exact ⟨y, h1, h2, h3, by rw [h4]; simp, by rw [h4]; rw [show ((k + 1 : Nat) : Int) = (k : Int) + 1 by simp] at h; exact h⟩
def lsz (g : Int → Bool) (zf : Int → Int) (P : Int → Bool) : Nat → Int → Int → Int
  | 0, _, acc => acc
  | n + 1, z, acc => lsz g zf P n (z + 1) (if g z = true then (if acc ≤ zf z then acc else if P (zf z) = true then zf z else acc) else acc)
theorem lsz_le {g : Int → Bool} {zf : Int → Int} {P : Int → Bool} : ∀ (n : Nat) (z acc : Int), lsz g zf P n z acc ≤ acc ∧ (∀ y, z ≤ y → y < z + n → g y = true → P (zf y) = true → lsz g zf P n z acc ≤ zf y) ∧ (lsz g zf P n z acc = acc ∨ ∃ y, g y = true ∧ P (zf y) = true ∧ lsz g zf P n z acc = zf y) := by
  intro n
  induction n with
  | zero => intro z acc; exact ⟨Int.le_refl _, fun y h1 h2 => by omega, Or.inl rfl⟩
  | succ n ih =>
    intro z acc
    obtain ⟨i1, i2, i3⟩ := ih (z + 1) (if g z = true then (if acc ≤ zf z then acc else if P (zf z) = true then zf z else acc) else acc)
    have e : lsz g zf P (n + 1) z acc = lsz g zf P n (z + 1) (if g z = true then (if acc ≤ zf z then acc else if P (zf z) = true then zf z else acc) else acc) := rfl
    rw [e]
    generalize hR : lsz g zf P n (z + 1) (if g z = true then (if acc ≤ zf z then acc else if P (zf z) = true then zf z else acc) else acc) = R at i1 i2 i3
    by_cases c : g z = true
    · rw [if_pos c] at i1 i3
      by_cases c2 : acc ≤ zf z
      · rw [if_pos c2] at i1 i3
        refine ⟨i1, fun y h1 h2 h3 h4 => ?_, i3⟩
        by_cases q : y = z
        · subst q; omega
        · exact i2 y (by omega) (by omega) h3 h4
      · rw [if_neg c2] at i1 i3
        by_cases c3 : P (zf z) = true
        · rw [if_pos c3] at i1 i3
          refine ⟨by omega, fun y h1 h2 h3 h4 => ?_, ?_⟩
          · by_cases q : y = z
            · subst q; exact i1
            · exact i2 y (by omega) (by omega) h3 h4
          · rcases i3 with h | h
            · exact Or.inr ⟨z, c, c3, h⟩
            · exact Or.inr h
        · rw [if_neg c3] at i1 i3
          refine ⟨i1, fun y h1 h2 h3 h4 => ?_, i3⟩
          by_cases q : y = z
          · subst q; exact absurd h4 c3
          · exact i2 y (by omega) (by omega) h3 h4
    · rw [if_neg c] at i1 i3
      refine ⟨i1, fun y h1 h2 h3 h4 => ?_, i3⟩
      by_cases q : y = z
      · subst q; exact absurd h3 c
      · exact i2 y (by omega) (by omega) h3 h4
theorem thr_iff {g : Int → Bool} {zf o : Int → Int} (hz : ∀ z, g z = true → 0 ≤ zf z) (ho : ∀ z, 0 ≤ o z) {w : Int} (hw : 0 < w) {n : Nat} {z s : Int} (hs : 0 ≤ s) (hs2 : s < 1000000) : s < lsz g zf (fun y => !decide (2 * smz g zf o y n z < w)) n z 1000000 ↔ 2 * smz g zf o s n z < w := by
  obtain ⟨l1, l2, l3⟩ := lsz_le (g := g) (zf := zf) (P := fun y => !decide (2 * smz g zf o y n z < w)) n z 1000000
  constructor
  · intro h
    refine Classical.byContradiction fun q => ?_
    obtain ⟨y, h1, h2, h3, h4, h5⟩ := thr_ex (o := o) (n := n) (z := z) hz hw s.toNat (by rw [Int.toNat_of_nonneg hs]; omega)
    have := l2 y h1 h2 h3 (by simp; omega)
    rw [Int.toNat_of_nonneg hs] at h4
    omega
  · intro h
    refine Classical.byContradiction fun q => ?_
    rcases l3 with e | ⟨y, h1, h2, h3⟩
    · omega
    · simp at h2
      have := smz_mono (g := g) (zf := zf) ho (show zf y ≤ s by omega) n z
      omega
