-- needs: 93.fewR
/-! ===== moves: the first greatest row, purely ===== -/
abbrev WRo := Option (Int × List Nat)
/-- the later one only where it is greater -/
def offO (b c : WRo) : WRo := match b, c with
  | none, c => c
  | some x, none => some x
  | some x, some y => if x.1 < y.1 then some y else some x
theorem offO_nr (b : WRo) : offO b none = b := by cases b <;> rfl
theorem offO_nl (b : WRo) : offO none b = b := rfl
theorem offO_assoc (a b c : WRo) : offO (offO a b) c = offO a (offO b c) := by
  cases a with
  | none => rfl
  | some x =>
    cases b with
    | none => rw [offO_nr]; rfl
    | some y =>
      cases c with
      | none => rw [offO_nr, offO_nr]
      | some z =>
        show offO (if x.1 < y.1 then some y else some x) (some z) = offO (some x) (if y.1 < z.1 then some z else some y)
        by_cases h1 : x.1 < y.1
        · rw [if_pos h1]
          by_cases h2 : y.1 < z.1
          · rw [if_pos h2]
            show (if y.1 < z.1 then some z else some y) = (if x.1 < z.1 then some z else some x)
            rw [if_pos h2, if_pos (by omega)]
          · rw [if_neg h2]
            show (if y.1 < z.1 then some z else some y) = (if x.1 < y.1 then some y else some x)
            rw [if_neg h2, if_pos h1]
        · rw [if_neg h1]
          by_cases h2 : y.1 < z.1
          · rw [if_pos h2]
          · rw [if_neg h2]
            show (if x.1 < z.1 then some z else some x) = (if x.1 < y.1 then some y else some x)
            rw [if_neg (by omega), if_neg h1]
/-- one that is not greater changes nothing -/
theorem offO_abs {b : WRo} {w w' : Int} {r r' : List Nat} (hb : b = some (w', r')) (h : w ≤ w') : offO b (some (w, r)) = b := by
  rw [hb]
  show (if w' < w then some (w, r) else some (w', r')) = _
  rw [if_neg (by omega)]
/-- moves before, worth before -/
def shf (w : Int) (pre : List Nat) (b : WRo) : WRo := b.map (fun x => (w + x.1, pre ++ x.2))
theorem shf_off (w : Int) (pre : List Nat) (b c : WRo) : shf w pre (offO b c) = offO (shf w pre b) (shf w pre c) := by
  cases b with
  | none => rfl
  | some x =>
    cases c with
    | none => rfl
    | some y =>
      show shf w pre (if x.1 < y.1 then some y else some x) = (if w + x.1 < w + y.1 then some (w + y.1, pre ++ y.2) else some (w + x.1, pre ++ x.2))
      by_cases h : x.1 < y.1
      · rw [if_pos h, if_pos (by omega)]; rfl
      · rw [if_neg h, if_neg (by omega)]; rfl
/-- all of c items from m on -/
def scn (f : Nat → WRo) : Nat → Nat → WRo
  | 0, _ => none
  | c + 1, m => offO (f m) (scn f c (m + 1))
theorem scn_cg {f g : Nat → WRo} : ∀ (c m : Nat), (∀ i, m ≤ i → i < m + c → f i = g i) → scn f c m = scn g c m := by
  intro c
  induction c with
  | zero => intro m _; rfl
  | succ c ih =>
    intro m h
    show offO (f m) (scn f c (m + 1)) = offO (g m) (scn g c (m + 1))
    rw [h m (Nat.le_refl _) (by omega), ih (m + 1) (fun i h1 h2 => h i (by omega) (by omega))]
theorem scn_none {f : Nat → WRo} : ∀ (c m : Nat), (∀ i, m ≤ i → i < m + c → f i = none) → scn f c m = none := by
  intro c
  induction c with
  | zero => intro m _; rfl
  | succ c ih =>
    intro m h
    show offO (f m) (scn f c (m + 1)) = none
    rw [h m (Nat.le_refl _) (by omega), ih (m + 1) (fun i h1 h2 => h i (by omega) (by omega))]
    rfl
theorem scn_add (f : Nat → WRo) : ∀ (c d m : Nat), scn f (c + d) m = offO (scn f c m) (scn f d (m + c)) := by
  intro c
  induction c with
  | zero => intro d m; rw [Nat.zero_add]; rfl
  | succ c ih =>
    intro d m
    rw [show c + 1 + d = (c + d) + 1 by omega]
    show offO (f m) (scn f (c + d) (m + 1)) = offO (offO (f m) (scn f c (m + 1))) _
    rw [ih d (m + 1), offO_assoc, show m + 1 + c = m + (c + 1) by omega]
/-- the best row of k moves: the first of the greatest -/
def bsm {σ : Type} (all : Nat) (may : σ → Nat → Bool) (step : σ → Nat → σ) (gain : σ → Nat → Int) : Nat → σ → Int × List Nat
  | 0, _ => (0, [])
  | k + 1, s => (scn (fun m => if may s m then some (gain s m + (bsm all may step gain k (step s m)).1, m :: (bsm all may step gain k (step s m)).2) else none) all 0).getD (0, [])
