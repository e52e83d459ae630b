-- needs: 61.showc
/-! the model's search -/
theorem FU_s : ∃ n, FU = n + 1 ∧ 9999999 = n := ⟨9999999, FU_eq, rfl⟩
/-- the first form from c on that is free and goes -/
theorem find_L {F s d : Nat} (hF : F < 7) (hs : s < 64) {l : Option Nat} (v2 : Int32) {T : HSt} (hd : d ≤ 6) (hl : (l = none ∧ d = 0) ∨ (∃ x, x < 6 ∧ l = some x ∧ 0 < d ∧ gI T 79 (d - 1) = nI x)) : ∀ (n c : Nat), c ≤ F → F - c < n → T_X12_seekShows_56 n T (nI F) v2 (nI d) (nI s) (nI c) ∧ ∃ f, c ≤ f ∧ f ≤ F ∧ L_X12_seekShows_56 n T (nI F) v2 (nI d) (nI s) (nI c) = (nI F, v2, nI d, nI s, nI f) ∧ (∀ k, c ≤ k → k < f → ¬ okf (gW (gI T 68)) s l k = true) ∧ (f < F → okf (gW (gI T 68)) s l f = true) := by
  intro n
  induction n with
  | zero => intro c _ h; omega
  | succ n ih =>
    intro c hc hn
    unfold T_X12_seekShows_56 L_X12_seekShows_56
    by_cases z : nI F ≤ nI c
    · have : c = F := by
        rw [ti_le, nI_ti (by omega), nI_ti (by omega)] at z
        omega
      subst this
      rw [if_pos z]
      exact ⟨⟨fun q => absurd z q, fun q => absurd z q, fun q => absurd z q, fun q => absurd z q⟩, c, Nat.le_refl _, Nat.le_refl _, rfl, fun k h1 h2 => by omega, fun h => by omega⟩
    · rw [if_neg z]
      have hcF : c < F := by
        rw [ti_le, nI_ti (by omega), nI_ti (by omega)] at z
        omega
      obtain ⟨i1, f, i2, i3, i4, i5, i6⟩ := ih (c + 1) (by omega) (by omega)
      rw [nI_succ] at i1 i4
      have hb := b_shr s hs c (by omega)
      have skip : ¬ okf (gW (gI T 68)) s l c = true → ∃ f, c ≤ f ∧ f ≤ F ∧ L_X12_seekShows_56 n T (nI F) v2 (nI d) (nI s) (nI c + 1) = (nI F, v2, nI d, nI s, nI f) ∧ (∀ k, c ≤ k → k < f → ¬ okf (gW (gI T 68)) s l k = true) ∧ (f < F → okf (gW (gI T 68)) s l f = true) := fun q => ⟨f, by omega, i3, i4, fun k h1 h2 => by
        by_cases e : k = c
        · subst e; exact q
        · exact i5 k (by omega) h2, i6⟩
      by_cases tb : s.testBit c = true
      · have zb := hb.mpr tb
        rw [if_pos zb]
        exact ⟨⟨fun _ _ => i1, fun _ q => absurd zb q, fun _ q => absurd zb q, fun _ q => absurd zb q⟩, skip (fun q => by rw [okf_bit q] at tb; exact absurd tb (by decide))⟩
      · have zb : ¬ ((nI s >>> (nI c &&& 31)) &&& (1 : Int32)) = 1 := fun q => tb (hb.mp q)
        have tb' : s.testBit c = false := by simpa using tb
        rw [if_neg zb]
        rcases hl with ⟨rfl, rfl⟩ | ⟨x, hx, rfl, hd0, hg⟩
        · have z0 : nI 0 ≤ (0 : Int32) := by decide
          rw [if_pos z0]
          refine ⟨⟨fun _ q => absurd q zb, fun _ _ q => absurd z0 q, fun _ _ q => absurd z0 q, fun _ _ q => absurd z0 q⟩, c, Nat.le_refl _, by omega, rfl, fun k h1 h2 => by omega, fun _ => ?_⟩
          unfold okf
          simp [tb']
        · have z0 : ¬ nI d ≤ (0 : Int32) := by rw [ti_le, ti0, nI_ti (by omega)]; omega
          have ed : nI d - (1 : Int32) = nI (d - 1) := by
            rw [ti_eq, ti_sub (by rw [nI_ti (by omega), ti1]; omega) (by rw [nI_ti (by omega), ti1]; omega), nI_ti (by omega), nI_ti (by omega), ti1]
            omega
          rw [if_neg z0, ed, nI_clamp' (by omega), hg]
          obtain ⟨g1, g2⟩ := goes_m T hx (b := c) (by omega)
          rw [g1]
          by_cases y : gW (gI T 68) x c = true
          · rw [if_pos y, if_neg one0]
            refine ⟨⟨fun _ q => absurd q zb, fun _ _ _ => vp_in_nI (by omega) (by omega), fun _ _ _ => g2, fun _ _ _ q => absurd q one0⟩, c, Nat.le_refl _, by omega, rfl, fun k h1 h2 => by omega, fun _ => ?_⟩
            unfold okf
            simp [tb', y]
          · rw [if_neg y, if_pos rfl]
            refine ⟨⟨fun _ q => absurd q zb, fun _ _ _ => vp_in_nI (by omega) (by omega), fun _ _ _ => g2, fun _ _ _ _ => i1⟩, skip (fun q => ?_)⟩
            unfold okf at q
            simp [tb', y] at q
/-- the best row is copied -/
theorem keep_B {d : Nat} (hd : d ≤ 6) (v1 v2 v4 v5 : Int32) : ∀ (n k : Nat) (T : HSt), k ≤ d → d - k < n → T_X12_seekShows_143 n T v1 v2 (nI d) v4 v5 (nI k) ∧ ((L_X12_seekShows_143 n T v1 v2 (nI d) v4 v5 (nI k)).1 = v1 ∧ (L_X12_seekShows_143 n T v1 v2 (nI d) v4 v5 (nI k)).2.1 = v2 ∧ (L_X12_seekShows_143 n T v1 v2 (nI d) v4 v5 (nI k)).2.2.1 = nI d ∧ (L_X12_seekShows_143 n T v1 v2 (nI d) v4 v5 (nI k)).2.2.2.1 = v4 ∧ (L_X12_seekShows_143 n T v1 v2 (nI d) v4 v5 (nI k)).2.2.2.2.1 = v5) ∧ (∀ j, gI (L_X12_seekShows_143 n T v1 v2 (nI d) v4 v5 (nI k)).2.2.2.2.2.2 80 j = if k ≤ j ∧ j < d then gI T 79 j else gI T 80 j) ∧ (∀ x, x ≠ 80 → gI (L_X12_seekShows_143 n T v1 v2 (nI d) v4 v5 (nI k)).2.2.2.2.2.2 x = gI T x) := by
  intro n
  induction n with
  | zero => intro k T _ h; omega
  | succ n ih =>
    intro k T hk hn
    unfold T_X12_seekShows_143 L_X12_seekShows_143
    by_cases c : nI d ≤ nI k
    · have : k = d := by
        rw [ti_le, nI_ti (by omega), nI_ti (by omega)] at c
        omega
      subst this
      rw [if_pos c]
      refine ⟨⟨fun q => absurd c q, fun q => absurd c q, fun q => absurd c q⟩, ⟨rfl, rfl, rfl, rfl, rfl⟩, fun j => ?_, fun x _ => rfl⟩
      rw [if_neg (by omega)]
      rfl
    · rw [if_neg c]
      have hkd : k < d := by
        rw [ti_le, nI_ti (by omega), nI_ti (by omega)] at c
        omega
      rw [bd_def, nI_clamp' (by omega)]
      obtain ⟨i1, i2, i3, i4⟩ := ih (k + 1) (sI T 80 k (gI T 79 k)) (by omega) (by omega)
      rw [nI_succ] at i1 i2 i3 i4
      refine ⟨⟨fun _ => vp_in_nI (by omega) (by omega), fun _ => vp_in_nI (by omega) (by omega), fun _ T2 e => by rw [← e]; exact i1⟩, i2, fun j => ?_, fun x hx => (i4 x hx).trans (gs_ne hx)⟩
      rw [i3 j, gs_ne (show (79 : Nat) ≠ 80 by decide), gs_eq]
      by_cases e : j = k
      · subst e
        rw [if_neg (by omega), if_pos rfl, if_pos (by omega)]
      · rw [if_neg e]
        by_cases e2 : k + 1 ≤ j ∧ j < d
        · rw [if_pos e2, if_pos (by omega)]
        · rw [if_neg e2, if_neg (by omega)]
theorem it_none {F s d : Nat} (hF : F < 7) (hd : d ≤ 6) {T : HSt} {v2 v4 x : Int32} (hx : gI T 79 d = x) (hu : (v4 &&& (if 0 ≤ x then (((1 : Int32) <<< (x &&& 31)) ^^^ (-1 : Int32)) else (-1 : Int32))) = nI s) (hT : T_X12_seekShows_56 FU T (nI F) v2 (nI d) (nI s) (x + 1)) (hf : L_X12_seekShows_56 FU T (nI F) v2 (nI d) (nI s) (x + 1) = (nI F, v2, nI d, nI s, nI F)) (n : Nat) : (T_X12_seekShows_21 n T (nI F) v2 (nI d + (-1 : Int32)) (nI s) → T_X12_seekShows_21 (n + 1) T (nI F) v2 (nI d) v4) ∧ L_X12_seekShows_21 (n + 1) T (nI F) v2 (nI d) v4 = L_X12_seekShows_21 n T (nI F) v2 (nI d + (-1 : Int32)) (nI s) := by
  have z0 : ¬ nI d < 0 := nI_pos (by omega)
  have zF : nI F ≤ nI F := by rw [ti_le]; exact Int.le_refl _
  constructor
  · intro h
    unfold T_X12_seekShows_21
    simp only [bd_def]
    rw [nI_clamp' (by omega), hx]
    refine ⟨fun _ => vp_in_nI (by omega) (by omega), fun _ x4 e4 x6 e6 x7 e7 => ?_, fun _ x4 e4 x6 e6 x7 e7 r er q => ?_, fun _ x4 e4 x6 e6 x7 e7 r er q => ?_, fun _ x4 e4 x6 e6 x7 e7 r er q => ?_, fun _ x4 e4 x6 e6 x7 e7 r er x16 e16 x17 e17 x18 e18 x19 e19 x20 e20 S21 e21 => ?_⟩
    · rw [← e7, ← e6, ← e4, hu]; exact hT
    · rw [← e7, ← e6, ← e4, hu, hf] at er; rw [← er] at q; exact absurd zF q
    · rw [← e7, ← e6, ← e4, hu, hf] at er; rw [← er] at q; exact absurd zF q
    · rw [← e7, ← e6, ← e4, hu, hf] at er; rw [← er] at q; exact absurd zF q
    · rw [← e7, ← e6, ← e4, hu, hf] at er
      rw [← er] at e16 e17 e18 e19 e21
      dsimp only at e16 e17 e18 e19 e21
      rw [if_pos zF] at e16 e17 e18 e19 e21
      rw [← e16, ← e17, ← e18, ← e19, ← e21]; exact h
  · conv => lhs; unfold L_X12_seekShows_21
    simp only [bd_def]
    rw [if_neg z0, nI_clamp' (by omega), hx, hu, hf]
    dsimp only
    rw [if_pos zF, if_pos zF, if_pos zF, if_pos zF, if_pos zF]
/-- where the model goes on behind a form -/
noncomputable def nxT (T : HSt) (F d s f : Nat) (v2 : Int32) : HSt := if nI (d + 1) ≤ v2 then sI (sI T 79 d (nI f)) 79 (d + 1) (-1) else (L_X12_seekShows_143 FU (sI (sI T 79 d (nI f)) 79 (d + 1) (-1)) (nI F) (nI (d + 1)) (nI (d + 1)) (nI (s ||| 2 ^ f)) (nI f) 0).2.2.2.2.2.2
theorem it_some {F s d f : Nat} (hF : F < 7) (hs : s < 64) (hd : d ≤ 5) (hfF : f < F) {T : HSt} {v2 v4 x : Int32} (hx : gI T 79 d = x) (hu : (v4 &&& (if 0 ≤ x then (((1 : Int32) <<< (x &&& 31)) ^^^ (-1 : Int32)) else (-1 : Int32))) = nI s) (hT : T_X12_seekShows_56 FU T (nI F) v2 (nI d) (nI s) (x + 1)) (hf : L_X12_seekShows_56 FU T (nI F) v2 (nI d) (nI s) (x + 1) = (nI F, v2, nI d, nI s, nI f)) (n : Nat) : (T_X12_seekShows_21 n (nxT T F d s f v2) (nI F) (if nI (d + 1) ≤ v2 then v2 else nI (d + 1)) (nI (d + 1)) (nI (s ||| 2 ^ f)) → T_X12_seekShows_21 (n + 1) T (nI F) v2 (nI d) v4) ∧ L_X12_seekShows_21 (n + 1) T (nI F) v2 (nI d) v4 = L_X12_seekShows_21 n (nxT T F d s f v2) (nI F) (if nI (d + 1) ≤ v2 then v2 else nI (d + 1)) (nI (d + 1)) (nI (s ||| 2 ^ f)) := by
  have z0 : ¬ nI d < 0 := nI_pos (by omega)
  have zF : ¬ nI F ≤ nI f := by rw [ti_le, nI_ti (by omega), nI_ti (by omega)]; omega
  have ed : nI d + (1 : Int32) = nI (d + 1) := (nI_succ d).symm
  have eo := b_or s hs f (by omega)
  obtain ⟨k1, ⟨k2, k3, k4, k5, k6⟩, -, -⟩ := keep_B (d := d + 1) (by omega) (nI F) (nI (d + 1)) (nI (s ||| 2 ^ f)) (nI f) FU 0 (sI (sI T 79 d (nI f)) 79 (d + 1) (-1)) (by omega) (by rw [FU_eq]; omega)
  rw [show nI 0 = (0 : Int32) from rfl] at k1 k2 k3 k4 k5 k6
  constructor
  · intro h
    unfold T_X12_seekShows_21
    simp only [bd_def]
    rw [nI_clamp' (by omega), hx]
    refine ⟨fun _ => vp_in_nI (by omega) (by omega), fun _ x4 e4 x6 e6 x7 e7 => ?_, fun _ x4 e4 x6 e6 x7 e7 r er q => ?_, fun _ x4 e4 x6 e6 x7 e7 r er q S10 e10 x11 e11 => ?_, fun _ x4 e4 x6 e6 x7 e7 r er q S10 e10 x11 e11 S12 e12 q2 x14 e14 => ?_, fun _ x4 e4 x6 e6 x7 e7 r er x16 e16 x17 e17 x18 e18 x19 e19 x20 e20 S21 e21 => ?_⟩
    · rw [← e7, ← e6, ← e4, hu]; exact hT
    · rw [← e7, ← e6, ← e4, hu, hf] at er; rw [← er]; exact vp_in_nI (by omega) (by omega)
    · rw [← e7, ← e6, ← e4, hu, hf] at er; rw [← er]; dsimp only; rw [ed]; exact vp_in_nI (by omega) (by omega)
    · rw [← e7, ← e6, ← e4, hu, hf] at er
      rw [← er] at e10 e11 e12 e14 ⊢
      dsimp only at e10 e11 e12 e14 ⊢
      rw [nI_clamp' (by omega)] at e10
      rw [eo] at e11
      rw [← e10, ed, nI_clamp' (by omega)] at e12
      rw [ed] at e14
      rw [← e14, ← e12, ← e11]
      exact k1
    · rw [← e7, ← e6, ← e4, hu, hf] at er
      rw [← er] at e16 e17 e18 e19 e21
      dsimp only at e16 e17 e18 e19 e21
      rw [if_neg zF, ed, nI_clamp' (by omega), nI_clamp' (by omega), eo] at e16 e17 e18 e19 e21
      rw [k4, ite_self] at e16
      rw [k2, ite_self] at e17
      rw [k3] at e18
      rw [k5, ite_self] at e19
      rw [← e16, ← e17, ← e18, ← e19, ← e21]
      exact h
  · conv => lhs; unfold L_X12_seekShows_21
    simp only [bd_def]
    rw [if_neg z0, nI_clamp' (by omega), hx, hu, hf]
    dsimp only
    rw [if_neg zF, if_neg zF, if_neg zF, if_neg zF, if_neg zF, ed, nI_clamp' (by omega), nI_clamp' (by omega), eo, k2, k3, k4, k5, ite_self, ite_self, ite_self]
    rfl
/-- how long a search below m free forms may take -/
def Bd : Nat → Nat
  | 0 => 1
  | m + 1 => 6 * (1 + Bd m) + 1
theorem Bd_mono : ∀ m, Bd m ≤ Bd (m + 1) := by
  intro m
  show Bd m ≤ 6 * (1 + Bd m) + 1
  omega
/-- the model's state within a row P, at the form c -/
def MSt (F s c : Nat) (P acc : List Nat) (T : HSt) (v2 v4 : Int32) : Prop := P.length ≤ 6 ∧ (∀ k, k < P.length → gI T 79 k = nI (P.getD k 0)) ∧ gI T 79 P.length = nI c + (-1 : Int32) ∧ ((c = 0 ∧ v4 = nI s) ∨ (0 < c ∧ c ≤ F ∧ s.testBit (c - 1) = false ∧ v4 = nI (s ||| 2 ^ (c - 1)))) ∧ v2 = nI acc.length ∧ acc.length ≤ 6 ∧ (∀ k, k < acc.length → gI T 80 k = nI (acc.getD k 0))
def lastO (P : List Nat) : Option Nat := P.getLast?
theorem cur_skip {F : Nat} (g : Nat → Nat → Bool) (s : Nat) (l : Option Nat) : ∀ (j c : Nat), (∀ k, c ≤ k → k < c + j → ¬ okf g s l k = true) → cur F g s l (c + j) = cur F g s l c := by
  intro j
  induction j with
  | zero => intro c _; rfl
  | succ j ih =>
    intro c h
    have e : cur F g s l (c + j + 1) = cur F g s l (c + j) := by
      rw [cur_succ]
      unfold stp
      rw [if_neg (h (c + j) (by omega) (by omega))]
    rw [show c + (j + 1) = c + j + 1 from rfl, e]
    exact ih c (fun k h1 h2 => h k h1 (by omega))
