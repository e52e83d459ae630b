-- needs: 48.rg
/-! ===== show: the longest row of forms ===== -/
def okf (g : Nat → Nat → Bool) (s : Nat) (l : Option Nat) (f : Nat) : Bool := !(s.testBit f) && (match l with | none => true | some x => g x f)
def cnt (F s : Nat) : Nat := ((List.range F).filter (fun f => !(s.testBit f))).length
def stp (okv : Nat → Bool) (ch : Nat → List Nat) (cur : List Nat) (f : Nat) : List Nat := if okv f then (if cur.length < (ch f).length + 1 then f :: ch f else cur) else cur
def bst (F : Nat) (g : Nat → Nat → Bool) : Nat → Nat → Option Nat → List Nat
  | 0, _, _ => []
  | n + 1, s, l => (List.range F).foldl (stp (okf g s l) (fun f => bst F g n (s ||| 2 ^ f) (some f))) []
/-- the first of the longest rows from a set of shown forms on -/
def BS (F : Nat) (g : Nat → Nat → Bool) (s : Nat) (l : Option Nat) : List Nat := bst F g (cnt F s) s l
/-- the best over the forms below c -/
def cur (F : Nat) (g : Nat → Nat → Bool) (s : Nat) (l : Option Nat) (c : Nat) : List Nat := (List.range c).foldl (stp (okf g s l) (fun f => BS F g (s ||| 2 ^ f) (some f))) []
theorem cur_succ (F : Nat) (g : Nat → Nat → Bool) (s : Nat) (l : Option Nat) (c : Nat) : cur F g s l (c + 1) = stp (okf g s l) (fun f => BS F g (s ||| 2 ^ f) (some f)) (cur F g s l c) c := by
  unfold cur
  rw [List.range_succ, List.foldl_append]
  rfl
theorem fold_cg {α : Type} {h k : α → Nat → α} : ∀ (L : List Nat) (a : α), (∀ x f, f ∈ L → h x f = k x f) → L.foldl h a = L.foldl k a := by
  intro L
  induction L with
  | nil => intro a _; rfl
  | cons b L ih =>
    intro a hh
    show L.foldl h (h a b) = L.foldl k (k a b)
    rw [hh a b (by simp)]
    exact ih _ (fun x f hf => hh x f (by simp [hf]))
theorem cnt_or : ∀ F, F < 7 → ∀ s, s < 64 → ∀ f, f < F → s.testBit f = false → cnt F (s ||| 2 ^ f) + 1 = cnt F s := by decide +kernel
theorem cnt_0 {F s f : Nat} (h : cnt F s = 0) (hf : f < F) : s.testBit f = true := by
  unfold cnt at h
  have h0 := List.eq_nil_of_length_eq_zero h
  refine Classical.byContradiction fun q => ?_
  have : f ∈ (List.range F).filter (fun f => !(s.testBit f)) := List.mem_filter.mpr ⟨List.mem_range.mpr hf, by simpa using q⟩
  rw [h0] at this
  exact absurd this (by simp)
theorem okf_bit {g : Nat → Nat → Bool} {s f : Nat} {l : Option Nat} (h : okf g s l f = true) : s.testBit f = false := by
  unfold okf at h
  simp at h
  exact h.1
theorem BS_eq {F : Nat} (hF : F < 7) (g : Nat → Nat → Bool) {s : Nat} (hs : s < 64) (l : Option Nat) : BS F g s l = cur F g s l F := by
  unfold BS cur
  match hc : cnt F s with
  | 0 =>
    show [] = _
    have : ∀ (L : List Nat) (a : List Nat), (∀ f ∈ L, f < F) → L.foldl (stp (okf g s l) (fun f => BS F g (s ||| 2 ^ f) (some f))) a = a := by
      intro L
      induction L with
      | nil => intro a _; rfl
      | cons b L ih =>
        intro a hh
        show L.foldl _ (stp _ _ a b) = a
        have hb : ¬ okf g s l b = true := fun q => by
          have h1 := okf_bit q
          rw [cnt_0 hc (hh b (by simp))] at h1
          exact absurd h1 (by decide)
        have e : stp (okf g s l) (fun f => BS F g (s ||| 2 ^ f) (some f)) a b = a := by
          unfold stp
          rw [if_neg hb]
        rw [e]
        exact ih a (fun f hf => hh f (by simp [hf]))
    exact (this (List.range F) [] (fun f hf => List.mem_range.mp hf)).symm
  | n + 1 =>
    show (List.range F).foldl (stp (okf g s l) (fun f => bst F g n (s ||| 2 ^ f) (some f))) [] = _
    refine fold_cg _ _ (fun x f hf => ?_)
    unfold stp
    by_cases q : okf g s l f = true
    · rw [if_pos q, if_pos q]
      have h1 := cnt_or F hF s hs f (List.mem_range.mp hf) (okf_bit q)
      have h2 : cnt F (s ||| 2 ^ f) = n := by omega
      have h3 : BS F g (s ||| 2 ^ f) (some f) = bst F g n (s ||| 2 ^ f) (some f) := by
        unfold BS
        rw [h2]
      show (if x.length < (bst F g n (s ||| 2 ^ f) (some f)).length + 1 then f :: bst F g n (s ||| 2 ^ f) (some f) else x) = (if x.length < (BS F g (s ||| 2 ^ f) (some f)).length + 1 then f :: BS F g (s ||| 2 ^ f) (some f) else x)
      rw [h3]
    · rw [if_neg q, if_neg q]
/-- the model's accumulator -/
def JJ (acc P cur : List Nat) : List Nat := if acc.length < P.length + cur.length then P ++ cur else acc
theorem JJ_nil (acc P : List Nat) (f : Nat) : JJ acc (P ++ [f]) [] = if acc.length < P.length + 1 then P ++ [f] else acc := by
  unfold JJ
  simp
theorem JJ_step (acc P c b : List Nat) (f : Nat) : JJ (JJ acc P c) (P ++ [f]) b = JJ acc P (if c.length < b.length + 1 then f :: b else c) := by
  unfold JJ
  by_cases h1 : acc.length < P.length + c.length
  · rw [if_pos h1]
    by_cases h2 : c.length < b.length + 1
    · rw [if_pos h2, if_pos (by simp; omega), if_pos (by simp; omega)]
      simp
    · rw [if_neg h2, if_neg (by simp; omega), if_pos h1]
  · rw [if_neg h1]
    by_cases h2 : c.length < b.length + 1
    · rw [if_pos h2]
      by_cases h3 : acc.length < (P ++ [f]).length + b.length
      · rw [if_pos h3, if_pos (by simp at h3 ⊢; omega)]
        simp
      · rw [if_neg h3, if_neg (by simp at h3 ⊢; omega)]
    · rw [if_neg h2, if_neg (by simp; omega), if_neg h1]
/-! the bits -/
theorem b_and : ∀ s, s < 64 → ∀ f, f < 6 → ((nI s &&& ((1 : Int32) <<< (nI f &&& 31))) = 0 ↔ s.testBit f = false) := by decide +kernel
theorem b_or : ∀ s, s < 64 → ∀ f, f < 6 → nI s ||| ((1 : Int32) <<< (nI f &&& 31)) = nI (s ||| 2 ^ f) := by decide +kernel
theorem b_shr : ∀ s, s < 64 → ∀ f, f < 6 → (((nI s >>> (nI f &&& 31)) &&& (1 : Int32)) = 1 ↔ s.testBit f = true) := by decide +kernel
theorem b_clr : ∀ s, s < 64 → ∀ f, f < 6 → s.testBit f = false → nI (s ||| 2 ^ f) &&& (((1 : Int32) <<< (nI f &&& 31)) ^^^ (-1 : Int32)) = nI s := by decide +kernel
theorem b_m1 : ∀ s, s < 64 → nI s &&& (-1 : Int32) = nI s := by decide +kernel
theorem b_lt : ∀ s, s < 64 → ∀ f, f < 6 → s ||| 2 ^ f < 64 := by decide +kernel
theorem b_gt : ∀ s, s < 64 → ∀ f, f < 6 → s.testBit f = false → s < s ||| 2 ^ f := by decide +kernel
theorem b_F : ∀ F, F < 7 → ∀ s, s < 2 ^ F → ∀ f, f < F → s ||| 2 ^ f < 2 ^ F := by decide +kernel
theorem b_1 : ∀ F, F < 7 → ((1 : Int32) <<< (nI F &&& 31)) - 1 = nI (2 ^ F) + (-1 : Int32) := by decide +kernel
/-! which forms go together -/
def gW (W : Nat → Int32) (a b : Nat) : Bool := !decide ((2 : Int32) < W (44 + 4 * a) - W (44 + 4 * b + 1)) && !decide ((2 : Int32) < W (44 + 4 * b) - W (44 + 4 * a + 1)) && (!decide ((20 : Int32) < W (44 + 4 * a + 2) - W (44 + 4 * b + 3)) && !decide ((20 : Int32) < W (44 + 4 * b + 2) - W (44 + 4 * a + 3)))
theorem form_at (T : HSt) {a k : Nat} (ha : a < 6) (hk : k < 4) : f_X12_formOf T 64 (nI a) (nI k) = gI T 68 (44 + 4 * a + k) ∧ p_X12_formOf T 64 (nI a) (nI k) := by
  have hx : ((44 : Int32) + (4 : Int32) * nI a) + nI k = nI (44 + 4 * a + k) := by
    rw [show (44 : Int32) = nI 44 from rfl, show (4 : Int32) = nI 4 from rfl, pk_mul, nI_add, nI_add]
  constructor
  · show gI T 68 (((44 : Int32) + (4 : Int32) * nI a) + nI k).toNatClampNeg = _
    rw [hx, nI_clamp' (by omega)]
  · show vp_in (((44 : Int32) + (4 : Int32) * nI a) + nI k) 172
    rw [hx]
    exact vp_in_nI (by omega) (by omega)
theorem near_m (T : HSt) (a b c d e : Int32) : f_X12_areNear T a b c d e = if (!decide (e < a - d) && !decide (e < c - b)) = true then 1 else 0 := by
  show (if e < a - d then (0 : Int32) else if e < c - b then 0 else 1) = _
  by_cases h1 : e < a - d
  · simp [h1]
  · by_cases h2 : e < c - b
    · simp [h1, h2]
    · simp [h1, h2]
theorem goes_m (T : HSt) {a b : Nat} (ha : a < 6) (hb : b < 6) : f_X12_goes T 64 (nI a) (nI b) = (if gW (gI T 68) a b = true then 1 else 0) ∧ p_X12_goes T 64 (nI a) (nI b) := by
  have A := fun k (hk : k < 4) => form_at T ha hk
  have B := fun k (hk : k < 4) => form_at T hb hk
  have A0 := A 0 (by decide)
  have A1 := A 1 (by decide)
  have A2 := A 2 (by decide)
  have A3 := A 3 (by decide)
  have B0 := B 0 (by decide)
  have B1 := B 1 (by decide)
  have B2 := B 2 (by decide)
  have B3 := B 3 (by decide)
  refine ⟨?_, A0.2, A1.2, B0.2, B1.2, fun _ => A2.2, fun _ => A3.2, fun _ => B2.2, fun _ => B3.2⟩
  show (F_X12_goes T 64 (nI a) (nI b)).1 = _
  unfold F_X12_goes
  rw [bd_def, pr_1]
  rw [show (0 : Int32) = nI 0 from rfl, show (1 : Int32) = nI 1 from rfl, show (2 : Int32) = nI 2 from rfl, show (3 : Int32) = nI 3 from rfl]
  rw [A0.1, A1.1, A2.1, A3.1, B0.1, B1.1, B2.1, B3.1, near_m, near_m]
  unfold gW
  rw [show nI 0 = (0 : Int32) from rfl, show nI 1 = (1 : Int32) from rfl, show nI 2 = (2 : Int32) from rfl, show 44 + 4 * a + 0 = 44 + 4 * a from rfl, show 44 + 4 * b + 0 = 44 + 4 * b from rfl]
  generalize (!decide ((2 : Int32) < gI T 68 (44 + 4 * a) - gI T 68 (44 + 4 * b + 1)) && !decide ((2 : Int32) < gI T 68 (44 + 4 * b) - gI T 68 (44 + 4 * a + 1))) = x
  generalize (!decide ((20 : Int32) < gI T 68 (44 + 4 * a + 2) - gI T 68 (44 + 4 * b + 3)) && !decide ((20 : Int32) < gI T 68 (44 + 4 * b + 2) - gI T 68 (44 + 4 * a + 3))) = y
  cases x <;> cases y <;> rfl
theorem near_c (S : HSt) {a b k : Nat} (ha : a < 6) (hb : b < 6) (hk : k < 3) (e : Int32) {W : Nat → Int32} (hW : ∀ i f, i < 6 → f < 4 → gI S 21 ((10 + i) * 5 + f) = W (44 + 4 * i + f)) : f_X8_areNear S 19 (nI a) (nI b) (nI k) e = (if (!decide (e < W (44 + 4 * a + k) - W (44 + 4 * b + (k + 1))) && !decide (e < W (44 + 4 * b + k) - W (44 + 4 * a + (k + 1)))) = true then 1 else 0) := by
  have V : ∀ i f, i < 6 → f < 4 → f_X10_value S 19 3 (nI i) (nI f) = W (44 + 4 * i + f) := fun i f hi hf => (val_at S 19 (s := 3) (i := i) (f := f) (by decide) hi (by omega)).trans (hW i f hi hf)
  show (F_X8_areNear S 19 (nI a) (nI b) (nI k) e).1 = _
  unfold F_X8_areNear
  simp only [bd_def]
  rw [pr_1, show nI k + (1 : Int32) = nI (k + 1) from (nI_succ k).symm, V a k ha (by omega), V a (k + 1) ha (by omega), V b k hb (by omega), V b (k + 1) hb (by omega)]
  by_cases h1 : e < W (44 + 4 * b + k) - W (44 + 4 * a + (k + 1))
  · by_cases h2 : e < W (44 + 4 * a + k) - W (44 + 4 * b + (k + 1))
    · simp [h1, h2]
    · simp [h1, h2]
  · by_cases h2 : e < W (44 + 4 * a + k) - W (44 + 4 * b + (k + 1))
    · simp [h1, h2]
    · simp [h1, h2]
theorem goes_c (S : HSt) {a b : Nat} (ha : a < 6) (hb : b < 6) {W : Nat → Int32} (hW : ∀ i f, i < 6 → f < 4 → gI S 21 ((10 + i) * 5 + f) = W (44 + 4 * i + f)) : f_X8_goes S 19 (nI a) (nI b) = (if gW W a b = true then 1 else 0) ∧ p_X8_goes S 19 (nI a) (nI b) := by
  have pn : ∀ x y : Int32, p_X8_areNear S 19 (nI a) (nI b) x y := fun x y => ⟨p_val _ _ _ _ _, fun _ _ => p_val _ _ _ _ _, fun _ _ _ _ => p_val _ _ _ _ _, fun _ _ _ _ _ _ => p_val _ _ _ _ _⟩
  refine ⟨?_, pn _ _, fun _ => pn _ _⟩
  show (F_X8_goes S 19 (nI a) (nI b)).1 = _
  unfold F_X8_goes
  rw [bd_def, pr_1]
  have n0 := near_c S ha hb (k := 0) (by decide) 2 hW
  have n2 := near_c S ha hb (k := 2) (by decide) 20 hW
  rw [show nI 0 = (0 : Int32) from rfl] at n0
  rw [show nI 2 = (2 : Int32) from rfl] at n2
  rw [n0, n2]
  unfold gW
  rw [show 44 + 4 * a + 0 = 44 + 4 * a from rfl, show 44 + 4 * b + 0 = 44 + 4 * b from rfl, show 44 + 4 * a + (0 + 1) = 44 + 4 * a + 1 from rfl, show 44 + 4 * b + (0 + 1) = 44 + 4 * b + 1 from rfl, show 44 + 4 * a + (2 + 1) = 44 + 4 * a + 3 from rfl, show 44 + 4 * b + (2 + 1) = 44 + 4 * b + 3 from rfl]
  generalize (!decide ((2 : Int32) < W (44 + 4 * a) - W (44 + 4 * b + 1)) && !decide ((2 : Int32) < W (44 + 4 * b) - W (44 + 4 * a + 1))) = x
  generalize (!decide ((20 : Int32) < W (44 + 4 * a + 2) - W (44 + 4 * b + 3)) && !decide ((20 : Int32) < W (44 + 4 * b + 2) - W (44 + 4 * a + 3))) = y
  cases x <;> cases y <;> rfl
