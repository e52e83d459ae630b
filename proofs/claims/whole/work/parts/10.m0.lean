/-- the model: its cells -/
def mKT : List (Nat × Nat × Nat) := [(64, 12, 0), (65, 14, 8), (66, 14, 8), (67, 14, 320), (68, 14, 172), (69, 14, 172), (70, 14, 600), (71, 14, 7), (72, 14, 42), (73, 14, 6), (74, 14, 6), (75, 14, 6), (76, 14, 5), (77, 16, 582096), (78, 16, 582096), (79, 14, 7), (80, 14, 6), (81, 14, 101), (82, 16, 2), (83, 14, 344), (84, 14, 14), (85, 14, 2), (86, 14, 2), (87, 14, 16)]
def mPT : List (Nat × Nat) := [(2, 65), (3, 66), (4, 67), (5, 68), (6, 69), (8, 70), (27, 71), (33, 72), (34, 73), (35, 74), (36, 75), (37, 76), (40, 77), (41, 78), (42, 79), (43, 80), (44, 81), (45, 82), (46, 83), (47, 84), (48, 85), (49, 86), (50, 87)]
def MS (S : HSt) : Prop := 88 ≤ gn S ∧ (∀ q ∈ mKT, gK S q.1 = q.2.1 ∧ gL S q.1 = q.2.2) ∧ (∀ q ∈ mPT, gP S 64 q.1 = some q.2)
/-- many: a number that nothing counts down by itself -/
theorem FU_ex : ∃ n : Nat, n = 10000000 := ⟨10000000, rfl⟩
noncomputable def FU : Nat := Classical.choose FU_ex
theorem FU_eq : FU = 10000000 := Classical.choose_spec FU_ex
def bd {α β : Type} (v : α) (f : α → β) : β := f v
theorem bd_def {α β : Type} (v : α) (f : α → β) : bd v f = f v := id rfl
theorem bd_eq {α β : Type} {v w : α} {f : α → β} (h : v = w) : bd v f = f w := by subst h; rfl
/-- a truth value of the machine -/
def Bz (x : Int32) : Prop := x = 0 ∨ x = 1
theorem Bz.ite {c : Prop} [Decidable c] {a b : Int32} (ha : Bz a) (hb : Bz b) : Bz (if c then a else b) := by
  by_cases h : c
  · rw [if_pos h]; exact ha
  · rw [if_neg h]; exact hb
theorem Bz.n {x : Int32} (h : Bz x) : narrow .boolean (.int x) = .int x := by
  rcases h with h | h <;> rw [h] <;> decide
theorem Bz.f {x : Int32} (h : Bz x) : fits .boolean (.int x) = true := by
  rcases h with h | h <;> rw [h] <;> decide
/-- what no writing of ints changes -/
def shp (S : HSt) : Nat × (Nat → Nat) × (Nat → Nat) × (Nat → Nat → Option Nat) := (gn S, gK S, gL S, gP S)
theorem shp_sI (S : HSt) (a j : Nat) (v : Int32) : shp (sI S a j v) = shp S := id rfl
theorem shp_sJ (S : HSt) (a j : Nat) (v : Int64) : shp (sJ S a j v) = shp S := id rfl
theorem ms_lt {S : HSt} (a : Nat) (ha : a < 88) (h : MS S) : a < gn S := Nat.lt_of_lt_of_le ha h.1
theorem ms_k {S : HSt} (a k n : Nat) (hq : (a, k, n) ∈ mKT) (h : MS S) : gK S a = k := (h.2.1 (a, k, n) hq).1
theorem ms_l {S : HSt} (a k n : Nat) (hq : (a, k, n) ∈ mKT) (h : MS S) : gL S a = n := (h.2.1 (a, k, n) hq).2
theorem ms_p {S : HSt} (j a : Nat) (hq : (j, a) ∈ mPT) (h : MS S) : gP S 64 j = some a := h.2.2 (j, a) hq
theorem vp_len {S : HSt} {a n : Nat} {i : Int32} (hl : gL S a = n) (h : vp_in i n) : vp_in i (gL S a) := by rw [hl]; exact h
theorem snd_ite {α β : Type} {c : Prop} [Decidable c] (a b : α × β) : (if c then a else b).2 = if c then a.2 else b.2 := by
  by_cases h : c
  · rw [if_pos h, if_pos h]
  · rw [if_neg h, if_neg h]
theorem shp_ite {c : Prop} [Decidable c] (A B : HSt) : shp (if c then A else B) = if c then shp A else shp B := by
  by_cases h : c
  · rw [if_pos h, if_pos h]
  · rw [if_neg h, if_neg h]
theorem shi {c : Prop} [Decidable c] {A B S : HSt} (ha : shp A = shp S) (hb : shp B = shp S) : shp (if c then A else B) = shp S := by
  by_cases h : c
  · rw [if_pos h]; exact ha
  · rw [if_neg h]; exact hb
theorem shb {α : Type} {v : α} {f : α → HSt} {S : HSt} (h : ∀ w, v = w → shp (f w) = shp S) : shp (bd v f) = shp S := h v rfl
theorem shiP {β : Type} (π : β → HSt) {c : Prop} [Decidable c] {A B : β} {S : HSt} (ha : shp (π A) = shp S) (hb : shp (π B) = shp S) : shp (π (if c then A else B)) = shp S := by
  by_cases h : c
  · rw [if_pos h]; exact ha
  · rw [if_neg h]; exact hb
theorem shbP {α β : Type} (π : β → HSt) {v : α} {f : α → β} {S : HSt} (h : ∀ w, v = w → shp (π (f w)) = shp S) : shp (π (bd v f)) = shp S := h v rfl
def pr {α β : Type} (a : α) (b : β) : α × β := (a, b)
theorem shpr1 {A0 : Type} {a0 : A0} {T S : HSt} (h : shp T = shp S) : shp (pr a0 T).2 = shp S := h
theorem shpr2 {A0 A1 : Type} {a0 : A0} {a1 : A1} {T S : HSt} (h : shp T = shp S) : shp (pr a0 (pr a1 T)).2.2 = shp S := h
theorem shpr3 {A0 A1 A2 : Type} {a0 : A0} {a1 : A1} {a2 : A2} {T S : HSt} (h : shp T = shp S) : shp (pr a0 (pr a1 (pr a2 T))).2.2.2 = shp S := h
theorem shpr4 {A0 A1 A2 A3 : Type} {a0 : A0} {a1 : A1} {a2 : A2} {a3 : A3} {T S : HSt} (h : shp T = shp S) : shp (pr a0 (pr a1 (pr a2 (pr a3 T)))).2.2.2.2 = shp S := h
theorem shpr5 {A0 A1 A2 A3 A4 : Type} {a0 : A0} {a1 : A1} {a2 : A2} {a3 : A3} {a4 : A4} {T S : HSt} (h : shp T = shp S) : shp (pr a0 (pr a1 (pr a2 (pr a3 (pr a4 T))))).2.2.2.2.2 = shp S := h
theorem shpr6 {A0 A1 A2 A3 A4 A5 : Type} {a0 : A0} {a1 : A1} {a2 : A2} {a3 : A3} {a4 : A4} {a5 : A5} {T S : HSt} (h : shp T = shp S) : shp (pr a0 (pr a1 (pr a2 (pr a3 (pr a4 (pr a5 T)))))).2.2.2.2.2.2 = shp S := h
theorem shpr7 {A0 A1 A2 A3 A4 A5 A6 : Type} {a0 : A0} {a1 : A1} {a2 : A2} {a3 : A3} {a4 : A4} {a5 : A5} {a6 : A6} {T S : HSt} (h : shp T = shp S) : shp (pr a0 (pr a1 (pr a2 (pr a3 (pr a4 (pr a5 (pr a6 T))))))).2.2.2.2.2.2.2 = shp S := h
theorem shpr8 {A0 A1 A2 A3 A4 A5 A6 A7 : Type} {a0 : A0} {a1 : A1} {a2 : A2} {a3 : A3} {a4 : A4} {a5 : A5} {a6 : A6} {a7 : A7} {T S : HSt} (h : shp T = shp S) : shp (pr a0 (pr a1 (pr a2 (pr a3 (pr a4 (pr a5 (pr a6 (pr a7 T)))))))).2.2.2.2.2.2.2.2 = shp S := h
theorem shpr9 {A0 A1 A2 A3 A4 A5 A6 A7 A8 : Type} {a0 : A0} {a1 : A1} {a2 : A2} {a3 : A3} {a4 : A4} {a5 : A5} {a6 : A6} {a7 : A7} {a8 : A8} {T S : HSt} (h : shp T = shp S) : shp (pr a0 (pr a1 (pr a2 (pr a3 (pr a4 (pr a5 (pr a6 (pr a7 (pr a8 T))))))))).2.2.2.2.2.2.2.2.2 = shp S := h
theorem shpr10 {A0 A1 A2 A3 A4 A5 A6 A7 A8 A9 : Type} {a0 : A0} {a1 : A1} {a2 : A2} {a3 : A3} {a4 : A4} {a5 : A5} {a6 : A6} {a7 : A7} {a8 : A8} {a9 : A9} {T S : HSt} (h : shp T = shp S) : shp (pr a0 (pr a1 (pr a2 (pr a3 (pr a4 (pr a5 (pr a6 (pr a7 (pr a8 (pr a9 T)))))))))).2.2.2.2.2.2.2.2.2.2 = shp S := h
theorem shpr11 {A0 A1 A2 A3 A4 A5 A6 A7 A8 A9 A10 : Type} {a0 : A0} {a1 : A1} {a2 : A2} {a3 : A3} {a4 : A4} {a5 : A5} {a6 : A6} {a7 : A7} {a8 : A8} {a9 : A9} {a10 : A10} {T S : HSt} (h : shp T = shp S) : shp (pr a0 (pr a1 (pr a2 (pr a3 (pr a4 (pr a5 (pr a6 (pr a7 (pr a8 (pr a9 (pr a10 T))))))))))).2.2.2.2.2.2.2.2.2.2.2 = shp S := h
theorem shpr12 {A0 A1 A2 A3 A4 A5 A6 A7 A8 A9 A10 A11 : Type} {a0 : A0} {a1 : A1} {a2 : A2} {a3 : A3} {a4 : A4} {a5 : A5} {a6 : A6} {a7 : A7} {a8 : A8} {a9 : A9} {a10 : A10} {a11 : A11} {T S : HSt} (h : shp T = shp S) : shp (pr a0 (pr a1 (pr a2 (pr a3 (pr a4 (pr a5 (pr a6 (pr a7 (pr a8 (pr a9 (pr a10 (pr a11 T)))))))))))).2.2.2.2.2.2.2.2.2.2.2.2 = shp S := h
theorem MS.of {S T : HSt} (h : shp T = shp S) (hM : MS S) : MS T := by
  have h1 : gn T = gn S := congrArg (fun q => q.1) h
  have h2 : gK T = gK S := congrArg (fun q => q.2.1) h
  have h3 : gL T = gL S := congrArg (fun q => q.2.2.1) h
  have h4 : gP T = gP S := congrArg (fun q => q.2.2.2) h
  unfold MS
  rw [h1, h2, h3, h4]
  exact hM
theorem FP.qI {q : Int32 × HSt} {v : Int32} {S : HSt} (h : q = (v, S)) : FP (some (.int q.1)) q.2 (some (.int v)) S := by rw [h]; exact ⟨rfl, rfl⟩
theorem FP.qJ {q : Int64 × HSt} {v : Int64} {S : HSt} (h : q = (v, S)) : FP (some (.long q.1)) q.2 (some (.long v)) S := by rw [h]; exact ⟨rfl, rfl⟩
theorem FP.qV {q S : HSt} (h : q = S) : FP none q none S := by rw [h]; exact ⟨rfl, rfl⟩
theorem FP.pI {q : Int32 × HSt} {v : Int32} {S S0 : HSt} (h : q = (v, S0)) : FP (some (.int q.1)) S (some (.int v)) S := by rw [h]; exact ⟨rfl, rfl⟩
theorem FP.pJ {q : Int64 × HSt} {v : Int64} {S S0 : HSt} (h : q = (v, S0)) : FP (some (.long q.1)) S (some (.long v)) S := by rw [h]; exact ⟨rfl, rfl⟩
/-- T is S but for the places W: (address, field), (address, 1000) for all of a row -/
def Fr (W : List (Nat × Nat)) (S T : HSt) : Prop := ∀ a j, (a, j) ∉ W → (a, 1000) ∉ W → gI T a j = gI S a j
theorem Fr.refl (W : List (Nat × Nat)) (S : HSt) : Fr W S S := fun _ _ _ _ => rfl
theorem Fr.tr {W W1 : List (Nat × Nat)} {S T U : HSt} (h1 : Fr W1 T U) (hs : ∀ q ∈ W1, q ∈ W) (h2 : Fr W S T) : Fr W S U := fun a j h h' => (h1 a j (fun q => h (hs _ q)) (fun q => h' (hs _ q))).trans (h2 a j h h')
theorem Fr.s1 {W : List (Nat × Nat)} {S T : HSt} {a j : Nat} {v : Int32} (hm : (a, j) ∈ W ∨ (a, 1000) ∈ W) (h : Fr W S T) : Fr W S (sI T a j v) := by
  intro b i hb hb'
  rw [gI_sI]
  by_cases h1 : b = a
  · by_cases h2 : i = j
    · subst h1 h2
      exact absurd hm (fun q => q.elim hb hb')
    · rw [if_pos h1, if_neg h2, ← h1]
      exact h b i hb hb'
  · rw [if_neg h1]
    exact h b i hb hb'
theorem Fr.s2 {W : List (Nat × Nat)} {S T : HSt} {a j : Nat} {v : Int64} (h : Fr W S T) : Fr W S (sJ T a j v) := h
theorem Fr.r1 {W : List (Nat × Nat)} {S T : HSt} {a : Nat} {g : Nat → Int32} (hm : (a, 1000) ∈ W) (h : Fr W S T) : Fr W S (rI T a g) := by
  intro b i hb hb'
  rw [gI_rI]
  by_cases h1 : b = a
  · subst h1
    exact absurd hm hb'
  · rw [if_neg h1]
    exact h b i hb hb'
theorem Fr.sE {W : List (Nat × Nat)} {S T U : HSt} {a j : Nat} {v : Int32} (e : sI T a j v = U) (hm : (a, j) ∈ W ∨ (a, 1000) ∈ W) (h : Fr W S T) : Fr W S U := by rw [← e]; exact Fr.s1 hm h
theorem Fr.jE {W : List (Nat × Nat)} {S T U : HSt} {a j : Nat} {v : Int64} (e : sJ T a j v = U) (h : Fr W S T) : Fr W S U := by rw [← e]; exact Fr.s2 h
theorem Fr.rE {W : List (Nat × Nat)} {S T U : HSt} {a : Nat} {g : Nat → Int32} (e : rI T a g = U) (hm : (a, 1000) ∈ W) (h : Fr W S T) : Fr W S U := by rw [← e]; exact Fr.r1 hm h
theorem Fr.ite {W : List (Nat × Nat)} {c : Prop} [Decidable c] {A B S : HSt} (ha : Fr W S A) (hb : Fr W S B) : Fr W S (if c then A else B) := by
  by_cases h : c
  · rw [if_pos h]; exact ha
  · rw [if_neg h]; exact hb
theorem Fr.iE {W : List (Nat × Nat)} {c : Prop} [Decidable c] {A B S U : HSt} (e : (if c then A else B) = U) (ha : Fr W S A) (hb : Fr W S B) : Fr W S U := by rw [← e]; exact Fr.ite ha hb
theorem Fr.l1 {W : List (Nat × Nat)} {α : Type} {v : α} {f : α → HSt} {S : HSt} (h : ∀ w, v = w → Fr W S (f w)) : Fr W S (bd v f) := h v rfl
theorem Fr.iteP {W : List (Nat × Nat)} {β : Type} (π : β → HSt) {c : Prop} [Decidable c] {A B : β} {S : HSt} (ha : Fr W S (π A)) (hb : Fr W S (π B)) : Fr W S (π (if c then A else B)) := by
  by_cases h : c
  · rw [if_pos h]; exact ha
  · rw [if_neg h]; exact hb
theorem Fr.lP {W : List (Nat × Nat)} {α β : Type} (π : β → HSt) {v : α} {f : α → β} {S : HSt} (h : ∀ w, v = w → Fr W S (π (f w))) : Fr W S (π (bd v f)) := h v rfl
theorem frpr1 {A0 : Type} {a0 : A0} {W : List (Nat × Nat)} {T S : HSt} (h : Fr W S T) : Fr W S (pr a0 T).2 := h
theorem frpr2 {A0 A1 : Type} {a0 : A0} {a1 : A1} {W : List (Nat × Nat)} {T S : HSt} (h : Fr W S T) : Fr W S (pr a0 (pr a1 T)).2.2 := h
theorem frpr3 {A0 A1 A2 : Type} {a0 : A0} {a1 : A1} {a2 : A2} {W : List (Nat × Nat)} {T S : HSt} (h : Fr W S T) : Fr W S (pr a0 (pr a1 (pr a2 T))).2.2.2 := h
theorem frpr4 {A0 A1 A2 A3 : Type} {a0 : A0} {a1 : A1} {a2 : A2} {a3 : A3} {W : List (Nat × Nat)} {T S : HSt} (h : Fr W S T) : Fr W S (pr a0 (pr a1 (pr a2 (pr a3 T)))).2.2.2.2 := h
theorem frpr5 {A0 A1 A2 A3 A4 : Type} {a0 : A0} {a1 : A1} {a2 : A2} {a3 : A3} {a4 : A4} {W : List (Nat × Nat)} {T S : HSt} (h : Fr W S T) : Fr W S (pr a0 (pr a1 (pr a2 (pr a3 (pr a4 T))))).2.2.2.2.2 := h
theorem frpr6 {A0 A1 A2 A3 A4 A5 : Type} {a0 : A0} {a1 : A1} {a2 : A2} {a3 : A3} {a4 : A4} {a5 : A5} {W : List (Nat × Nat)} {T S : HSt} (h : Fr W S T) : Fr W S (pr a0 (pr a1 (pr a2 (pr a3 (pr a4 (pr a5 T)))))).2.2.2.2.2.2 := h
theorem frpr7 {A0 A1 A2 A3 A4 A5 A6 : Type} {a0 : A0} {a1 : A1} {a2 : A2} {a3 : A3} {a4 : A4} {a5 : A5} {a6 : A6} {W : List (Nat × Nat)} {T S : HSt} (h : Fr W S T) : Fr W S (pr a0 (pr a1 (pr a2 (pr a3 (pr a4 (pr a5 (pr a6 T))))))).2.2.2.2.2.2.2 := h
theorem frpr8 {A0 A1 A2 A3 A4 A5 A6 A7 : Type} {a0 : A0} {a1 : A1} {a2 : A2} {a3 : A3} {a4 : A4} {a5 : A5} {a6 : A6} {a7 : A7} {W : List (Nat × Nat)} {T S : HSt} (h : Fr W S T) : Fr W S (pr a0 (pr a1 (pr a2 (pr a3 (pr a4 (pr a5 (pr a6 (pr a7 T)))))))).2.2.2.2.2.2.2.2 := h
theorem frpr9 {A0 A1 A2 A3 A4 A5 A6 A7 A8 : Type} {a0 : A0} {a1 : A1} {a2 : A2} {a3 : A3} {a4 : A4} {a5 : A5} {a6 : A6} {a7 : A7} {a8 : A8} {W : List (Nat × Nat)} {T S : HSt} (h : Fr W S T) : Fr W S (pr a0 (pr a1 (pr a2 (pr a3 (pr a4 (pr a5 (pr a6 (pr a7 (pr a8 T))))))))).2.2.2.2.2.2.2.2.2 := h
theorem frpr10 {A0 A1 A2 A3 A4 A5 A6 A7 A8 A9 : Type} {a0 : A0} {a1 : A1} {a2 : A2} {a3 : A3} {a4 : A4} {a5 : A5} {a6 : A6} {a7 : A7} {a8 : A8} {a9 : A9} {W : List (Nat × Nat)} {T S : HSt} (h : Fr W S T) : Fr W S (pr a0 (pr a1 (pr a2 (pr a3 (pr a4 (pr a5 (pr a6 (pr a7 (pr a8 (pr a9 T)))))))))).2.2.2.2.2.2.2.2.2.2 := h
theorem frpr11 {A0 A1 A2 A3 A4 A5 A6 A7 A8 A9 A10 : Type} {a0 : A0} {a1 : A1} {a2 : A2} {a3 : A3} {a4 : A4} {a5 : A5} {a6 : A6} {a7 : A7} {a8 : A8} {a9 : A9} {a10 : A10} {W : List (Nat × Nat)} {T S : HSt} (h : Fr W S T) : Fr W S (pr a0 (pr a1 (pr a2 (pr a3 (pr a4 (pr a5 (pr a6 (pr a7 (pr a8 (pr a9 (pr a10 T))))))))))).2.2.2.2.2.2.2.2.2.2.2 := h
theorem frpr12 {A0 A1 A2 A3 A4 A5 A6 A7 A8 A9 A10 A11 : Type} {a0 : A0} {a1 : A1} {a2 : A2} {a3 : A3} {a4 : A4} {a5 : A5} {a6 : A6} {a7 : A7} {a8 : A8} {a9 : A9} {a10 : A10} {a11 : A11} {W : List (Nat × Nat)} {T S : HSt} (h : Fr W S T) : Fr W S (pr a0 (pr a1 (pr a2 (pr a3 (pr a4 (pr a5 (pr a6 (pr a7 (pr a8 (pr a9 (pr a10 (pr a11 T)))))))))))).2.2.2.2.2.2.2.2.2.2.2.2 := h
