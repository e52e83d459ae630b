-- needs: 60.show
theorem fold_inv {P : List Nat → Prop} {h : List Nat → Nat → List Nat} : ∀ (L : List Nat) (a : List Nat), P a → (∀ x f, f ∈ L → P x → P (h x f)) → P (L.foldl h a) := by
  intro L
  induction L with
  | nil => intro a ha _; exact ha
  | cons b L ih =>
    intro a ha hh
    exact ih (h a b) (hh a b (by simp) ha) (fun x f hf => hh x f (by simp [hf]))
theorem bst_len (F : Nat) (g : Nat → Nat → Bool) : ∀ (n s : Nat) (l : Option Nat), (bst F g n s l).length ≤ n ∧ ∀ x ∈ bst F g n s l, x < F := by
  intro n
  induction n with
  | zero => intro s l; exact ⟨Nat.le_refl 0, fun x hx => absurd hx (by simp [bst])⟩
  | succ n ih =>
    intro s l
    show ((List.range F).foldl (stp (okf g s l) (fun f => bst F g n (s ||| 2 ^ f) (some f))) []).length ≤ n + 1 ∧ ∀ x ∈ (List.range F).foldl (stp (okf g s l) (fun f => bst F g n (s ||| 2 ^ f) (some f))) [], x < F
    refine fold_inv (P := fun c => c.length ≤ n + 1 ∧ ∀ x ∈ c, x < F) (List.range F) [] ⟨by simp, by simp⟩ (fun c f hf hc => ?_)
    unfold stp
    by_cases q : okf g s l f = true
    · rw [if_pos q]
      by_cases q2 : c.length < (bst F g n (s ||| 2 ^ f) (some f)).length + 1
      · rw [if_pos q2]
        obtain ⟨i1, i2⟩ := ih (s ||| 2 ^ f) (some f)
        refine ⟨by simp; exact i1, fun x hx => ?_⟩
        rcases List.mem_cons.mp hx with rfl | h
        · exact List.mem_range.mp hf
        · exact i2 x h
      · rw [if_neg q2]; exact hc
    · rw [if_neg q]; exact hc
theorem cnt_le (F s : Nat) : cnt F s ≤ F := by
  unfold cnt
  have := List.length_filter_le (fun f => !(s.testBit f)) (List.range F)
  simpa using this
theorem BS_len (F : Nat) (g : Nat → Nat → Bool) (s : Nat) (l : Option Nat) : (BS F g s l).length ≤ F ∧ ∀ x ∈ BS F g s l, x < F := by
  have h := bst_len F g (cnt F s) s l
  exact ⟨Nat.le_trans h.1 (cnt_le F s), h.2⟩
theorem BS_lc (F : Nat) (g : Nat → Nat → Bool) (s : Nat) (l : Option Nat) : (BS F g s l).length ≤ cnt F s := (bst_len F g (cnt F s) s l).1
theorem cur_len {F : Nat} (g : Nat → Nat → Bool) (s : Nat) (l : Option Nat) (c : Nat) : (cur F g s l c).length ≤ F + 1 := by
  unfold cur
  refine fold_inv (P := fun c => c.length ≤ F + 1) (List.range c) [] (by simp) (fun c f hf hc => ?_)
  unfold stp
  by_cases q : okf g s l f = true
  · rw [if_pos q]
    by_cases q2 : c.length < (BS F g (s ||| 2 ^ f) (some f)).length + 1
    · rw [if_pos q2]
      have := (BS_len F g (s ||| 2 ^ f) (some f)).1
      simp
      exact this
    · rw [if_neg q2]; exact hc
  · rw [if_neg q]; exact hc
def hdI (c : List Nat) : Int32 := match c with | [] => -1000000 | h :: _ => nI h
/-- what the class keeps of sets from k on -/
def DP (F : Nat) (g : Nat → Nat → Bool) (k : Nat) (S : HSt) : Prop := ∀ s, k ≤ s → s < 2 ^ F → ∀ x, x < F → gI S 39 (s * 6 + x) = nI (1 + (BS F g s (some x)).length)
def LV (l : Option Nat) (v : Int32) : Prop := (l = none ∧ v = -1000000) ∨ (∃ x, x < 6 ∧ l = some x ∧ v = nI x)
theorem p64 : ∀ F, F < 7 → 2 ^ F ≤ 64 := by decide
theorem place_v (S : HSt) (s x : Nat) : f_X8_placeOf S (nI s) (nI x) = nI (s * 6 + x) := by
  show nI s * (6 : Int32) + nI x = _
  rw [show (6 : Int32) = nI 6 from rfl, pk_mul, nI_add]
theorem one0 : ¬ (1 : Int32) = 0 := by decide
theorem next_L {F s : Nat} (hF : F < 7) (hs : s < 2 ^ F) {l : Option Nat} {lv : Int32} (hl : LV l lv) {S : HSt} {W : Nat → Int32} (hW : ∀ i f, i < 6 → f < 4 → gI S 21 ((10 + i) * 5 + f) = W (44 + 4 * i + f)) (hD : DP F (gW W) (s + 1) S) : ∀ (n f : Nat), f ≤ F → F - f < n → T_X8_nextForm_17 19 n S (nI s) lv (nI F) (nI (cur F (gW W) s l f).length) (hdI (cur F (gW W) s l f)) (nI f) ∧ (L_X8_nextForm_17 19 n S (nI s) lv (nI F) (nI (cur F (gW W) s l f).length) (hdI (cur F (gW W) s l f)) (nI f)).2.2.2.2.1 = hdI (cur F (gW W) s l F) := by
  have h64 := p64 F hF
  intro n
  induction n with
  | zero => intro f _ h; omega
  | succ n ih =>
    intro f hf hn
    unfold T_X8_nextForm_17 L_X8_nextForm_17
    by_cases c : nI F ≤ nI f
    · have : f = F := by
        rw [ti_le, nI_ti (by omega), nI_ti (by omega)] at c
        omega
      subst this
      rw [if_pos c]
      exact ⟨⟨fun q => absurd c q, fun q => absurd c q, fun q => absurd c q⟩, rfl⟩
    · rw [if_neg c]
      have hfF : f < F := by
        rw [ti_le, nI_ti (by omega), nI_ti (by omega)] at c
        omega
      simp only [bd_def]
      rw [b_or s (by omega) f (by omega)]
      have hba := b_and s (by omega) f (by omega)
      have hcl := cur_len (F := F) (gW W) s l f
      have hBl := (BS_len F (gW W) (s ||| 2 ^ f) (some f)).1
      -- one step
      have hstep := cur_succ F (gW W) s l f
      obtain ⟨i1, i2⟩ := ih (f + 1) (by omega) (by omega)
      rw [nI_succ] at i1 i2
      have hpl : s.testBit f = false → (f_X8_placeOf S (nI (s ||| 2 ^ f)) (nI f)) = nI ((s ||| 2 ^ f) * 6 + f) ∧ gI S 39 ((s ||| 2 ^ f) * 6 + f) = nI (1 + (BS F (gW W) (s ||| 2 ^ f) (some f)).length) := fun q => ⟨place_v S _ _, hD (s ||| 2 ^ f) (b_gt s (by omega) f (by omega) q) (b_F F hF s hs f hfF) f hfF⟩
      have hx6 := b_F F hF s hs f hfF
      by_cases tb : s.testBit f = false
      · have z1 := hba.mpr tb
        obtain ⟨e1, e2⟩ := hpl tb
        rw [if_pos z1, if_neg one0, e1, nI_clamp' (by omega), e2]
        have hle : nI (1 + (BS F (gW W) (s ||| 2 ^ f) (some f)).length) ≤ nI (cur F (gW W) s l f).length ↔ ¬ (cur F (gW W) s l f).length < (BS F (gW W) (s ||| 2 ^ f) (some f)).length + 1 := by
          rw [ti_le, nI_ti (by omega), nI_ti (by omega)]; omega
        -- is the form one to go to?
        obtain ⟨w, hw, hok, hpg⟩ : ∃ w : Int32, (if lv = (-1000000 : Int32) then (1 : Int32) else f_X8_goes S 19 lv (nI f)) = w ∧ (¬ w = 0 ↔ okf (gW W) s l f = true) ∧ (¬ lv = -1000000 → p_X8_goes S 19 lv (nI f)) := by
          refine ⟨_, rfl, ?_, ?_⟩
          · unfold okf
            rw [tb]
            rcases hl with ⟨rfl, rfl⟩ | ⟨x, hx, rfl, rfl⟩
            · rw [if_pos rfl]; simp
            · rw [if_neg (nI_none (by omega)), (goes_c S hx (by omega) hW).1]
              by_cases y : gW W x f = true
              · rw [if_pos y]; simp [y]
              · rw [if_neg y]; simp [y]
          · intro q
            rcases hl with ⟨rfl, rfl⟩ | ⟨x, hx, rfl, rfl⟩
            · exact absurd rfl q
            · exact (goes_c S hx (by omega) hW).2
        have hsel : ∀ A B : Int32, (if lv = (-1000000 : Int32) then A else (if f_X8_goes S 19 lv (nI f) = 0 then B else A)) = if okf (gW W) s l f = true then A else B := fun A B => by
          by_cases y : lv = -1000000
          · rw [if_pos y] at hw ⊢
            rw [if_pos (hok.mp (by rw [← hw]; decide))]
          · rw [if_neg y] at hw ⊢
            by_cases y2 : f_X8_goes S 19 lv (nI f) = 0
            · rw [if_pos y2, if_neg (fun q => (hok.mpr q) (by rw [← hw]; exact y2))]
            · rw [if_neg y2, if_pos (hok.mp (by rw [← hw]; exact y2))]
        have hm : (if nI (1 + (BS F (gW W) (s ||| 2 ^ f) (some f)).length) ≤ nI (cur F (gW W) s l f).length then nI (cur F (gW W) s l f).length else (if lv = (-1000000 : Int32) then nI (1 + (BS F (gW W) (s ||| 2 ^ f) (some f)).length) else (if f_X8_goes S 19 lv (nI f) = 0 then nI (cur F (gW W) s l f).length else nI (1 + (BS F (gW W) (s ||| 2 ^ f) (some f)).length)))) = nI (cur F (gW W) s l (f + 1)).length ∧ (if nI (1 + (BS F (gW W) (s ||| 2 ^ f) (some f)).length) ≤ nI (cur F (gW W) s l f).length then hdI (cur F (gW W) s l f) else (if lv = (-1000000 : Int32) then nI f else (if f_X8_goes S 19 lv (nI f) = 0 then hdI (cur F (gW W) s l f) else nI f))) = hdI (cur F (gW W) s l (f + 1)) := by
          rw [hsel, hsel, hstep]
          unfold stp
          by_cases y : okf (gW W) s l f = true
          · rw [if_pos y, if_pos y, if_pos y]
            by_cases y2 : (cur F (gW W) s l f).length < (BS F (gW W) (s ||| 2 ^ f) (some f)).length + 1
            · rw [if_neg (fun q => hle.mp q y2), if_neg (fun q => hle.mp q y2), if_pos y2]
              refine ⟨?_, rfl⟩
              show _ = nI (f :: BS F (gW W) (s ||| 2 ^ f) (some f)).length
              rw [List.length_cons, Nat.add_comm]
            · rw [if_pos (hle.mpr y2), if_pos (hle.mpr y2), if_neg y2]
              exact ⟨rfl, rfl⟩
          · rw [if_neg y, if_neg y, if_neg y, ite_self, ite_self]
            exact ⟨rfl, rfl⟩
        rw [hm.1, hm.2]
        refine ⟨⟨fun _ x ex _ => ?_, fun _ x ex x6 ex6 _ q => hpg q, fun _ x ex x6 ex6 x10 ex10 x11 ex11 => ?_⟩, i2⟩
        · exact vp_in_nI (by omega) (by omega)
        · rw [← ex, if_neg one0] at ex6
          have ex6' : nI (1 + (BS F (gW W) (s ||| 2 ^ f) (some f)).length) = x6 := ex6
          rw [← ex6'] at ex10 ex11
          rw [← ex10, ← ex11, hm.1, hm.2]
          exact i1
      · have tb' : s.testBit f = true := by simpa using tb
        have z1 : ¬ (nI s &&& ((1 : Int32) <<< (nI f &&& 31))) = 0 := fun q => tb (hba.mp q)
        have hno : ¬ okf (gW W) s l f = true := fun q => tb (okf_bit q)
        have e3 : cur F (gW W) s l (f + 1) = cur F (gW W) s l f := by
          rw [hstep]
          unfold stp
          rw [if_neg hno]
        rw [e3] at i1 i2
        have hle0 : (0 : Int32) ≤ nI (cur F (gW W) s l f).length := by rw [ti_le, ti0, nI_ti (by omega)]; omega
        rw [if_neg z1, if_pos rfl, if_pos hle0, if_pos hle0]
        refine ⟨⟨fun _ x ex q => absurd ex.symm q, fun _ x ex x6 ex6 q => ?_, fun _ x ex x6 ex6 x10 ex10 x11 ex11 => ?_⟩, i2⟩
        · rw [← ex, if_pos rfl] at ex6
          rw [← ex6] at q
          exact absurd hle0 q
        · rw [← ex, if_pos rfl] at ex6
          rw [← ex6, if_pos hle0] at ex10 ex11
          rw [← ex10, ← ex11]
          exact i1
theorem forms_c {S : HSt} {F : Nat} (hF3 : gI S 20 3 = nI F) : f_X10_howMany S 19 3 = nI F := (many_at S 19 (s := 3) (by decide)).trans hF3
theorem next_v {F s : Nat} (hF : F < 7) (hs : s < 2 ^ F) {l : Option Nat} {lv : Int32} (hl : LV l lv) {S : HSt} {W : Nat → Int32} (hF3 : gI S 20 3 = nI F) (hW : ∀ i f, i < 6 → f < 4 → gI S 21 ((10 + i) * 5 + f) = W (44 + 4 * i + f)) (hD : DP F (gW W) (s + 1) S) : f_X8_nextForm S 38 19 (nI s) lv = hdI (BS F (gW W) s l) ∧ p_X8_nextForm S 38 19 (nI s) lv := by
  have h64 := p64 F hF
  obtain ⟨h1, h2⟩ := next_L hF hs hl hW hD 1000 0 (by omega) (by omega)
  have e0 : cur F (gW W) s l 0 = [] := rfl
  rw [e0] at h1 h2
  have h2' : (L_X8_nextForm_17 19 1000 S (nI s) lv (nI F) 0 (-1000000) 0).2.2.2.2.1 = hdI (cur F (gW W) s l F) := h2
  have h1' : T_X8_nextForm_17 19 1000 S (nI s) lv (nI F) 0 (-1000000) 0 := h1
  refine ⟨?_, p_many _ _ _, fun x ex => ?_⟩
  · show (F_X8_nextForm S 38 19 (nI s) lv).1 = _
    unfold F_X8_nextForm
    simp only [bd_def]
    rw [forms_c hF3, pr_1, h2', BS_eq hF (gW W) (by omega) l]
  · rw [← ex, forms_c hF3]; exact h1'
theorem hdI_cases (c : List Nat) (F : Nat) (hF : F < 7) (hm : ∀ x ∈ c, x < F) : (c = [] ∧ hdI c = -1000000) ∨ (∃ h t, c = h :: t ∧ h < F ∧ hdI c = nI h ∧ ¬ nI h = (-1000000 : Int32)) := by
  match c, hm with
  | [], _ => exact Or.inl ⟨rfl, rfl⟩
  | h :: t, hm => exact Or.inr ⟨h, t, rfl, hm h (by simp), rfl, nI_none (by have := hm h (by simp); omega)⟩
/-- the step: a row's head and the row behind it -/
theorem cur_tail {F : Nat} (g : Nat → Nat → Bool) (s : Nat) (l : Option Nat) : ∀ c, cur F g s l c = [] ∨ ∃ h, h < c ∧ okf g s l h = true ∧ cur F g s l c = h :: BS F g (s ||| 2 ^ h) (some h) := by
  intro c
  induction c with
  | zero => exact Or.inl rfl
  | succ c ih =>
    rw [cur_succ]
    unfold stp
    by_cases q : okf g s l c = true
    · rw [if_pos q]
      by_cases q2 : (cur F g s l c).length < (BS F g (s ||| 2 ^ c) (some c)).length + 1
      · rw [if_pos q2]
        exact Or.inr ⟨c, by omega, q, rfl⟩
      · rw [if_neg q2]
        rcases ih with h | ⟨h, h1, h2, h3⟩
        · exact Or.inl h
        · exact Or.inr ⟨h, by omega, h2, h3⟩
    · rw [if_neg q]
      rcases ih with h | ⟨h, h1, h2, h3⟩
      · exact Or.inl h
      · exact Or.inr ⟨h, by omega, h2, h3⟩
theorem BS_tail {F : Nat} (hF : F < 7) (g : Nat → Nat → Bool) {s : Nat} (hs : s < 64) (l : Option Nat) : BS F g s l = [] ∨ ∃ h, h < F ∧ okf g s l h = true ∧ BS F g s l = h :: BS F g (s ||| 2 ^ h) (some h) := by
  rw [BS_eq hF g hs l]
  exact cur_tail g s l F
theorem row_L {F s : Nat} (hF : F < 7) (hs : s < 2 ^ F) {W : Nat → Int32} : ∀ (n x : Nat) (S : HSt), x ≤ F → F - x < n → gI S 20 3 = nI F → (∀ i f, i < 6 → f < 4 → gI S 21 ((10 + i) * 5 + f) = W (44 + 4 * i + f)) → DP F (gW W) (s + 1) S → (∀ y, y < x → gI S 39 (s * 6 + y) = nI (1 + (BS F (gW W) s (some y)).length)) → T_X8_seekShow_19 19 n S (nI F) (nI s) (nI x) ∧ ((L_X8_seekShow_19 19 n S (nI F) (nI s) (nI x)).1 = nI F ∧ (L_X8_seekShow_19 19 n S (nI F) (nI s) (nI x)).2.1 = nI s) ∧ DP F (gW W) s (L_X8_seekShow_19 19 n S (nI F) (nI s) (nI x)).2.2.2 := by
  have h64 := p64 F hF
  intro n
  induction n with
  | zero => intro x S _ h; omega
  | succ n ih =>
    intro x S hx hn hF3 hW hD hy
    unfold T_X8_seekShow_19 L_X8_seekShow_19
    by_cases c : nI F ≤ nI x
    · have : x = F := by
        rw [ti_le, nI_ti (by omega), nI_ti (by omega)] at c
        omega
      subst this
      rw [if_pos c]
      refine ⟨⟨fun q => absurd c q, fun q => absurd c q, fun q => absurd c q, fun q => absurd c q⟩, ⟨rfl, rfl⟩, fun s' h1 h2 y h3 => ?_⟩
      show gI S 39 (s' * 6 + y) = _
      by_cases d : s' = s
      · subst d; exact hy y h3
      · exact hD s' (by omega) h2 y h3
    · rw [if_neg c]
      have hxF : x < F := by
        rw [ti_le, nI_ti (by omega), nI_ti (by omega)] at c
        omega
      obtain ⟨nv, np⟩ := next_v hF hs (l := some x) (lv := nI x) (Or.inr ⟨x, by omega, rfl, rfl⟩) hF3 hW hD
      simp only [bd_def]
      rw [nv, place_v, nI_clamp' (i := s * 6 + x) (by omega)]
      have hv : (if hdI (BS F (gW W) s (some x)) = (-1000000 : Int32) then (1 : Int32) else 1 + gI S 39 (f_X8_placeOf S (nI s ||| ((1 : Int32) <<< (hdI (BS F (gW W) s (some x)) &&& 31))) (hdI (BS F (gW W) s (some x)))).toNatClampNeg) = nI (1 + (BS F (gW W) s (some x)).length) ∧ (¬ hdI (BS F (gW W) s (some x)) = (-1000000 : Int32) → vp_in (f_X8_placeOf S (nI s ||| ((1 : Int32) <<< (hdI (BS F (gW W) s (some x)) &&& 31))) (hdI (BS F (gW W) s (some x)))) 384) := by
        rcases BS_tail hF (gW W) (s := s) (by omega) (some x) with h | ⟨h, h1, h2, h3⟩
        · rw [h, if_pos (show hdI [] = (-1000000 : Int32) from rfl)]
          exact ⟨rfl, fun q => absurd rfl q⟩
        · rw [h3, show hdI (h :: BS F (gW W) (s ||| 2 ^ h) (some h)) = nI h from rfl, if_neg (nI_none (by omega)), b_or s (by omega) h (by omega), place_v]
          have hx6 := b_F F hF s hs h h1
          rw [nI_clamp' (by omega), hD (s ||| 2 ^ h) (b_gt s (by omega) h (by omega) (okf_bit h2)) hx6 h h1]
          refine ⟨?_, fun _ => vp_in_nI (by omega) (by omega)⟩
          rw [show (1 : Int32) = nI 1 from rfl, nI_add, List.length_cons]
          exact congrArg nI (by omega)
      rw [hv.1]
      have hDn : DP F (gW W) (s + 1) (sI S 39 (s * 6 + x) (nI (1 + (BS F (gW W) s (some x)).length))) := fun s' h1 h2 y h3 => by
        rw [gs_o (by omega)]
        exact hD s' h1 h2 y h3
      obtain ⟨i1, i2, i3⟩ := ih (x + 1) (sI S 39 (s * 6 + x) (nI (1 + (BS F (gW W) s (some x)).length))) (by omega) (by omega) (by rw [gs_ne (by decide)]; exact hF3) (by rw [gs_ne (by decide)]; exact hW) hDn (fun y h => by
        rw [gs_eq]
        by_cases d : y = x
        · subst d; rw [if_pos rfl]
        · rw [if_neg (by omega)]; exact hy y (by omega))
      rw [nI_succ] at i1 i2 i3
      refine ⟨⟨fun _ => np, fun _ z ez q => ?_, fun _ z ez z2 ez2 => ?_, fun _ z ez z2 ez2 S2 eS => ?_⟩, i2, i3⟩
      · rw [← ez] at q ⊢; exact hv.2 q
      · exact vp_in_nI (by omega) (by omega)
      · rw [← ez, hv.1] at ez2
        rw [← ez2] at eS
        rw [← eS]; exact i1
/-- all sets, from the fullest down -/
theorem sets_L {F : Nat} (hF : F < 7) {W : Nat → Int32} : ∀ (n s : Nat) (S : HSt), s ≤ 2 ^ F → 1 ≤ s → s < n + 1 → gI S 20 3 = nI F → (∀ i f, i < 6 → f < 4 → gI S 21 ((10 + i) * 5 + f) = W (44 + 4 * i + f)) → DP F (gW W) s S → T_X8_seekShow_12 19 n S (nI F) (nI s + (-1 : Int32)) ∧ (L_X8_seekShow_12 19 n S (nI F) (nI s + (-1 : Int32))).1 = nI F ∧ DP F (gW W) 1 (L_X8_seekShow_12 19 n S (nI F) (nI s + (-1 : Int32))).2.2 := by
  have h64 := p64 F hF
  intro n
  induction n with
  | zero => intro s S _ h1 h2; omega
  | succ n ih =>
    intro s S hs h1 hn hF3 hW hD
    obtain ⟨s, rfl⟩ : ∃ q, s = q + 1 := ⟨s - 1, by omega⟩
    rw [nI_dn]
    unfold T_X8_seekShow_12 L_X8_seekShow_12
    by_cases c : nI s ≤ 0
    · have : s = 0 := by
        rw [ti_le, ti0, nI_ti (by omega)] at c
        omega
      subst this
      rw [if_pos c]
      exact ⟨⟨fun q => absurd c q, fun q => absurd c q⟩, rfl, hD⟩
    · rw [if_neg c]
      have hs1 : 1 ≤ s := by
        rw [ti_le, ti0, nI_ti (by omega)] at c
        omega
      obtain ⟨r1, ⟨r2, r3⟩, r4⟩ := row_L hF (s := s) (by omega) 1000 0 S (by omega) (by omega) hF3 hW hD (fun y h => by omega)
      rw [show nI 0 = (0 : Int32) from rfl] at r1 r2 r3 r4
      have fr := vL_X8_seekShow_19 19 1000 S (nI F) (nI s) 0
      rw [bd_def]
      generalize hR : L_X8_seekShow_19 19 1000 S (nI F) (nI s) 0 = R at r2 r3 r4 fr
      rw [r2, r3]
      obtain ⟨i1, i2, i3⟩ := ih s R.2.2.2 (by omega) hs1 (by omega) (by rw [fr_addr fr 20 (by decide)]; exact hF3) (by rw [fr_addr fr 21 (by decide)]; exact hW) r4
      refine ⟨⟨fun _ => r1, fun _ r er => ?_⟩, i2, i3⟩
      rw [← er, r2, r3]; exact i1
/-- the row itself, form by form -/
theorem greedy_L {F : Nat} (hF : F < 7) {W : Nat → Int32} : ∀ (n c s : Nat) (l : Option Nat) (P : List Nat) (S : HSt), cnt F s < n → c = P.length → cnt F s + c = F → s < 2 ^ F → (LV l (-1000000) ∨ ∃ x, x < 6 ∧ l = some x) → gI S 20 3 = nI F → (∀ i f, i < 6 → f < 4 → gI S 21 ((10 + i) * 5 + f) = W (44 + 4 * i + f)) → DP F (gW W) 1 S → gI S 38 4 = nI c → (∀ k, k < c → gI S 40 k = nI (P.getD k 0)) → T_X8_seekShow_104 19 n S (nI F) (nI s) (hdI (BS F (gW W) s l)) ∧ gI (L_X8_seekShow_104 19 n S (nI F) (nI s) (hdI (BS F (gW W) s l))).2.2.2 38 4 = nI (P ++ BS F (gW W) s l).length ∧ (∀ k, k < (P ++ BS F (gW W) s l).length → gI (L_X8_seekShow_104 19 n S (nI F) (nI s) (hdI (BS F (gW W) s l))).2.2.2 40 k = nI ((P ++ BS F (gW W) s l).getD k 0)) := by
  have h64 := p64 F hF
  intro n
  induction n with
  | zero => intro c s l P S h; omega
  | succ n ih =>
    intro c s l P S hn hc hcn hs hl hF3 hW hD h4 h40
    unfold T_X8_seekShow_104 L_X8_seekShow_104
    rcases BS_tail hF (gW W) (s := s) (by omega) l with h | ⟨h, h1, h2, h3⟩
    · have z : hdI (BS F (gW W) s l) = (-1000000 : Int32) := by rw [h]; rfl
      rw [if_pos z, h, List.append_nil]
      refine ⟨⟨fun q => absurd rfl q, fun q => absurd rfl q, fun q => absurd rfl q⟩, ?_, fun k hk => ?_⟩
      · show gI S 38 4 = _; rw [h4, hc]
      · show gI S 40 k = _; exact h40 k (by omega)
    · have hh : hdI (BS F (gW W) s l) = nI h := by rw [h3]; rfl
      have tb := okf_bit h2
      have hco := cnt_or F hF s (by omega) h h1 tb
      have z1 : ¬ nI h = (-1000000 : Int32) := nI_none (by omega)
      have z2 : ¬ nI F ≤ gI S 38 4 := by rw [h4, ti_le, nI_ti (by omega), nI_ti (by omega)]; omega
      rw [hh, if_neg z1, if_neg z2]
      simp only [bd_def]
      rw [h4, nI_clamp' (by omega), gs_ne (show (38 : Nat) ≠ 40 by decide), h4, show nI c + (1 : Int32) = nI (c + 1) from (nI_succ c).symm, b_or s (by omega) h (by omega)]
      obtain ⟨S1, hS1⟩ : ∃ S1, sI (sI S 40 c (nI h)) 38 4 (nI (c + 1)) = S1 := ⟨_, rfl⟩
      rw [hS1]
      have hx6 := b_F F hF s hs h h1
      have g20 : gI S1 20 = gI S 20 := by rw [← hS1, gs_ne (by decide), gs_ne (by decide)]
      have g21 : gI S1 21 = gI S 21 := by rw [← hS1, gs_ne (by decide), gs_ne (by decide)]
      have g39 : gI S1 39 = gI S 39 := by rw [← hS1, gs_ne (by decide), gs_ne (by decide)]
      have hD1 : DP F (gW W) 1 S1 := by unfold DP; rw [g39]; exact hD
      obtain ⟨nv, np⟩ := next_v hF hx6 (l := some h) (lv := nI h) (Or.inr ⟨h, by omega, rfl, rfl⟩) (S := S1) (by rw [g20]; exact hF3) (by rw [g21]; exact hW) (fun s' q1 q2 => hD1 s' (by omega) q2)
      rw [nv]
      obtain ⟨i1, i2, i3⟩ := ih (c + 1) (s ||| 2 ^ h) (some h) (P ++ [h]) S1 (by omega) (by simp; omega) (by omega) hx6 (Or.inr ⟨h, by omega, rfl⟩) (by rw [g20]; exact hF3) (by rw [g21]; exact hW) hD1 (by rw [← hS1, gs_eq, if_pos rfl]) (fun k hk => by
        rw [← hS1, gs_ne (by decide), gs_eq]
        by_cases d : k = c
        · rw [if_pos d, d, hc]
          simp
        · rw [if_neg d, h40 k (by omega)]
          have : k < P.length := by omega
          simp [List.getD_eq_getElem?_getD, List.getElem?_append_left this])
      have e : P ++ BS F (gW W) s l = (P ++ [h]) ++ BS F (gW W) (s ||| 2 ^ h) (some h) := by rw [h3]; simp
      rw [e]
      refine ⟨⟨fun _ _ => vp_in_nI (by omega) (by omega), fun _ _ S2 e2 S3 e3 x ex => ?_, fun _ _ S2 e2 S3 e3 x ex x2 ex2 => ?_⟩, i2, i3⟩
      · rw [← e2, gs_ne (show (38 : Nat) ≠ 40 by decide), h4, show nI c + (1 : Int32) = nI (c + 1) from (nI_succ c).symm, hS1] at e3
        rw [← e3, ← ex]; exact np
      · rw [← e2, gs_ne (show (38 : Nat) ≠ 40 by decide), h4, show nI c + (1 : Int32) = nI (c + 1) from (nI_succ c).symm, hS1] at e3
        rw [← e3, ← ex, nv] at ex2
        rw [← e3, ← ex, ← ex2]; exact i1
theorem cnt_full (F : Nat) : cnt F 0 = F := by
  unfold cnt
  have : (List.range F).filter (fun f => !(Nat.testBit 0 f)) = List.range F := List.filter_eq_self.mpr (fun a _ => by simp)
  rw [this]
  simp
theorem show_c {F : Nat} (hF : F < 7) {W : Nat → Int32} {S : HSt} (hF3 : gI S 20 3 = nI F) (hW : ∀ i f, i < 6 → f < 4 → gI S 21 ((10 + i) * 5 + f) = W (44 + 4 * i + f)) : p_X8_seekShow S 38 19 ∧ gI (f_X8_seekShow S 38 19) 38 4 = nI (BS F (gW W) 0 none).length ∧ (∀ k, k < (BS F (gW W) 0 none).length → gI (f_X8_seekShow S 38 19) 40 k = nI ((BS F (gW W) 0 none).getD k 0)) := by
  have h64 := p64 F hF
  have hp : 0 < 2 ^ F := Nat.two_pow_pos F
  obtain ⟨s1, s2, s3⟩ := sets_L hF (W := W) 1000 (2 ^ F) S (by omega) (by omega) (by omega) hF3 hW (fun s h1 h2 => by omega)
  have fr := vL_X8_seekShow_12 19 1000 S (nI F) (nI (2 ^ F) + (-1 : Int32))
  have eF := forms_c hF3
  have e2 := b_1 F hF
  generalize hR : L_X8_seekShow_12 19 1000 S (nI F) (nI (2 ^ F) + (-1 : Int32)) = R at s2 s3 fr
  obtain ⟨S4, hS4⟩ : ∃ S4, sI R.2.2 38 4 0 = S4 := ⟨_, rfl⟩
  have g20 : gI S4 20 3 = nI F := by rw [← hS4, gs_ne (by decide), fr_addr fr 20 (by decide)]; exact hF3
  have g21 : ∀ i f, i < 6 → f < 4 → gI S4 21 ((10 + i) * 5 + f) = W (44 + 4 * i + f) := by rw [← hS4, gs_ne (by decide), fr_addr fr 21 (by decide)]; exact hW
  have hD : DP F (gW W) 1 S4 := by unfold DP; rw [← hS4, gs_ne (by decide)]; exact s3
  obtain ⟨nv, np⟩ := next_v hF (s := 0) (by omega) (l := none) (lv := -1000000) (Or.inl ⟨rfl, rfl⟩) g20 g21 hD
  obtain ⟨q1, q2, q3⟩ := greedy_L hF (W := W) 1000 0 0 none [] S4 (by rw [cnt_full]; omega) rfl (by rw [cnt_full]; omega) (by omega) (Or.inl (Or.inl ⟨rfl, rfl⟩)) g20 g21 hD (by rw [← hS4, gs_eq, if_pos rfl]; rfl) (fun k hk => by omega)
  rw [show nI 0 = (0 : Int32) from rfl] at nv np q1 q2 q3
  rw [List.nil_append] at q2 q3
  have ef : f_X8_seekShow S 38 19 = (L_X8_seekShow_104 19 1000 S4 (nI F) 0 (hdI (BS F (gW W) 0 none))).2.2.2 := by
    unfold f_X8_seekShow
    simp only [bd_def]
    rw [eF, e2, hR, hS4, s2, nv]
  rw [ef]
  refine ⟨⟨p_many _ _ _, fun x ex x2 ex2 => ?_, fun x ex x2 ex2 r er S4' e4 => ?_, fun x ex x2 ex2 r er S4' e4 x5 ex5 => ?_⟩, q2, q3⟩
  · rw [← ex2, ← ex, eF, e2]; exact s1
  · rw [← ex2, ← ex, eF, e2, hR] at er
    rw [← er, hS4] at e4
    rw [← e4]; exact np
  · rw [← ex2, ← ex, eF, e2, hR] at er
    rw [← er, hS4] at e4
    rw [← e4, nv] at ex5
    rw [← e4, ← er, s2, ← ex5]; exact q1
