-- needs: 71.both
/-! ===== way: one round of the text ===== -/
noncomputable def Rw (w : Nat) (T : HSt) : HSt := if w ≤ 4 then Rm w T else f_X12_readAct T 64
def pRw (w : Nat) (T : HSt) : Prop := if w ≤ 4 then pRm w T else p_X12_readAct T 64
def mg (g : Nat) : Nat := if g = 4 then 5 else g
theorem mg_le {g : Nat} (h : g ≤ 5) : mg g ≤ 5 ∧ g ≤ mg g := by unfold mg; split <;> omega
def WdI (T : HSt) (w : Nat) : Prop := p_X12_word T 64 ∧ ∀ k, k < 10 → (lg_cmp (f_X12_word T 64) (Int64.ofNat (cV k)) = 0 ↔ gI T 64 16 = 0 ∧ w = k)
theorem m_none {T : HSt} {w g fn : Nat} (hg : g ≤ 5) (h0 : gI T 64 16 = 0) (hW : WdI T w) (hne : ∀ j, mg g ≤ j → j < 5 → w ≠ j) (h13 : ¬ gI T 64 13 = 1) (hR : p_X12_readAct T 64) (hf : 2 ≤ fn) (hf1 : fn ≤ 1000) : ∃ n', fn ≤ n' + 1 ∧ n' ≤ 1000 ∧ Mk (5 - mg g) fn T = Mk (5 - 5) n' (f_X12_readAct T 64) ∧ (pMk (5 - 5) n' (f_X12_readAct T 64) → pMk (5 - mg g) fn T) := by
  obtain ⟨f, rfl⟩ : ∃ f, fn = f + 1 := ⟨fn - 1, by omega⟩
  obtain ⟨n', a1, a2, a3⟩ := m_walk hW.1 hW.2 (5 - mg g) (mg g) 5 (by have := mg_le hg; omega) (Nat.le_refl _) hne f
  refine ⟨n', by omega, by omega, a2.trans ?_, fun h => a3 ?_⟩
  · show g5 (n' + 1) T = g5 n' _
    rw [g5, if_pos h0, if_neg h13]
  · exact fun _ _ => ⟨hR, h⟩
theorem sO_3 {w : Nat} (h : w ≤ 5) : sO w = w := by unfold sO; rw [if_neg (by omega)]
theorem sO_5 {w : Nat} (h : 5 ≤ w) : sO w = 5 := by unfold sO; split <;> omega
theorem m_do {T : HSt} {w g fn : Nat} (h0 : gI T 64 16 = 0) (hW : WdI T w) (hw : w < 10) (hg : g ≤ sO w) (h4 : w = 4 → g ≤ 3) (h13 : ¬ gI T 64 13 = 1) (hR : pRw w T) (hf : 2 ≤ fn) (hf1 : fn ≤ 1000) : ∃ n', fn ≤ n' + 1 ∧ n' ≤ 1000 ∧ Mk (5 - mg g) fn T = Mk (5 - mg (sO w)) n' (Rw w T) ∧ (pMk (5 - mg (sO w)) n' (Rw w T) → pMk (5 - mg g) fn T) := by
  by_cases q5 : 5 ≤ w
  · rw [sO_5 q5] at hg ⊢
    unfold pRw at hR
    unfold Rw
    rw [if_neg (by omega)] at hR ⊢
    exact m_none (by omega) h0 hW (fun j _ h2 => by omega) h13 hR hf hf1
  rw [sO_3 (by omega)] at hg ⊢
  unfold pRw at hR
  unfold Rw
  rw [if_pos (by omega)] at hR ⊢
  obtain ⟨f, rfl⟩ : ∃ f, fn = f + 1 := ⟨fn - 1, by omega⟩
  have eg : mg g = g := by unfold mg; rw [if_neg (by omega)]
  rw [eg]
  obtain ⟨n', a1, a2, a3⟩ := m_walk hW.1 hW.2 (w - g) g w (by omega) (by omega) (fun j _ h2 => by omega) f
  have hlg := (hW.2 w hw).mpr ⟨h0, rfl⟩
  by_cases q4 : w = 4
  · subst q4
    obtain ⟨b1, b2⟩ := m_rule (n' + 1) hW.1 hlg hR
    exact ⟨1000, by omega, by omega, a2.trans b1, fun h => a3 (b2 h)⟩
  · have ew : mg w = w := by unfold mg; rw [if_neg q4]
    rw [ew]
    obtain ⟨b1, b2⟩ := m_go n' (g := w) (by omega) hW.1 hlg hR
    exact ⟨n', by omega, by omega, a2.trans b1, fun h => a3 (b2 h)⟩
theorem t_all {N : Nat} {S T : HSt} {i w : Nat} (hw : w < 10) (hi : i < rom_ (sO w)) (hG : GS N S T) (hc : gI T 69 (sO w) = nI i) (hkw : 5 ≤ w → f_X12_kindOfWord T 64 = nI (w - 3)) (pkw : p_X12_kindOfWord T 64) : p_X4_readThing S 13 (nI w) (nI (sO w)) ∧ pRw w T ∧ (((f_X4_readThing S 13 (nI w) (nI (sO w))).1 = 0 ∧ FE (f_X4_readThing S 13 (nI w) (nI (sO w))).2 (Rw w T)) ∨ ((f_X4_readThing S 13 (nI w) (nI (sO w))).1 = 1 ∧ GS N (f_X4_readThing S 13 (nI w) (nI (sO w))).2 (Rw w T) ∧ ∀ x, x < 6 → gI (Rw w T) 69 x = if x = sO w then nI (i + 1) else gI T 69 x)) := by
  by_cases q5 : 5 ≤ w
  · rw [sO_5 q5] at hi hc ⊢
    unfold pRw Rw
    rw [if_neg (by omega), if_neg (by omega)]
    exact t_act hi ⟨q5, hw⟩ hG hc (hkw q5) pkw
  · rw [sO_3 (by omega)] at hi hc ⊢
    unfold pRw Rw
    rw [if_pos (by omega), if_pos (by omega)]
    have hc5 : w = 0 ∨ w = 1 ∨ w = 2 ∨ w = 3 ∨ w = 4 := by omega
    rcases hc5 with rfl | rfl | rfl | rfl | rfl
    · exact t_rope hi hG hc
    · exact t_horse hi hG hc
    · exact t_beast hi hG hc
    · exact t_form hi hG hc
    · have : i = 0 := by
        have : i < 1 := hi
        omega
      subst this
      exact t_rule hG hc
theorem full_all {N kd b e : Nat} {S T : HSt} {w : Nat} (hX : NX N S T kd b e) (h0 : gI T 64 16 = 0) (hw : w < 10) (h4 : w ≠ 4) (hc : gI T 69 (sO w) = nI (rom_ (sO w))) (hkw : 5 ≤ w → ¬ f_X12_kindOfWord T 64 = -1000000) (pkw : p_X12_kindOfWord T 64) : pRw w T ∧ gI (Rw w T) 64 16 = nI 3 ∧ gI (Rw w T) 64 17 = nI b := by
  by_cases q5 : 5 ≤ w
  · rw [sO_5 q5] at hc
    unfold pRw Rw
    rw [if_neg (by omega), if_neg (by omega)]
    exact full_act hX h0 hc (hkw q5) pkw
  · rw [sO_3 (by omega)] at hc
    unfold pRw Rw
    rw [if_pos (by omega), if_pos (by omega)]
    have hc5 : w = 0 ∨ w = 1 ∨ w = 2 ∨ w = 3 := by omega
    rcases hc5 with rfl | rfl | rfl | rfl
    · exact full_rope hX h0 hc
    · exact full_horse hX h0 hc
    · exact full_beast hX h0 hc
    · exact full_form hX h0 hc
theorem itF_in {n : Nat} {S : HSt} {v1 v2 : Int32} {w : Nat} {rp : Int32} (h1 : ¬ (10 : Int32) ≤ nI w) (h2 : ¬ nI (sO w) < v1) (h3 : nI (sO w) ≤ 0 ∨ ¬ rp = 0) : itF n S v1 v2 w rp = if rR S w = 0 then (if f_X10_isFull S 15 (nI (sO w)) = 0 then (if (f_X4_readThing S 13 (nI w) (nI (sO w))).1 = 0 then (pr 1 (pr 0 (pr (nI (sO w)) (pr v2 (f_X4_readThing S 13 (nI w) (nI (sO w))).2)))) else L_X4_readText_4 n (f_X4_readThing S 13 (nI w) (nI (sO w))).2 (nI (sO w)) (v2 + 1)) else (pr 1 (pr (f_X4_fail S 13 3).1 (pr v1 (pr v2 (f_X4_fail S 13 3).2))))) else (pr 1 (pr (f_X4_fail S 13 1).1 (pr v1 (pr v2 (f_X4_fail S 13 1).2)))) := by
  unfold itF
  rw [if_neg h1, if_neg h2]
  by_cases q : nI (sO w) ≤ 0
  · rw [if_pos q]
  · rw [if_neg q, if_neg (h3.resolve_left q)]
def Gd (N : Nat) (c7 : Int32) (S T : HSt) : Prop := GS N S T ∧ 1 ≤ (gI T 69 0).toInt ∧ gI S 13 7 = c7
def RES (N : Nat) (c7 : Int32) (n : Nat) (S : HSt) (g k : Nat) (D : HSt) (P : Prop) : Prop := T_X4_readText_4 n S (nI g) (nI k) ∧ (L_X4_readText_4 n S (nI g) (nI k)).1 = 1 ∧ P ∧ (((L_X4_readText_4 n S (nI g) (nI k)).2.1 = 0 ∧ FE (L_X4_readText_4 n S (nI g) (nI k)).2.2.2.2 D) ∨ ((L_X4_readText_4 n S (nI g) (nI k)).2.1 = 1 ∧ Gd N c7 (L_X4_readText_4 n S (nI g) (nI k)).2.2.2.2 D))
def cntr (T : HSt) : Int := (gI T 69 0).toInt + (gI T 69 1).toInt + (gI T 69 2).toInt + (gI T 69 3).toInt + (gI T 69 4).toInt + (gI T 69 5).toInt
def IHm (N : Nat) (c7 : Int32) (m : Nat) : Prop := ∀ (g n k fn : Nat) (S T : HSt), GS N S T → gI S 13 7 = c7 → 1 ≤ (gI T 69 0).toInt → g ≤ 5 → (g ≤ 3 → gI T 69 4 = nI 0) → (g = 4 → gI T 69 4 = nI 1) → cntr T + m = 37 → k + m ≤ 600 → m < n → m + 1 < fn → fn ≤ 1000 → RES N c7 n S g k (Mk (5 - mg g) fn T) (pMk (5 - mg g) fn T)
theorem r_fail {c7 : Int32} {N kd b e n g k c : Nat} {S D : HSt} {T : HSt} {P : Prop} (hX : NX N S T kd b e) (c1 : 1 ≤ c) (c3 : c ≤ 3) (hT' : T_X4_readText_4 n S (nI g) (nI k)) (eL : L_X4_readText_4 n S (nI g) (nI k) = pr 1 (pr (f_X4_fail S 13 (nI c)).1 (pr (nI g) (pr (nI k) (f_X4_fail S 13 (nI c)).2)))) (hP : P) (h16 : gI D 64 16 = nI c) (h17 : gI D 64 17 = nI b) : RES N c7 n S g k D P := by
  unfold RES
  rw [eL]
  exact ⟨hT', rfl, hP, Or.inl ⟨rfl, fail_at hX c1 c3 h16 h17⟩⟩
theorem nI_c13 {c : Nat} (h1 : 1 ≤ c) (h3 : c ≤ 3) : 0 < (nI c).toInt := by rw [nI_ti (by omega)]; omega
theorem r_none {c7 : Int32} {N kd b e n g k fn : Nat} {S T : HSt} {w : Nat} (hg : g ≤ 5) (hX : NX N S T kd b e) (h0 : gI T 64 16 = 0) (h13 : ¬ gI T 64 13 = 1) (hW : WdI T w) (hne : ∀ j, mg g ≤ j → j < 5 → w ≠ j) (hw5 : ¬ (5 ≤ w ∧ w < 10)) (hf : 2 ≤ fn) (hf1 : fn ≤ 1000) (hT' : T_X4_readText_4 n S (nI g) (nI k)) (eL : L_X4_readText_4 n S (nI g) (nI k) = pr 1 (pr (f_X4_fail S 13 (nI 1)).1 (pr (nI g) (pr (nI k) (f_X4_fail S 13 (nI 1)).2)))) : RES N c7 n S g k (Mk (5 - mg g) fn T) (pMk (5 - mg g) fn T) := by
  have hk : f_X12_kindOfWord T 64 = -1000000 := by rw [kind_w h0 hW.2, if_neg hw5]
  obtain ⟨p1, p2, p3⟩ := none_act hX h0 hk hW.1
  obtain ⟨n', a0, -, a2, a3⟩ := m_none hg h0 hW hne h13 p1 (by omega) hf1
  obtain ⟨n2, rfl⟩ : ∃ n2, n' = n2 + 1 := ⟨n' - 1, by omega⟩
  obtain ⟨c1, c2⟩ := g5_f n2 (T := f_X12_readAct T 64) (by rw [p2]; exact nI_c13 (by omega) (by omega))
  have e1 : Mk (5 - mg g) fn T = f_X12_readAct T 64 := a2.trans c1
  exact r_fail hX (by omega) (by omega) hT' eL (a3 c2) (by rw [e1]; exact p2) (by rw [e1]; exact p3)
