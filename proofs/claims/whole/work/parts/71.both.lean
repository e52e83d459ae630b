-- needs: 70.text
/-! ===== way: the model's stages ===== -/
def MI (N : Nat) (T : HSt) : Prop := ∃ S, TP N S T ∧ ∃ kd b e, NX N S T kd b e
theorem MI.eq {N : Nat} {T T' : HSt} (h : MI N T) (h70 : gI T' 70 = gI T 70) (h64 : ∀ k, 11 ≤ k → k ≤ 15 → gI T' 64 k = gI T 64 k) : MI N T' := by
  obtain ⟨S, hT, kd, b, e, hX⟩ := h
  have hb : bt T' = bt T := by funext k; unfold bt; rw [h70]
  refine ⟨S, ⟨hT.1, (h64 11 (by omega) (by omega)).trans hT.2.1, hT.2.2.1, by rw [h70]; exact hT.2.2.2⟩, kd, b, e, hX.1, ⟨(h64 12 (by omega) (by omega)).trans hX.2.1.1, (h64 13 (by omega) (by omega)).trans hX.2.1.2.1, (h64 14 (by omega) (by omega)).trans hX.2.1.2.2.1, (h64 15 (by omega) (by omega)).trans hX.2.1.2.2.2⟩, hX.2.2.1, by rw [hb]; exact hX.2.2.2.1, by rw [hb]; exact hX.2.2.2.2⟩
theorem MI.next {N : Nat} {T : HSt} (h : MI N T) : MI N (f_X12_next T 64) := by
  obtain ⟨S, hT, kd, b, e, hX⟩ := h
  obtain ⟨-, -, h3, h4⟩ := next_R hT hX.1.2.2 hX.2.1.1 hX.2.2.1.2.1
  exact ⟨_, h3, h4⟩
theorem MI.s69 {N : Nat} {T : HSt} (h : MI N T) (k : Nat) (v : Int32) : MI N (sI T 69 k v) :=
  h.eq (gs_ne (by decide)) (fun k _ _ => by rw [gs_ne (show (64 : Nat) ≠ 69 by decide)])
theorem MI.bad {N : Nat} {T : HSt} (h : MI N T) (c : Int32) : MI N (f_X12_bad T 64 c) := by
  by_cases q : gI T 64 16 = 0
  · rw [bad_0 q]
    refine h.eq (by rw [gs_ne (show (70 : Nat) ≠ 64 by decide), gs_ne (show (70 : Nat) ≠ 64 by decide)]) (fun k h1 h2 => ?_)
    rw [gs_o (by omega), gs_o (by omega)]
  · rw [bad_1 q]; exact h
theorem MI_ite {N : Nat} {c : Prop} [Decidable c] {A B : HSt} (ha : MI N A) (hb : MI N B) : MI N (if c then A else B) := by
  by_cases q : c
  · rw [if_pos q]; exact ha
  · rw [if_neg q]; exact hb
theorem MI.must {N : Nat} {T : HSt} (h : MI N T) (x : Int32) : MI N (f_X12_must T 64 x) := by
  unfold f_X12_must
  simp only [bd_def]
  exact MI_ite (MI.next (MI_ite (h.bad 1) h)) (MI_ite (h.bad 1) h)
theorem MI.number {N : Nat} {T : HSt} (h : MI N T) (a lo hi : Int32) : MI N (f_X12_number T 64 a lo hi) := by
  unfold f_X12_number
  simp only [bd_def]
  exact MI_ite (MI_ite (MI.s69 (MI.must (MI_ite (MI_ite (h.bad 2) h) h) _) _ _) (MI.must (MI_ite (MI_ite (h.bad 2) h) h) _)) h
theorem MI.begins {N : Nat} {T : HSt} (h : MI N T) (a b c d : Int32) : MI N (f_X12_begins T 64 a b c d).2 := by
  unfold f_X12_begins
  simp only [bd_def]
  exact MI.must (MI_ite (h.bad 3) h) 1
theorem MI.ends {N : Nat} {T : HSt} (h : MI N T) (a : Int32) : MI N (f_X12_ends T 64 a) := by
  unfold f_X12_ends
  simp only [bd_def]
  exact MI.s69 (MI_ite (MI.must h _) h) _ _
noncomputable def Rm (j : Nat) (T : HSt) : HSt := match j with | 0 => f_X12_readRope T 64 | 1 => f_X12_readHorse T 64 | 2 => f_X12_readBeast T 64 | 3 => f_X12_readForm T 64 | _ => f_X12_readRule T 64
def pRm (j : Nat) (T : HSt) : Prop := match j with | 0 => p_X12_readRope T 64 | 1 => p_X12_readHorse T 64 | 2 => p_X12_readBeast T 64 | 3 => p_X12_readForm T 64 | _ => p_X12_readRule T 64
theorem MI.Rm {N : Nat} {T : HSt} (h : MI N T) : ∀ j, j ≤ 3 → MI N (Rm j T) := by
  intro j hj
  match j, hj with
  | 0, _ => show MI N (f_X12_readRope T 64); unfold f_X12_readRope; simp only [bd_def]; exact MI.ends (MI.number (MI.number (MI.number (h.begins _ _ _ _) _ _ _) _ _ _) _ _ _) _
  | 1, _ => show MI N (f_X12_readHorse T 64); unfold f_X12_readHorse; simp only [bd_def]; exact MI.ends (MI.number (MI.number (MI.number (h.begins _ _ _ _) _ _ _) _ _ _) _ _ _) _
  | 2, _ => show MI N (f_X12_readBeast T 64); unfold f_X12_readBeast; simp only [bd_def]; exact MI.ends (MI.number (MI.number (MI.number (MI.number (MI.number (h.begins _ _ _ _) _ _ _) _ _ _) _ _ _) _ _ _) _ _ _) _
  | 3, _ => show MI N (f_X12_readForm T 64); unfold f_X12_readForm; simp only [bd_def]; exact MI.ends (MI.number (MI.number (MI.number (MI.number (h.begins _ _ _ _) _ _ _) _ _ _) _ _ _) _ _ _) _
noncomputable def gl (j : Nat) : Nat → HSt → HSt
  | 0, T => T
  | n + 1, T => if lg_cmp (f_X12_word T 64) (Int64.ofNat (cV j)) = 0 then gl j n (Rm j T) else T
def pgl (j : Nat) : Nat → HSt → Prop
  | 0, _ => False
  | n + 1, T => p_X12_word T 64 ∧ (lg_cmp (f_X12_word T 64) (Int64.ofNat (cV j)) = 0 → pRm j T ∧ pgl j n (Rm j T))
noncomputable def g5 : Nat → HSt → HSt
  | 0, T => T
  | n + 1, T => if gI T 64 16 = 0 then (if gI T 64 13 = (1 : Int32) then T else g5 n (f_X12_readAct T 64)) else T
def pg5 : Nat → HSt → Prop
  | 0, _ => False
  | n + 1, T => gI T 64 16 = 0 → ¬ gI T 64 13 = (1 : Int32) → p_X12_readAct T 64 ∧ pg5 n (f_X12_readAct T 64)
theorem cJ : (1919905893 : Int64) = Int64.ofNat (cV 0) ∧ (448546370405 : Int64) = Int64.ofNat (cV 1) ∧ (422607680372 : Int64) = Int64.ofNat (cV 2) ∧ (1718579821 : Int64) = Int64.ofNat (cV 3) ∧ (1920298085 : Int64) = Int64.ofNat (cV 4) ∧ (1936746862 : Int64) = Int64.ofNat (cV 5) ∧ (495873781348 : Int64) = Int64.ofNat (cV 6) ∧ (1718378868 : Int64) = Int64.ofNat (cV 7) ∧ (1701078885 : Int64) = Int64.ofNat (cV 8) ∧ (427021005669 : Int64) = Int64.ofNat (cV 9) := by
  obtain ⟨h0, h1, h2, h3, h4, h5, h6, h7, h8, h9⟩ := cV_v
  rw [h0, h1, h2, h3, h4, h5, h6, h7, h8, h9]
  exact ⟨rfl, rfl, rfl, rfl, rfl, rfl, rfl, rfl, rfl, rfl⟩
theorem L96 : ∀ (n : Nat) (T : HSt) (v : Int32), L_X12_way_96 n T v = (v, gl 0 n T) ∧ (pgl 0 n T → T_X12_way_96 n T v) := by
  intro n
  induction n with
  | zero => exact fun T v => ⟨rfl, fun h => h⟩
  | succ n ih =>
    intro T v
    unfold L_X12_way_96 T_X12_way_96
    rw [cJ.1]
    constructor
    · rw [gl]; split
      · rw [bd_def]; exact (ih _ _).1
      · rfl
    · exact fun h => ⟨h.1, fun q => (h.2 q).1, fun q r e => by rw [← e]; exact (ih _ _).2 (h.2 q).2⟩
theorem L114 : ∀ (n : Nat) (T : HSt) (v : Int32), L_X12_way_114 n T v = (v, gl 1 n T) ∧ (pgl 1 n T → T_X12_way_114 n T v) := by
  intro n
  induction n with
  | zero => exact fun T v => ⟨rfl, fun h => h⟩
  | succ n ih =>
    intro T v
    unfold L_X12_way_114 T_X12_way_114
    rw [cJ.2.1]
    constructor
    · rw [gl]; split
      · rw [bd_def]; exact (ih _ _).1
      · rfl
    · exact fun h => ⟨h.1, fun q => (h.2 q).1, fun q r e => by rw [← e]; exact (ih _ _).2 (h.2 q).2⟩
theorem L132 : ∀ (n : Nat) (T : HSt) (v : Int32), L_X12_way_132 n T v = (v, gl 2 n T) ∧ (pgl 2 n T → T_X12_way_132 n T v) := by
  intro n
  induction n with
  | zero => exact fun T v => ⟨rfl, fun h => h⟩
  | succ n ih =>
    intro T v
    unfold L_X12_way_132 T_X12_way_132
    rw [cJ.2.2.1]
    constructor
    · rw [gl]; split
      · rw [bd_def]; exact (ih _ _).1
      · rfl
    · exact fun h => ⟨h.1, fun q => (h.2 q).1, fun q r e => by rw [← e]; exact (ih _ _).2 (h.2 q).2⟩
theorem L150 : ∀ (n : Nat) (T : HSt) (v : Int32), L_X12_way_150 n T v = (v, gl 3 n T) ∧ (pgl 3 n T → T_X12_way_150 n T v) := by
  intro n
  induction n with
  | zero => exact fun T v => ⟨rfl, fun h => h⟩
  | succ n ih =>
    intro T v
    unfold L_X12_way_150 T_X12_way_150
    rw [cJ.2.2.2.1]
    constructor
    · rw [gl]; split
      · rw [bd_def]; exact (ih _ _).1
      · rfl
    · exact fun h => ⟨h.1, fun q => (h.2 q).1, fun q r e => by rw [← e]; exact (ih _ _).2 (h.2 q).2⟩
theorem L183 : ∀ (n : Nat) (T : HSt) (v : Int32), (L_X12_way_183 n T v).2 = g5 n T ∧ (pg5 n T → T_X12_way_183 n T v) := by
  intro n
  induction n with
  | zero => exact fun T v => ⟨rfl, fun h => h⟩
  | succ n ih =>
    intro T v
    unfold L_X12_way_183 T_X12_way_183
    constructor
    · rw [g5]
      by_cases q : gI T 64 16 = 0
      · rw [if_pos q, if_pos q]
        by_cases q2 : gI T 64 13 = (1 : Int32)
        · rw [if_pos q2, if_pos q2]; rfl
        · rw [if_neg q2, if_neg q2, bd_def]; exact (ih _ _).1
      · rw [if_neg q, if_neg q]; rfl
    · exact fun h => ⟨fun q1 q2 => (h q1 q2).1, fun q1 q2 r e => by rw [← e]; exact (ih _ _).2 (h q1 q2).2⟩
/-- the model from a stage on: 5 - k is the stage -/
noncomputable def Mk : Nat → Nat → HSt → HSt
  | 0, n, T => g5 n T
  | 1, _, T => g5 1000 (if lg_cmp (f_X12_word T 64) (Int64.ofNat (cV 4)) = 0 then Rm 4 T else T)
  | k + 2, n, T => Mk (k + 1) 1000 (gl (3 - k) n T)
def pMk : Nat → Nat → HSt → Prop
  | 0, n, T => pg5 n T
  | 1, _, T => p_X12_word T 64 ∧ (lg_cmp (f_X12_word T 64) (Int64.ofNat (cV 4)) = 0 → pRm 4 T) ∧ pg5 1000 (if lg_cmp (f_X12_word T 64) (Int64.ofNat (cV 4)) = 0 then Rm 4 T else T)
  | k + 2, n, T => pgl (3 - k) n T ∧ pMk (k + 1) 1000 (gl (3 - k) n T)
theorem m_pass {T : HSt} (n : Nat) {g : Nat} (hg : g ≤ 4) (hp : p_X12_word T 64) (hw : ¬ lg_cmp (f_X12_word T 64) (Int64.ofNat (cV g)) = 0) : Mk (5 - g) (n + 1) T = Mk (5 - (g + 1)) 1000 T ∧ (pMk (5 - (g + 1)) 1000 T → pMk (5 - g) (n + 1) T) := by
  have eg : g = 4 ∨ ∃ k, k ≤ 3 ∧ g = 3 - k ∧ 5 - g = k + 2 ∧ 5 - (g + 1) = k + 1 := by
    by_cases q : g = 4
    · exact Or.inl q
    · exact Or.inr ⟨3 - g, by omega, by omega, by omega, by omega⟩
  rcases eg with rfl | ⟨k, hk, e1, e2, e3⟩
  · show g5 1000 _ = g5 1000 T ∧ _
    rw [if_neg hw]
    refine ⟨rfl, fun h => ⟨hp, fun q => absurd q hw, ?_⟩⟩
    rw [if_neg hw]; exact h
  · rw [e2, e3, Mk, pMk, ← e1]
    have : gl g (n + 1) T = T := by rw [gl, if_neg hw]
    rw [this]
    exact ⟨rfl, fun h => ⟨⟨hp, fun q => absurd q hw⟩, h⟩⟩
theorem m_go {T : HSt} (n : Nat) {g : Nat} (hg : g ≤ 3) (hp : p_X12_word T 64) (hw : lg_cmp (f_X12_word T 64) (Int64.ofNat (cV g)) = 0) (hR : pRm g T) : Mk (5 - g) (n + 1) T = Mk (5 - g) n (Rm g T) ∧ (pMk (5 - g) n (Rm g T) → pMk (5 - g) (n + 1) T) := by
  obtain ⟨k, hk, e1, e2⟩ : ∃ k, k ≤ 3 ∧ g = 3 - k ∧ 5 - g = k + 2 := ⟨3 - g, by omega, by omega, by omega⟩
  rw [e2, Mk, Mk, pMk, pMk, ← e1]
  have : gl g (n + 1) T = gl g n (Rm g T) := by rw [gl, if_pos hw]
  rw [this]
  exact ⟨rfl, fun h => ⟨⟨hp, fun _ => ⟨hR, h.1⟩⟩, h.2⟩⟩
theorem m_rule {T : HSt} (n : Nat) (hp : p_X12_word T 64) (hw : lg_cmp (f_X12_word T 64) (Int64.ofNat (cV 4)) = 0) (hR : pRm 4 T) : Mk (5 - 4) n T = Mk (5 - 5) 1000 (Rm 4 T) ∧ (pMk (5 - 5) 1000 (Rm 4 T) → pMk (5 - 4) n T) := by
  show g5 1000 _ = g5 1000 _ ∧ _
  rw [if_pos hw]
  refine ⟨rfl, fun h => ⟨hp, fun _ => hR, ?_⟩⟩
  rw [if_pos hw]; exact h
theorem word_f {N : Nat} {T : HSt} (h : MI N T) (hf : 0 < (gI T 64 16).toInt) : p_X12_word T 64 ∧ ∀ k, k < 10 → ¬ lg_cmp (f_X12_word T 64) (Int64.ofNat (cV k)) = 0 := by
  obtain ⟨S, hT, kd, b, e, hX⟩ := h
  obtain ⟨w, -, -, h3, h4⟩ := words hT hX (Or.inr hf)
  refine ⟨h3, fun k hk q => ?_⟩
  have := ((h4 k hk).mp q).1
  rw [this] at hf
  exact absurd hf (by decide)
theorem g5_f {T : HSt} (n : Nat) (hf : 0 < (gI T 64 16).toInt) : g5 (n + 1) T = T ∧ pg5 (n + 1) T := by
  have hz : ¬ gI T 64 16 = 0 := fun q => by rw [q] at hf; exact absurd hf (by decide)
  rw [g5, if_neg hz]
  exact ⟨rfl, fun q => absurd q hz⟩
theorem m_fault {N : Nat} {T : HSt} (hf : 0 < (gI T 64 16).toInt) {g : Nat} (hg : g ≤ 5) (h : g ≤ 4 → MI N T) (n : Nat) : Mk (5 - g) (n + 1) T = T ∧ pMk (5 - g) (n + 1) T := by
  by_cases q : g = 5
  · subst q; exact g5_f n hf
  · have hM := h (by omega)
    obtain ⟨w1, w2⟩ := word_f hM hf
    have aux : ∀ d g, d + g = 5 → ∀ n, Mk (5 - g) (n + 1) T = T ∧ pMk (5 - g) (n + 1) T := by
      intro d
      induction d with
      | zero => intro g hd n; have : g = 5 := by omega
                subst this; exact g5_f n hf
      | succ d ih =>
        intro g hd n
        obtain ⟨a1, a2⟩ := m_pass n (g := g) (by omega) w1 (w2 g (by omega))
        obtain ⟨b1, b2⟩ := ih (g + 1) (by omega) 999
        exact ⟨a1.trans b1, a2 b2⟩
    exact aux (5 - g) g (by omega) n
theorem m_walk {T : HSt} {w : Nat} (hp : p_X12_word T 64) (hw : ∀ k, k < 10 → (lg_cmp (f_X12_word T 64) (Int64.ofNat (cV k)) = 0 ↔ gI T 64 16 = 0 ∧ w = k)) : ∀ d g h, d + g = h → h ≤ 5 → (∀ j, g ≤ j → j < h → w ≠ j) → ∀ n, ∃ n', (n' = n ∨ n' = 999) ∧ Mk (5 - g) (n + 1) T = Mk (5 - h) (n' + 1) T ∧ (pMk (5 - h) (n' + 1) T → pMk (5 - g) (n + 1) T) := by
  intro d
  induction d with
  | zero => intro g h hd _ _ n
            have : g = h := by omega
            subst this
            exact ⟨n, Or.inl rfl, rfl, fun h => h⟩
  | succ d ih =>
    intro g h hd h5 hj n
    obtain ⟨a1, a2⟩ := m_pass n (g := g) (by omega) hp (fun q => hj g (by omega) (by omega) ((hw g (by omega)).mp q).2)
    obtain ⟨n', b1, b2, b3⟩ := ih (g + 1) h (by omega) h5 (fun j h1 h2 => hj j (by omega) h2) 999
    exact ⟨n', Or.inr (by omega), a1.trans b2, fun q => a2 (b3 q)⟩
/-- the kind of a word -/
theorem kind_w {T : HSt} {w : Nat} (h0 : gI T 64 16 = 0) (hw : ∀ k, k < 10 → (lg_cmp (f_X12_word T 64) (Int64.ofNat (cV k)) = 0 ↔ gI T 64 16 = 0 ∧ w = k)) : f_X12_kindOfWord T 64 = if 5 ≤ w ∧ w < 10 then nI (w - 3) else -1000000 := by
  have hk : ∀ k, k < 10 → (lg_cmp (f_X12_word T 64) (Int64.ofNat (cV k)) = 0 ↔ w = k) := fun k h => (hw k h).trans ⟨fun q => q.2, fun q => ⟨h0, q⟩⟩
  obtain ⟨-, -, -, -, -, c5, c6, c7, c8, c9⟩ := cJ
  show (F_X12_kindOfWord T 64).1 = _
  unfold F_X12_kindOfWord
  simp only [bd_def]
  rw [pr_1, c5, c6, c7, c8, c9]
  simp only [hk 5 (by decide), hk 6 (by decide), hk 7 (by decide), hk 8 (by decide), hk 9 (by decide)]
  by_cases q5 : w = 5
  · subst q5; rfl
  rw [if_neg q5]
  by_cases q6 : w = 6
  · subst q6; rfl
  rw [if_neg q6]
  by_cases q7 : w = 7
  · subst q7; rfl
  rw [if_neg q7]
  by_cases q8 : w = 8
  · subst q8; rfl
  rw [if_neg q8]
  by_cases q9 : w = 9
  · subst q9; rfl
  rw [if_neg q9, if_neg (by omega)]
