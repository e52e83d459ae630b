-- needs: 39.count 35.image
/-! ===== way: tokens on both sides ===== -/
def bt (T : HSt) (k : Nat) : Nat := (gI T 70 k).toInt.toNat
def TP (N : Nat) (S T : HSt) : Prop := gI S 13 2 = nI N ∧ gI T 64 11 = nI N ∧ N ≤ 600 ∧ ∀ k, k < 600 → (0 ≤ (gI T 70 k).toInt ∧ (gI T 70 k).toInt ≤ 255) ∧ gI S 14 k = (gI T 70 k).toInt8.toInt32
theorem TP.of {N : Nat} {S S' T T' : HSt} (h1 : gI S' 13 2 = gI S 13 2) (h2 : gI S' 14 = gI S 14) (h3 : gI T' 64 11 = gI T 64 11) (h4 : gI T' 70 = gI T 70) (h : TP N S T) : TP N S' T' := by
  unfold TP
  rw [h1, h2, h3, h4]
  exact h
theorem bt_of {T T' : HSt} (h : gI T' 70 = gI T 70) : bt T' = bt T := by unfold bt; rw [h]
theorem sb_ti : ∀ c, c < 256 → ((nI c).toInt8.toInt32).toInt = if c < 128 then (c : Int) else (c : Int) - 256 := by decide +kernel
theorem TP.m {N : Nat} {S T : HSt} (h : TP N S T) {k : Nat} (hk : k < 600) : gI T 70 k = nI (bt T k) ∧ bt T k < 256 := by
  obtain ⟨⟨h1, h2⟩, -⟩ := h.2.2.2 k hk
  unfold bt
  refine ⟨?_, by omega⟩
  rw [ti_eq, nI_ti (by omega)]
  omega
theorem TP.c {N : Nat} {S T : HSt} (h : TP N S T) {k : Nat} (hk : k < 600) : (gI S 14 k).toInt = if bt T k < 128 then (bt T k : Int) else (bt T k : Int) - 256 := by
  obtain ⟨e, hb⟩ := h.m hk
  rw [(h.2.2.2 k hk).2, e]
  exact sb_ti _ hb
theorem TP.ce {N : Nat} {S T : HSt} (h : TP N S T) {k : Nat} (hk : k < 600) {d : Nat} (hd : d < 128) : (gI S 14 k = nI d ↔ bt T k = d) ∧ (gI T 70 k = nI d ↔ bt T k = d) := by
  have hc := h.c hk
  obtain ⟨e, hb⟩ := h.m hk
  constructor
  · rw [ti_eq, hc, nI_ti (by omega)]
    split <;> omega
  · rw [e, ti_eq, nI_ti (by omega), nI_ti (by omega)]
    omega
def Lb (c : Nat) : Prop := 97 ≤ c ∧ c ≤ 122
def Fb (c : Nat) : Prop := 48 ≤ c ∧ c ≤ 57
def Wb (c : Nat) : Prop := c = 32 ∨ c = 10
theorem let_c {N : Nat} {S T : HSt} (h : TP N S T) {p : Nat} (hp : p ≤ 600) : (¬ f_X4_isLetter S 13 (nI p) = 0 ↔ p < N ∧ Lb (bt T p)) ∧ p_X4_isLetter S 13 (nI p) := by
  have hN := h.2.2.1
  have z0 : ¬ nI p < 0 := nI_pos (by omega)
  have zN : gI S 13 2 ≤ nI p ↔ N ≤ p := by rw [h.1, ti_le, nI_ti (by omega), nI_ti (by omega)]; omega
  have hv : ¬ gI S 13 2 ≤ nI p → vp_in (nI p) 600 := fun q => vp_in_nI (by have : ¬ N ≤ p := fun z => q (zN.mpr z); omega) (by omega)
  refine ⟨?_, fun _ q => hv q, fun _ q _ => hv q⟩
  show ¬ (if nI p < 0 then (0 : Int32) else if gI S 13 2 ≤ nI p then 0 else if gI S 14 (nI p).toNatClampNeg < 97 then 0 else if (122 : Int32) < gI S 14 (nI p).toNatClampNeg then 0 else 1) = 0 ↔ _
  rw [if_neg z0]
  by_cases c : N ≤ p
  · rw [if_pos (zN.mpr c)]
    exact ⟨fun q => absurd rfl q, fun q => by omega⟩
  · rw [if_neg (fun q => c (zN.mp q)), nI_clamp' (by omega)]
    have hc := h.c (k := p) (by omega)
    unfold Lb
    by_cases c1 : gI S 14 p < 97
    · rw [if_pos c1]
      rw [ti_lt, hc, show (97 : Int32).toInt = 97 from rfl] at c1
      refine ⟨fun q => absurd rfl q, fun q => ?_⟩
      split at c1 <;> omega
    · rw [if_neg c1]
      rw [ti_lt, hc, show (97 : Int32).toInt = 97 from rfl] at c1
      by_cases c2 : (122 : Int32) < gI S 14 p
      · rw [if_pos c2]
        rw [ti_lt, hc, show (122 : Int32).toInt = 122 from rfl] at c2
        refine ⟨fun q => absurd rfl q, fun q => ?_⟩
        split at c2 <;> omega
      · rw [if_neg c2]
        rw [ti_lt, hc, show (122 : Int32).toInt = 122 from rfl] at c2
        refine ⟨fun _ => ?_, fun _ => one_ne⟩
        have := (h.m (k := p) (by omega)).2
        split at c1 <;> split at c2 <;> omega
theorem fig_c {N : Nat} {S T : HSt} (h : TP N S T) {p : Nat} (hp : p ≤ 600) : (¬ f_X4_isFigure S 13 (nI p) = 0 ↔ p < N ∧ Fb (bt T p)) ∧ p_X4_isFigure S 13 (nI p) := by
  have hN := h.2.2.1
  have z0 : ¬ nI p < 0 := nI_pos (by omega)
  have zN : gI S 13 2 ≤ nI p ↔ N ≤ p := by rw [h.1, ti_le, nI_ti (by omega), nI_ti (by omega)]; omega
  have hv : ¬ gI S 13 2 ≤ nI p → vp_in (nI p) 600 := fun q => vp_in_nI (by have : ¬ N ≤ p := fun z => q (zN.mpr z); omega) (by omega)
  refine ⟨?_, fun _ q => hv q, fun _ q _ => hv q⟩
  show ¬ (if nI p < 0 then (0 : Int32) else if gI S 13 2 ≤ nI p then 0 else if gI S 14 (nI p).toNatClampNeg < 48 then 0 else if (57 : Int32) < gI S 14 (nI p).toNatClampNeg then 0 else 1) = 0 ↔ _
  rw [if_neg z0]
  by_cases c : N ≤ p
  · rw [if_pos (zN.mpr c)]
    exact ⟨fun q => absurd rfl q, fun q => by omega⟩
  · rw [if_neg (fun q => c (zN.mp q)), nI_clamp' (by omega)]
    have hc := h.c (k := p) (by omega)
    unfold Fb
    by_cases c1 : gI S 14 p < 48
    · rw [if_pos c1]
      rw [ti_lt, hc, show (48 : Int32).toInt = 48 from rfl] at c1
      refine ⟨fun q => absurd rfl q, fun q => ?_⟩
      split at c1 <;> omega
    · rw [if_neg c1]
      rw [ti_lt, hc, show (48 : Int32).toInt = 48 from rfl] at c1
      by_cases c2 : (57 : Int32) < gI S 14 p
      · rw [if_pos c2]
        rw [ti_lt, hc, show (57 : Int32).toInt = 57 from rfl] at c2
        refine ⟨fun q => absurd rfl q, fun q => ?_⟩
        split at c2 <;> omega
      · rw [if_neg c2]
        rw [ti_lt, hc, show (57 : Int32).toInt = 57 from rfl] at c2
        refine ⟨fun _ => ?_, fun _ => one_ne⟩
        have := (h.m (k := p) (by omega)).2
        split at c1 <;> split at c2 <;> omega
theorem byte_m {N : Nat} {S T : HSt} (h : TP N S T) {p : Nat} (hp : p ≤ 600) : f_X12_byteAt T 64 (nI p) = (if p < N then nI (bt T p) else -1000000) ∧ p_X12_byteAt T 64 (nI p) := by
  have hN := h.2.2.1
  have zN : gI T 64 11 ≤ nI p ↔ N ≤ p := by rw [h.2.1, ti_le, nI_ti (by omega), nI_ti (by omega)]; omega
  refine ⟨?_, fun q => vp_in_nI (by have : ¬ N ≤ p := fun z => q (zN.mpr z); omega) (by omega)⟩
  show (if gI T 64 11 ≤ nI p then (-1000000 : Int32) else gI T 70 (nI p).toNatClampNeg) = _
  by_cases c : N ≤ p
  · rw [if_pos (zN.mpr c), if_neg (by omega)]
  · rw [if_neg (fun q => c (zN.mp q)), if_pos (by omega), nI_clamp' (by omega), (h.m (by omega)).1]
theorem let_m {N : Nat} {S T : HSt} (h : TP N S T) {p : Nat} (hp : p ≤ 600) (X : HSt) : ¬ f_X12_isLetter X (if p < N then nI (bt T p) else -1000000) = 0 ↔ p < N ∧ Lb (bt T p) := by
  have hN := h.2.2.1
  show ¬ (if (if p < N then nI (bt T p) else -1000000) < (97 : Int32) then (0 : Int32) else if (122 : Int32) < (if p < N then nI (bt T p) else -1000000) then 0 else 1) = 0 ↔ _
  by_cases c : p < N
  · have hb := (h.m (k := p) (by omega)).2
    rw [if_pos c]
    unfold Lb
    by_cases c1 : nI (bt T p) < (97 : Int32)
    · rw [if_pos c1]
      rw [ti_lt, nI_ti (by omega), show (97 : Int32).toInt = 97 from rfl] at c1
      exact ⟨fun q => absurd rfl q, fun q => by omega⟩
    · rw [if_neg c1]
      rw [ti_lt, nI_ti (by omega), show (97 : Int32).toInt = 97 from rfl] at c1
      by_cases c2 : (122 : Int32) < nI (bt T p)
      · rw [if_pos c2]
        rw [ti_lt, nI_ti (by omega), show (122 : Int32).toInt = 122 from rfl] at c2
        exact ⟨fun q => absurd rfl q, fun q => by omega⟩
      · rw [if_neg c2]
        rw [ti_lt, nI_ti (by omega), show (122 : Int32).toInt = 122 from rfl] at c2
        exact ⟨fun _ => by omega, fun _ => one_ne⟩
  · rw [if_neg c, if_pos (by decide)]
    exact ⟨fun q => absurd rfl q, fun q => absurd q.1 c⟩
theorem fig_m {N : Nat} {S T : HSt} (h : TP N S T) {p : Nat} (hp : p ≤ 600) (X : HSt) : ¬ f_X12_isFigure X (if p < N then nI (bt T p) else -1000000) = 0 ↔ p < N ∧ Fb (bt T p) := by
  have hN := h.2.2.1
  show ¬ (if (if p < N then nI (bt T p) else -1000000) < (48 : Int32) then (0 : Int32) else if (57 : Int32) < (if p < N then nI (bt T p) else -1000000) then 0 else 1) = 0 ↔ _
  by_cases c : p < N
  · have hb := (h.m (k := p) (by omega)).2
    rw [if_pos c]
    unfold Fb
    by_cases c1 : nI (bt T p) < (48 : Int32)
    · rw [if_pos c1]
      rw [ti_lt, nI_ti (by omega), show (48 : Int32).toInt = 48 from rfl] at c1
      exact ⟨fun q => absurd rfl q, fun q => by omega⟩
    · rw [if_neg c1]
      rw [ti_lt, nI_ti (by omega), show (48 : Int32).toInt = 48 from rfl] at c1
      by_cases c2 : (57 : Int32) < nI (bt T p)
      · rw [if_pos c2]
        rw [ti_lt, nI_ti (by omega), show (57 : Int32).toInt = 57 from rfl] at c2
        exact ⟨fun q => absurd rfl q, fun q => by omega⟩
      · rw [if_neg c2]
        rw [ti_lt, nI_ti (by omega), show (57 : Int32).toInt = 57 from rfl] at c2
        exact ⟨fun _ => by omega, fun _ => one_ne⟩
  · rw [if_neg c, if_pos (by decide)]
    exact ⟨fun q => absurd rfl q, fun q => absurd q.1 c⟩
/-- blanks -/
theorem skip_L {N : Nat} : ∀ (n p : Nat) (S T : HSt), TP N S T → gI S 13 4 = nI p → gI T 64 12 = nI p → p ≤ N → N - p < n → T_X4_next_8 n S ∧ T_X12_next_0 n T ∧ ∃ q, p ≤ q ∧ q ≤ N ∧ gI (L_X4_next_8 n S) 13 4 = nI q ∧ gI (L_X12_next_0 n T) 64 12 = nI q := by
  intro n
  induction n with
  | zero => intro p S T _ _ _ _ h; omega
  | succ n ih =>
    intro p S T hT h4 h12 hp hn
    have hN := hT.2.2.1
    unfold T_X4_next_8 T_X12_next_0 L_X4_next_8 L_X12_next_0
    rw [h4, h12, (byte_m hT (p := p) (by omega)).1]
    have zN : gI S 13 2 ≤ nI p ↔ N ≤ p := by rw [hT.1, ti_le, nI_ti (by omega), nI_ti (by omega)]; omega
    have pb := (byte_m hT (p := p) (by omega)).2
    by_cases c : N ≤ p
    · have n1 : ¬ (if p < N then nI (bt T p) else (-1000000 : Int32)) = 32 := by rw [if_neg (by omega)]; decide
      have n2 : ¬ (if p < N then nI (bt T p) else (-1000000 : Int32)) = 10 := by rw [if_neg (by omega)]; decide
      rw [if_pos (zN.mpr c), if_neg n1, if_neg n2]
      exact ⟨⟨fun q => absurd (zN.mpr c) q, fun q => absurd (zN.mpr c) q, fun q => absurd (zN.mpr c) q, fun q => absurd (zN.mpr c) q⟩, ⟨pb, fun q => absurd q n1, fun _ => pb, fun _ q => absurd q n2⟩, p, by omega, by omega, h4, h12⟩
    · have zn : ¬ gI S 13 2 ≤ nI p := fun q => c (zN.mp q)
      have hv : vp_in (nI p) 600 := vp_in_nI (by omega) (by omega)
      obtain ⟨e32, m32⟩ := hT.ce (k := p) (by omega) (d := 32) (by decide)
      obtain ⟨e10, m10⟩ := hT.ce (k := p) (by omega) (d := 10) (by decide)
      rw [(hT.m (k := p) (by omega)).1] at m32 m10
      have e32' : gI S 14 p = (32 : Int32) ↔ bt T p = 32 := e32
      have m32' : nI (bt T p) = (32 : Int32) ↔ bt T p = 32 := m32
      have e10' : gI S 14 p = (10 : Int32) ↔ bt T p = 10 := e10
      have m10' : nI (bt T p) = (10 : Int32) ↔ bt T p = 10 := m10
      rw [if_neg zn, nI_clamp' (by omega), if_pos (show p < N by omega)]
      simp only [bd_def]
      rw [show nI p + (1 : Int32) = nI (p + 1) from (nI_succ p).symm]
      obtain ⟨i1, i2, q, i3, i4, i5, i6⟩ := ih (p + 1) (sI S 13 4 (nI (p + 1))) (sI T 64 12 (nI (p + 1))) (hT.of (gs_o (by decide)) (gs_ne (by decide)) (gs_o (by decide)) (gs_ne (by decide))) (by rw [gs_eq, if_pos rfl]) (by rw [gs_eq, if_pos rfl]) (by omega) (by omega)
      by_cases y : bt T p = 32
      · rw [if_pos (e32'.mpr y), if_pos (m32'.mpr y)]
        exact ⟨⟨fun _ => hv, fun _ _ S1 e => by rw [← e]; exact i1, fun _ q => absurd (e32'.mpr y) q, fun _ q => absurd (e32'.mpr y) q⟩, ⟨pb, fun _ S1 e => by rw [← e]; exact i2, fun q => absurd (m32'.mpr y) q, fun q => absurd (m32'.mpr y) q⟩, q, by omega, i4, i5, i6⟩
      · rw [if_neg (fun z => y (e32'.mp z)), if_neg (fun z => y (m32'.mp z))]
        by_cases y2 : bt T p = 10
        · rw [if_pos (e10'.mpr y2), if_pos (m10'.mpr y2)]
          exact ⟨⟨fun _ => hv, fun _ z => absurd (e32'.mp z) y, fun _ _ => hv, fun _ _ _ S1 e => by rw [← e]; exact i1⟩, ⟨pb, fun z => absurd (m32'.mp z) y, fun _ => pb, fun _ _ S1 e => by rw [← e]; exact i2⟩, q, by omega, i4, i5, i6⟩
        · rw [if_neg (fun z => y2 (e10'.mp z)), if_neg (fun z => y2 (m10'.mp z))]
          exact ⟨⟨fun _ => hv, fun _ z => absurd (e32'.mp z) y, fun _ _ => hv, fun _ _ z => absurd (e10'.mp z) y2⟩, ⟨pb, fun z => absurd (m32'.mp z) y, fun _ => pb, fun _ z => absurd (m10'.mp z) y2⟩, p, by omega, by omega, h4, h12⟩
/-- letters -/
theorem lets_L {N : Nat} (v : Int32) : ∀ (n p : Nat) (S T : HSt), TP N S T → gI S 13 5 = nI p → gI T 64 12 = nI p → p ≤ N → N - p < n → T_X4_next_103 n S ∧ T_X12_next_77 n T v ∧ ∃ q, p ≤ q ∧ q ≤ N ∧ gI (L_X4_next_103 n S) 13 5 = nI q ∧ gI (L_X12_next_77 n T v).2 64 12 = nI q ∧ (∀ k, p ≤ k → k < q → Lb (bt T k)) ∧ (p < N → Lb (bt T p) → p < q) := by
  intro n
  induction n with
  | zero => intro p S T _ _ _ _ h; omega
  | succ n ih =>
    intro p S T hT h5 h12 hp hn
    have hN := hT.2.2.1
    unfold T_X4_next_103 T_X12_next_77 L_X4_next_103 L_X12_next_77
    obtain ⟨lc, plc⟩ := let_c hT (p := p) (by omega)
    have lm := let_m hT (p := p) (by omega) T
    have pb := (byte_m hT (p := p) (by omega)).2
    rw [h5, h12, (byte_m hT (p := p) (by omega)).1]
    have zN : gI S 13 2 ≤ nI p ↔ N ≤ p := by rw [hT.1, ti_le, nI_ti (by omega), nI_ti (by omega)]; omega
    by_cases y : p < N ∧ Lb (bt T p)
    · have c1 : ¬ gI S 13 2 ≤ nI p := fun q => by have := zN.mp q; omega
      rw [if_neg c1, if_neg (lc.mpr y), if_neg (lm.mpr y), bd_def, bd_def, show nI p + (1 : Int32) = nI (p + 1) from (nI_succ p).symm]
      obtain ⟨i1, i2, q, i3, i4, i5, i6, i7, -⟩ := ih (p + 1) (sI S 13 5 (nI (p + 1))) (sI T 64 12 (nI (p + 1))) (hT.of (gs_o (by decide)) (gs_ne (by decide)) (gs_o (by decide)) (gs_ne (by decide))) (by rw [gs_eq, if_pos rfl]) (by rw [gs_eq, if_pos rfl]) (by omega) (by omega)
      rw [bt_of (gs_ne (by decide))] at i7
      refine ⟨⟨fun _ => plc, fun _ _ S1 e => by rw [← e]; exact i1⟩, ⟨pb, fun _ S1 e => by rw [← e]; exact i2⟩, q, by omega, i4, i5, i6, fun k h1 h2 => ?_, fun _ _ => by omega⟩
      by_cases e : k = p
      · rw [e]; exact y.2
      · exact i7 k (by omega) h2
    · have nm : f_X12_isLetter T (if p < N then nI (bt T p) else -1000000) = 0 := Classical.not_not.mp fun q => y (lm.mp q)
      have nc : f_X4_isLetter S 13 (nI p) = 0 := Classical.not_not.mp fun q => y (lc.mp q)
      rw [if_pos nm, if_pos nc, ite_self]
      exact ⟨⟨fun _ => plc, fun _ q => absurd nc q⟩, ⟨pb, fun q => absurd nm q⟩, p, by omega, by omega, h5, h12, fun k h1 h2 => by omega, fun h1 h2 => absurd ⟨h1, h2⟩ y⟩
/-- the number that figures tell -/
def nvr (f : Nat → Nat) (b : Nat) : Nat → Nat
  | 0 => 0
  | j + 1 => nvr f b j * 10 + f (b + j) - 48
theorem nvr_lt (f : Nat → Nat) (b : Nat) : ∀ j, (∀ k, k < j → Fb (f (b + k))) → j ≤ 3 → nvr f b j < 1000 ∧ (j ≤ 2 → nvr f b j < 100) ∧ (j ≤ 1 → nvr f b j < 10) ∧ (j = 0 → nvr f b j = 0) := by
  intro j
  induction j with
  | zero => intro _ _; exact ⟨by show 0 < 1000; omega, fun _ => by show 0 < 100; omega, fun _ => by show 0 < 10; omega, fun _ => rfl⟩
  | succ j ih =>
    intro h hj
    obtain ⟨i1, i2, i3, i4⟩ := ih (fun k hk => h k (by omega)) (by omega)
    have hf := h j (by omega)
    unfold Fb at hf
    show nvr f b j * 10 + f (b + j) - 48 < 1000 ∧ (j + 1 ≤ 2 → nvr f b j * 10 + f (b + j) - 48 < 100) ∧ (j + 1 ≤ 1 → nvr f b j * 10 + f (b + j) - 48 < 10) ∧ (j + 1 = 0 → nvr f b j * 10 + f (b + j) - 48 = 0)
    have := i2 (by omega)
    refine ⟨by omega, fun q => ?_, fun q => ?_, fun q => by omega⟩
    · have := i3 (by omega); omega
    · have := i4 (by omega); omega
/-- figures -/
theorem figs_L {N b : Nat} (v : Int32) : ∀ (n p : Nat) (S T : HSt), TP N S T → gI S 13 4 = nI b → b ≤ p → (∀ k, b ≤ k → k < p → Fb (bt T k)) → gI S 13 6 = nI (nvr (bt T) b (if p - b ≤ 3 then p - b else 3)) → gI S 13 5 = nI p → gI T 64 12 = nI p → p ≤ N → N - p < n → T_X4_takeNumber_5 n S ∧ T_X12_next_119 n T v ∧ ∃ q, p ≤ q ∧ q ≤ N ∧ gI (L_X4_takeNumber_5 n S) 13 5 = nI q ∧ gI (L_X12_next_119 n T v).2 64 12 = nI q ∧ (∀ k, b ≤ k → k < q → Fb (bt T k)) ∧ gI (L_X4_takeNumber_5 n S) 13 6 = nI (nvr (bt T) b (if q - b ≤ 3 then q - b else 3)) ∧ (p < N → Fb (bt T p) → p < q) := by
  intro n
  induction n with
  | zero => intro p S T _ _ _ _ _ _ _ _ h; omega
  | succ n ih =>
    intro p S T hT h4 hbp hF h6 h5 h12 hp hn
    have hN := hT.2.2.1
    unfold T_X4_takeNumber_5 T_X12_next_119 L_X4_takeNumber_5 L_X12_next_119
    obtain ⟨lc, plc⟩ := fig_c hT (p := p) (by omega)
    have lm := fig_m hT (p := p) (by omega) T
    have pb := (byte_m hT (p := p) (by omega)).2
    rw [h5, h12, (byte_m hT (p := p) (by omega)).1]
    have zN : gI S 13 2 ≤ nI p ↔ N ≤ p := by rw [hT.1, ti_le, nI_ti (by omega), nI_ti (by omega)]; omega
    by_cases y : p < N ∧ Fb (bt T p)
    · have c1 : ¬ gI S 13 2 ≤ nI p := fun q => by have := zN.mp q; omega
      have hfb := y.2
      unfold Fb at hfb
      rw [if_neg c1, if_neg (lc.mpr y), if_neg (lm.mpr y)]
      simp only [bd_def]
      have ed : (nI p - nI b).toInt = (p : Int) - b := by rw [ti_sub (by rw [nI_ti (by omega), nI_ti (by omega)]; omega) (by rw [nI_ti (by omega), nI_ti (by omega)]; omega), nI_ti (by omega), nI_ti (by omega)]
      have z3 : (3 : Int32) ≤ nI p - nI b ↔ 3 ≤ p - b := by rw [ti_le, ed, show (3 : Int32).toInt = 3 from rfl]; omega
      have hby : gI S 14 p = nI (bt T p) := ((hT.ce (k := p) (by omega) (d := bt T p) (by omega)).1).mpr rfl
      rw [h4, h6, nI_clamp' (by omega), hby]
      obtain ⟨S1, hS1⟩ : ∃ S1, (if (3 : Int32) ≤ nI p - nI b then S else sI S 13 6 (nI (nvr (bt T) b (if p - b ≤ 3 then p - b else 3)) * 10 + nI (bt T p) - 48)) = S1 := ⟨_, rfl⟩
      rw [hS1]
      have g5 : gI S1 13 5 = nI p := by
        rw [← hS1]
        by_cases q : (3 : Int32) ≤ nI p - nI b
        · rw [if_pos q]; exact h5
        · rw [if_neg q, gs_o (by decide)]; exact h5
      have g2 : gI S1 13 2 = gI S 13 2 := by
        rw [← hS1]
        by_cases q : (3 : Int32) ≤ nI p - nI b
        · rw [if_pos q]
        · rw [if_neg q, gs_o (by decide)]
      have g4 : gI S1 13 4 = nI b := by
        rw [← hS1]
        by_cases q : (3 : Int32) ≤ nI p - nI b
        · rw [if_pos q]; exact h4
        · rw [if_neg q, gs_o (by decide)]; exact h4
      have g14 : gI S1 14 = gI S 14 := by
        rw [← hS1]
        by_cases q : (3 : Int32) ≤ nI p - nI b
        · rw [if_pos q]
        · rw [if_neg q, gs_ne (by decide)]
      have g6 : gI S1 13 6 = nI (nvr (bt T) b (if p + 1 - b ≤ 3 then p + 1 - b else 3)) := by
        rw [← hS1]
        by_cases q : (3 : Int32) ≤ nI p - nI b
        · have := z3.mp q
          rw [if_pos q, h6]
          by_cases q2 : p - b = 3
          · rw [if_pos (by omega), if_neg (by omega), q2]
          · rw [if_neg (by omega), if_neg (by omega)]
        · have : ¬ 3 ≤ p - b := fun z => q (z3.mpr z)
          rw [if_neg q, gs_eq, if_pos rfl, if_pos (by omega), if_pos (by omega), show p + 1 - b = (p - b) + 1 by omega]
          have hl := (nvr_lt (bt T) b (p - b) (fun k hk => hF (b + k) (by omega) (by omega)) (by omega)).2.1 (by omega)
          show _ = nI (nvr (bt T) b (p - b) * 10 + bt T (b + (p - b)) - 48)
          rw [show b + (p - b) = p by omega, show (10 : Int32) = nI 10 from rfl, pk_mul, nI_add, ti_eq, ti_sub (by rw [nI_ti (by omega), show (48 : Int32).toInt = 48 from rfl]; omega) (by rw [nI_ti (by omega), show (48 : Int32).toInt = 48 from rfl]; omega), nI_ti (by omega), nI_ti (by omega), show (48 : Int32).toInt = 48 from rfl]
          omega
      rw [g5, show nI p + (1 : Int32) = nI (p + 1) from (nI_succ p).symm]
      have hbt : bt (sI T 64 12 (nI (p + 1))) = bt T := bt_of (gs_ne (by decide))
      obtain ⟨i1, i2, q, i3, i4, i5, i6, i7, i8, -⟩ := ih (p + 1) (sI S1 13 5 (nI (p + 1))) (sI T 64 12 (nI (p + 1))) (hT.of (by rw [gs_o (by decide), g2]) (by rw [gs_ne (by decide), g14]) (gs_o (by decide)) (gs_ne (by decide))) (by rw [gs_o (by decide), g4]) (by omega) (fun k h1 h2 => by
        rw [hbt]
        by_cases e : k = p
        · rw [e]; exact y.2
        · exact hF k h1 (by omega)) (by rw [gs_o (by decide), g6, hbt]) (by rw [gs_eq, if_pos rfl]) (by rw [gs_eq, if_pos rfl]) (by omega) (by omega)
      rw [hbt] at i7 i8
      refine ⟨⟨fun _ => plc, fun _ _ _ => vp_in_nI (by omega) (by omega), fun _ _ S2 e2 S3 e3 => ?_⟩, ⟨pb, fun _ S1 e => by rw [← e]; exact i2⟩, q, by omega, i4, i5, i6, i7, i8, fun _ _ => by omega⟩
      rw [← e2, g5, show nI p + (1 : Int32) = nI (p + 1) from (nI_succ p).symm] at e3
      rw [← e3]; exact i1
    · have nm : f_X12_isFigure T (if p < N then nI (bt T p) else -1000000) = 0 := Classical.not_not.mp fun q => y (lm.mp q)
      have nc : f_X4_isFigure S 13 (nI p) = 0 := Classical.not_not.mp fun q => y (lc.mp q)
      rw [if_pos nm, if_pos nc, ite_self]
      exact ⟨⟨fun _ => plc, fun _ q => absurd nc q, fun _ q => absurd nc q⟩, ⟨pb, fun q => absurd nm q⟩, p, by omega, by omega, h5, h12, hF, h6, fun h1 h2 => absurd ⟨h1, h2⟩ y⟩
def mc (kd : Nat) : Nat := match kd with | 0 => 1 | 1 => 2 | 2 => 3 | 3 => 4 | _ => 0
/-- a token on both sides: kind, from, till -/
def NX (N : Nat) (S T : HSt) (kd b e : Nat) : Prop := (gI S 13 3 = nI kd ∧ gI S 13 4 = nI b ∧ gI S 13 5 = nI e) ∧ (gI T 64 12 = nI e ∧ gI T 64 13 = nI (mc kd) ∧ gI T 64 14 = nI b ∧ gI T 64 15 = nI e) ∧ (b ≤ e ∧ e ≤ N ∧ kd ≤ 4) ∧ (kd = 1 → b < e ∧ ∀ k, b ≤ k → k < e → Lb (bt T k)) ∧ (kd = 2 → e - b ≤ 3 ∧ b < e ∧ (∀ k, b ≤ k → k < e → Fb (bt T k)) ∧ gI S 13 6 = nI (nvr (bt T) b (e - b)))
theorem next_R {N p : Nat} {S T : HSt} (hT : TP N S T) (h5 : gI S 13 5 = nI p) (h12 : gI T 64 12 = nI p) (hp : p ≤ N) : p_X4_next S 13 ∧ p_X12_next T 64 ∧ TP N (f_X4_next S 13) (f_X12_next T 64) ∧ ∃ kd b e, NX N (f_X4_next S 13) (f_X12_next T 64) kd b e := by
  have hN := hT.2.2.1
  have fc := v_X4_next S 13
  have fm := v_X12_next T 64
  have hT' : TP N (f_X4_next S 13) (f_X12_next T 64) := hT.of (fc 13 2 (by decide) (by decide)) (fr_addr fc 14 (by decide)) (fm 64 11 (by decide) (by decide)) (fr_addr fm 70 (by decide))
  have hbt' : bt (f_X12_next T 64) = bt T := bt_of (fr_addr fm 70 (by decide))
  -- blanks
  have hT1 : TP N (sI S 13 4 (gI S 13 5)) T := hT.of (gs_o (by decide)) (gs_ne (by decide)) rfl rfl
  obtain ⟨s1, s2, b, s3, s4, s5, s6⟩ := skip_L 1000 p (sI S 13 4 (gI S 13 5)) T hT1 (by rw [gs_eq, if_pos rfl, h5]) h12 hp (by omega)
  have g1 := vL_X4_next_8 1000 (sI S 13 4 (gI S 13 5))
  have g2 := vL_X12_next_0 1000 T
  generalize hA : L_X4_next_8 1000 (sI S 13 4 (gI S 13 5)) = A at s5 g1
  generalize hB : L_X12_next_0 1000 T = B at s6 g2
  obtain ⟨A3, hA3⟩ : ∃ A3, sI A 13 5 (gI A 13 4) = A3 := ⟨_, rfl⟩
  obtain ⟨B2, hB2⟩ : ∃ B2, sI B 64 14 (gI B 64 12) = B2 := ⟨_, rfl⟩
  have a4 : gI A3 13 4 = nI b := by rw [← hA3, gs_o (by decide), s5]
  have a5 : gI A3 13 5 = nI b := by rw [← hA3, gs_eq, if_pos rfl, s5]
  have b12 : gI B2 64 12 = nI b := by rw [← hB2, gs_o (by decide), s6]
  have b14 : gI B2 64 14 = nI b := by rw [← hB2, gs_eq, if_pos rfl, s6]
  have hT3 : TP N A3 B2 := by
    refine hT.of ?_ ?_ ?_ ?_
    · rw [← hA3, gs_o (by decide), g1 13 2 (by decide) (by decide), gs_o (by decide)]
    · rw [← hA3, gs_ne (by decide), fr_addr g1 14 (by decide), gs_ne (by decide)]
    · rw [← hB2, gs_o (by decide), g2 64 11 (by decide) (by decide)]
    · rw [← hB2, gs_ne (by decide), fr_addr g2 70 (by decide)]
  have hbt : bt B2 = bt T := bt_of (by rw [← hB2, gs_ne (by decide), fr_addr g2 70 (by decide)])
  obtain ⟨bm, pbm⟩ := byte_m hT3 (p := b) (by omega)
  obtain ⟨lc, plc⟩ := let_c hT3 (p := b) (by omega)
  obtain ⟨fgc, pfc⟩ := fig_c hT3 (p := b) (by omega)
  have lm := let_m hT3 (p := b) (by omega) B2
  have fgm := fig_m hT3 (p := b) (by omega) B2
  have zN : gI A3 13 4 < gI A3 13 2 ↔ b < N := by rw [a4, hT3.1, ti_lt, nI_ti (by omega), nI_ti (by omega)]; omega
  obtain ⟨n1, n2, en, n3, n4, n5, n6, n7, n8⟩ := lets_L (if b < N then nI (bt B2 b) else -1000000) 1000 b (sI A3 13 3 1) B2 (hT3.of (gs_o (by decide)) (gs_ne (by decide)) rfl rfl) (by rw [gs_o (by decide), a5]) b12 s4 (by omega)
  obtain ⟨m1, m2, em, m3, m4, m5, m6, m7, m8, m9⟩ := figs_L (b := b) (if b < N then nI (bt B2 b) else -1000000) 1000 b (sI A3 13 6 0) B2 (hT3.of (gs_o (by decide)) (gs_ne (by decide)) rfl rfl) (by rw [gs_o (by decide), a4]) (by omega) (fun k h1 h2 => by omega) (by rw [gs_eq, if_pos rfl, show b - b = 0 by omega, if_pos (by omega)]; rfl) (by rw [gs_o (by decide), a5]) b12 s4 (by omega)
  have gn := vL_X4_next_103 1000 (sI A3 13 3 1)
  have gn2 := vL_X12_next_77 1000 B2 (if b < N then nI (bt B2 b) else -1000000)
  have gf := vL_X4_takeNumber_5 1000 (sI A3 13 6 0)
  have gf2 := vL_X12_next_119 1000 B2 (if b < N then nI (bt B2 b) else -1000000)
  -- the places
  have pc : p_X4_next S 13 := by
    refine ⟨fun S1 e1 => by rw [← e1]; exact s1, fun S1 e1 r2 er2 S3 e3 _ => ?_, fun S1 e1 r2 er2 S3 e3 _ _ => ?_, fun S1 e1 r2 er2 S3 e3 q _ _ => ?_, fun S1 e1 r2 er2 S3 e3 _ _ _ => ?_, fun S1 e1 r2 er2 S3 e3 _ _ S12 e12 => ?_⟩
    · rw [← e1, hA] at er2; rw [← er2, hA3] at e3; rw [← e3, a4]; exact plc
    · rw [← e1, hA] at er2; rw [← er2, hA3] at e3; rw [← e3, a4]; exact pfc
    · rw [← e1, hA] at er2; rw [← er2, hA3] at e3; rw [← e3] at q ⊢
      have := zN.mp q
      rw [a4]; exact vp_in_nI (by omega) (by omega)
    · rw [← e1, hA] at er2; rw [← er2, hA3] at e3; rw [← e3]
      exact fun S1' e1' => by rw [← e1']; exact m1
    · rw [← e1, hA] at er2; rw [← er2, hA3] at e3; rw [← e3] at e12; rw [← e12]; exact n1
  have pm : p_X12_next T 64 := by
    refine ⟨s2, fun r1 er1 S2 e2 => ?_, fun r1 er1 S2 e2 x3 ex3 _ _ _ => ?_, fun r1 er1 S2 e2 x3 ex3 _ _ => ?_⟩
    · rw [hB] at er1; rw [← er1, hB2] at e2; rw [← e2, b12]; exact pbm
    · rw [hB] at er1; rw [← er1, hB2] at e2; rw [← e2, b12, bm] at ex3; rw [← e2, ← ex3]; exact m2
    · rw [hB] at er1; rw [← er1, hB2] at e2; rw [← e2, b12, bm] at ex3; rw [← e2, ← ex3]; exact n2
  refine ⟨pc, pm, hT', ?_⟩
  -- the two forms
  have ec : f_X4_next S 13 = (if gI A3 13 4 < gI A3 13 2 then (if f_X4_isLetter A3 13 (nI b) = 0 then (if f_X4_isFigure A3 13 (nI b) = 0 then sI (sI A3 13 3 (if gI A3 14 b = 59 then 3 else 4)) 13 5 (gI (sI A3 13 3 (if gI A3 14 b = 59 then 3 else 4)) 13 5 + 1) else f_X4_takeNumber A3 13) else L_X4_next_103 1000 (sI A3 13 3 1)) else sI A3 13 3 0) := by
    unfold f_X4_next
    simp only [bd_def]
    rw [hA, hA3, a4, nI_clamp' (by omega)]
  have em' : f_X12_next T 64 = sI (if (if b < N then nI (bt B2 b) else -1000000) = (-1000000 : Int32) then sI B2 64 13 1 else (if f_X12_isLetter B2 (if b < N then nI (bt B2 b) else -1000000) = 0 then (if f_X12_isFigure B2 (if b < N then nI (bt B2 b) else -1000000) = 0 then sI (sI B2 64 12 (nI b + 1)) 64 13 (if (if b < N then nI (bt B2 b) else -1000000) = (59 : Int32) then 4 else 0) else sI (L_X12_next_119 1000 B2 (if b < N then nI (bt B2 b) else -1000000)).2 64 13 (if gI (L_X12_next_119 1000 B2 (if b < N then nI (bt B2 b) else -1000000)).2 64 12 - gI (L_X12_next_119 1000 B2 (if b < N then nI (bt B2 b) else -1000000)).2 64 14 ≤ 3 then 3 else 0)) else sI (L_X12_next_77 1000 B2 (if b < N then nI (bt B2 b) else -1000000)).2 64 13 2)) 64 15 (gI (if (if b < N then nI (bt B2 b) else -1000000) = (-1000000 : Int32) then sI B2 64 13 1 else (if f_X12_isLetter B2 (if b < N then nI (bt B2 b) else -1000000) = 0 then (if f_X12_isFigure B2 (if b < N then nI (bt B2 b) else -1000000) = 0 then sI (sI B2 64 12 (nI b + 1)) 64 13 (if (if b < N then nI (bt B2 b) else -1000000) = (59 : Int32) then 4 else 0) else sI (L_X12_next_119 1000 B2 (if b < N then nI (bt B2 b) else -1000000)).2 64 13 (if gI (L_X12_next_119 1000 B2 (if b < N then nI (bt B2 b) else -1000000)).2 64 12 - gI (L_X12_next_119 1000 B2 (if b < N then nI (bt B2 b) else -1000000)).2 64 14 ≤ 3 then 3 else 0)) else sI (L_X12_next_77 1000 B2 (if b < N then nI (bt B2 b) else -1000000)).2 64 13 2)) 64 12) := by
    unfold f_X12_next
    simp only [bd_def]
    rw [hB, hB2, b12, bm]
  unfold NX
  rw [hbt', ec, em']
  by_cases cN : b < N
  · have hx : ¬ (if b < N then nI (bt B2 b) else (-1000000 : Int32)) = -1000000 := by
      rw [if_pos cN]
      have := (hT3.m (k := b) (by omega)).2
      exact nI_none (by omega)
    rw [if_pos (zN.mpr cN), if_neg hx]
    by_cases cL : Lb (bt B2 b)
    · rw [if_neg (lc.mpr ⟨cN, cL⟩), if_neg (lm.mpr ⟨cN, cL⟩)]
      have hlt := n8 cN cL
      refine ⟨1, b, en, ⟨?_, ?_, n5⟩, ⟨?_, ?_, ?_, ?_⟩, ⟨n3, n4, by omega⟩, fun _ => ⟨hlt, by rw [← hbt]; exact n7⟩, fun q => by omega⟩
      · rw [gn 13 3 (by decide) (by decide), gs_eq, if_pos rfl]; rfl
      · rw [gn 13 4 (by decide) (by decide), gs_o (by decide), a4]
      · rw [gs_o (by decide), gs_o (by decide), n6]
      · rw [gs_o (by decide), gs_eq, if_pos rfl]; rfl
      · rw [gs_o (by decide), gs_o (by decide), gn2 64 14 (by decide) (by decide), b14]
      · rw [gs_eq, if_pos rfl, gs_o (by decide), n6]
    · have nl1 : f_X4_isLetter A3 13 (nI b) = 0 := Classical.not_not.mp fun q => cL (lc.mp q).2
      have nl2 : f_X12_isLetter B2 (if b < N then nI (bt B2 b) else -1000000) = 0 := Classical.not_not.mp fun q => cL (lm.mp q).2
      rw [if_pos nl1, if_pos nl2]
      by_cases cF : Fb (bt B2 b)
      · rw [if_neg (fgc.mpr ⟨cN, cF⟩), if_neg (fgm.mpr ⟨cN, cF⟩)]
        have hlt := m9 cN cF
        have e14 : gI (L_X12_next_119 1000 B2 (if b < N then nI (bt B2 b) else -1000000)).2 64 14 = nI b := by rw [gf2 64 14 (by decide) (by decide), b14]
        have t4 : gI (L_X4_takeNumber_5 1000 (sI A3 13 6 0)) 13 4 = nI b := by rw [gf 13 4 (by decide) (by decide), gs_o (by decide), a4]
        have ed : (nI em - nI b).toInt = (em : Int) - b := by rw [ti_sub (by rw [nI_ti (by omega), nI_ti (by omega)]; omega) (by rw [nI_ti (by omega), nI_ti (by omega)]; omega), nI_ti (by omega), nI_ti (by omega)]
        have et : f_X4_takeNumber A3 13 = sI (L_X4_takeNumber_5 1000 (sI A3 13 6 0)) 13 3 (if (3 : Int32) < nI em - nI b then 4 else 2) := by
          unfold f_X4_takeNumber
          simp only [bd_def]
          rw [m5, t4]
        rw [et, e14, m6]
        by_cases c3 : em - b ≤ 3
        · have z1 : ¬ (3 : Int32) < nI em - nI b := by rw [ti_lt, ed, show (3 : Int32).toInt = 3 from rfl]; omega
          have z2 : nI em - nI b ≤ (3 : Int32) := by rw [ti_le, ed, show (3 : Int32).toInt = 3 from rfl]; omega
          rw [if_neg z1, if_pos z2]
          rw [if_pos c3] at m8
          refine ⟨2, b, em, ⟨?_, ?_, ?_⟩, ⟨?_, ?_, ?_, ?_⟩, ⟨m3, m4, by omega⟩, fun q => by omega, fun _ => ⟨c3, hlt, by rw [← hbt]; exact m7, ?_⟩⟩
          · rw [gs_eq, if_pos rfl]; rfl
          · rw [gs_o (by decide), t4]
          · rw [gs_o (by decide), m5]
          · rw [gs_o (by decide), gs_o (by decide), m6]
          · rw [gs_o (by decide), gs_eq, if_pos rfl]; rfl
          · rw [gs_o (by decide), gs_o (by decide), e14]
          · rw [gs_eq, if_pos rfl, gs_o (by decide), m6]
          · rw [gs_o (by decide), m8, hbt]
        · have z1 : (3 : Int32) < nI em - nI b := by rw [ti_lt, ed, show (3 : Int32).toInt = 3 from rfl]; omega
          have z2 : ¬ nI em - nI b ≤ (3 : Int32) := by rw [ti_le, ed, show (3 : Int32).toInt = 3 from rfl]; omega
          rw [if_pos z1, if_neg z2]
          refine ⟨4, b, em, ⟨?_, ?_, ?_⟩, ⟨?_, ?_, ?_, ?_⟩, ⟨m3, m4, by omega⟩, fun q => by omega, fun q => by omega⟩
          · rw [gs_eq, if_pos rfl]; rfl
          · rw [gs_o (by decide), t4]
          · rw [gs_o (by decide), m5]
          · rw [gs_o (by decide), gs_o (by decide), m6]
          · rw [gs_o (by decide), gs_eq, if_pos rfl]; rfl
          · rw [gs_o (by decide), gs_o (by decide), e14]
          · rw [gs_eq, if_pos rfl, gs_o (by decide), m6]
      · have nf1 : f_X4_isFigure A3 13 (nI b) = 0 := Classical.not_not.mp fun q => cF (fgc.mp q).2
        have nf2 : f_X12_isFigure B2 (if b < N then nI (bt B2 b) else -1000000) = 0 := Classical.not_not.mp fun q => cF (fgm.mp q).2
        rw [if_pos nf1, if_pos nf2, if_pos cN]
        obtain ⟨e59, m59⟩ := hT3.ce (k := b) (by omega) (d := 59) (by decide)
        rw [(hT3.m (k := b) (by omega)).1] at m59
        have e59' : gI A3 14 b = (59 : Int32) ↔ bt B2 b = 59 := e59
        have m59' : nI (bt B2 b) = (59 : Int32) ↔ bt B2 b = 59 := m59
        have eb : nI b + (1 : Int32) = nI (b + 1) := (nI_succ b).symm
        by_cases c59 : bt B2 b = 59
        · rw [if_pos (e59'.mpr c59), if_pos (m59'.mpr c59)]
          refine ⟨3, b, b + 1, ⟨?_, ?_, ?_⟩, ⟨?_, ?_, ?_, ?_⟩, ⟨by omega, by omega, by omega⟩, fun q => by omega, fun q => by omega⟩
          · rw [gs_o (by decide), gs_eq, if_pos rfl]; rfl
          · rw [gs_o (by decide), gs_o (by decide), a4]
          · rw [gs_eq, if_pos rfl, gs_o (by decide), a5, eb]
          · rw [gs_o (by decide), gs_o (by decide), gs_eq, if_pos rfl, eb]
          · rw [gs_o (by decide), gs_eq, if_pos rfl]; rfl
          · rw [gs_o (by decide), gs_o (by decide), gs_o (by decide), b14]
          · rw [gs_eq, if_pos rfl, gs_o (by decide), gs_eq, if_pos rfl, eb]
        · rw [if_neg (fun q => c59 (e59'.mp q)), if_neg (fun q => c59 (m59'.mp q))]
          refine ⟨4, b, b + 1, ⟨?_, ?_, ?_⟩, ⟨?_, ?_, ?_, ?_⟩, ⟨by omega, by omega, by omega⟩, fun q => by omega, fun q => by omega⟩
          · rw [gs_o (by decide), gs_eq, if_pos rfl]; rfl
          · rw [gs_o (by decide), gs_o (by decide), a4]
          · rw [gs_eq, if_pos rfl, gs_o (by decide), a5, eb]
          · rw [gs_o (by decide), gs_o (by decide), gs_eq, if_pos rfl, eb]
          · rw [gs_o (by decide), gs_eq, if_pos rfl]; rfl
          · rw [gs_o (by decide), gs_o (by decide), gs_o (by decide), b14]
          · rw [gs_eq, if_pos rfl, gs_o (by decide), gs_eq, if_pos rfl, eb]
  · have hx : (if b < N then nI (bt B2 b) else (-1000000 : Int32)) = -1000000 := by rw [if_neg cN]
    rw [if_neg (fun q => cN (zN.mp q)), if_pos hx]
    refine ⟨0, b, b, ⟨?_, ?_, ?_⟩, ⟨?_, ?_, ?_, ?_⟩, ⟨by omega, by omega, by omega⟩, fun q => by omega, fun q => by omega⟩
    · rw [gs_eq, if_pos rfl]; rfl
    · rw [gs_o (by decide), a4]
    · rw [gs_o (by decide), a5]
    · rw [gs_o (by decide), gs_o (by decide), b12]
    · rw [gs_o (by decide), gs_eq, if_pos rfl]; rfl
    · rw [gs_o (by decide), gs_o (by decide), b14]
    · rw [gs_eq, if_pos rfl, gs_o (by decide), b12]
