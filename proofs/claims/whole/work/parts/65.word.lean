-- needs: 64.tok 44.gcd
/-! ===== words ===== -/
def WD : List (List Nat) := [[114, 111, 112, 101], [104, 111, 114, 115, 101], [98, 101, 97, 115, 116], [102, 111, 114, 109], [114, 117, 108, 101], [115, 112, 105, 110], [115, 116, 97, 110, 100], [102, 108, 97, 116], [101, 100, 103, 101], [99, 108, 111, 115, 101]]
def wl_ (k : Nat) : Nat := (WD.getD k []).length
def wc_ (k i : Nat) : Nat := (WD.getD k []).getD i 0
theorem wl_eq : ∀ k, k < 10 → skL.getD k 0 = wl_ k := by decide
theorem wl_le : ∀ k, k < 10 → wl_ k ≤ 5 := by decide
theorem wc_eq : ∀ k, k < 10 → ∀ i, i < wl_ k → skC k (nI i) = nI (wc_ k i) ∧ wc_ k i < 128 ∧ 1 ≤ wc_ k i := by decide
def mt (f : Nat → Nat) (b e k : Nat) : Prop := e - b = wl_ k ∧ ∀ i, i < wl_ k → f (b + i) = wc_ k i
theorem here_L {N b e : Nat} {S T : HSt} (hT : TP N S T) (h4 : gI S 13 4 = nI b) (he : b ≤ e ∧ e ≤ N) {k : Nat} (hk : k < 10) (hl : e - b = wl_ k) : ∀ (n i : Nat), i ≤ wl_ k → wl_ k - i < n → (∀ x, x < i → bt T (b + x) = wc_ k x) → T_X4_isHere_20 (2000 + k) n S (nI i) ∧ (((L_X4_isHere_20 (2000 + k) n S (nI i)).1 = 1 ∧ (L_X4_isHere_20 (2000 + k) n S (nI i)).2.1 = 0 ∧ ¬ mt (bt T) b e k) ∨ (¬ (L_X4_isHere_20 (2000 + k) n S (nI i)).1 = 1 ∧ mt (bt T) b e k)) := by
  have hN := hT.2.2.1
  have h5 := wl_le k hk
  have elen : f_J0_length_8abf5 S (2000 + k) = nI (wl_ k) := by
    show nI (skL.getD (2000 + k - 2000) 0) = _
    rw [show 2000 + k - 2000 = k by omega, wl_eq k hk]
  intro n
  induction n with
  | zero => intro i _ h; omega
  | succ n ih =>
    intro i hi hn hx
    unfold T_X4_isHere_20 L_X4_isHere_20
    rw [elen, h4]
    by_cases c : nI (wl_ k) ≤ nI i
    · have : i = wl_ k := by
        rw [ti_le, nI_ti (by omega), nI_ti (by omega)] at c
        omega
      rw [if_pos c]
      exact ⟨⟨fun q => absurd c q, fun q => absurd c q, fun q => absurd c q⟩, Or.inr ⟨fun q => absurd (show (0 : Int32) = 1 from q) (by decide), hl, fun x hx2 => hx x (by omega)⟩⟩
    · rw [if_neg c]
      have hlt : i < wl_ k := by
        rw [ti_le, nI_ti (by omega), nI_ti (by omega)] at c
        omega
      obtain ⟨w1, w2, -⟩ := wc_eq k hk i hlt
      have ech : f_J0_charAt_5068e S (2000 + k) (nI i) = nI (wc_ k i) := by
        show skC (2000 + k - 2000) (nI i) = _
        rw [show 2000 + k - 2000 = k by omega, w1]
      rw [nI_add, nI_clamp' (by omega), ech]
      have hce := (hT.ce (k := b + i) (by omega) w2).1
      have hp1 : vp_in (nI (b + i)) 600 := vp_in_nI (by omega) (by omega)
      have hp2 : p_J0_charAt_5068e S (2000 + k) (nI i) := by
        show vp_in (nI i) (skL.getD (2000 + k - 2000) 0)
        rw [show 2000 + k - 2000 = k by omega, wl_eq k hk]
        exact vp_in_nI hlt (by omega)
      by_cases y : bt T (b + i) = wc_ k i
      · obtain ⟨i1, i2⟩ := ih (i + 1) (by omega) (by omega) (fun x h => by
          by_cases e : x = i
          · rw [e]; exact y
          · exact hx x (by omega))
        rw [nI_succ] at i1 i2
        rw [if_pos (hce.mpr y)]
        exact ⟨⟨fun _ => hp1, fun _ => hp2, fun _ _ => i1⟩, i2⟩
      · rw [if_neg (fun q => y (hce.mp q))]
        exact ⟨⟨fun _ => hp1, fun _ => hp2, fun _ q => absurd (hce.mp q) y⟩, Or.inl ⟨rfl, rfl, fun q => y (q.2 i hlt)⟩⟩
theorem here_at {N b e : Nat} {S T : HSt} (hT : TP N S T) (h4 : gI S 13 4 = nI b) (h5 : gI S 13 5 = nI e) (he : b ≤ e ∧ e ≤ N) {k : Nat} (hk : k < 10) : (¬ f_X4_isHere S 13 (2000 + k) = 0 ↔ mt (bt T) b e k) ∧ p_X4_isHere S 13 (2000 + k) := by
  have hN := hT.2.2.1
  have hl5 := wl_le k hk
  have elen : f_J0_length_8abf5 S (2000 + k) = nI (wl_ k) := by
    show nI (skL.getD (2000 + k - 2000) 0) = _
    rw [show 2000 + k - 2000 = k by omega, wl_eq k hk]
  have ed : (nI e - nI b) = nI (e - b) := by
    rw [ti_eq, ti_sub (by rw [nI_ti (by omega), nI_ti (by omega)]; omega) (by rw [nI_ti (by omega), nI_ti (by omega)]; omega), nI_ti (by omega), nI_ti (by omega), nI_ti (by omega)]
    omega
  have zl : nI (e - b) = nI (wl_ k) ↔ e - b = wl_ k := by rw [ti_eq, nI_ti (by omega), nI_ti (by omega)]; omega
  constructor
  · show ¬ (F_X4_isHere S 13 (2000 + k)).1 = 0 ↔ _
    unfold F_X4_isHere
    rw [h5, h4, ed, elen]
    by_cases c : e - b = wl_ k
    · rw [if_pos (zl.mpr c), bd_def]
      obtain ⟨-, h⟩ := here_L hT h4 he hk c 1000 0 (by omega) (by omega) (fun x h => by omega)
      rw [show nI 0 = (0 : Int32) from rfl] at h
      rcases h with ⟨q1, q2, q3⟩ | ⟨q1, q2⟩
      · rw [if_pos q1, pr_1, q2]
        exact ⟨fun z => absurd rfl z, fun z => absurd z q3⟩
      · rw [if_neg q1, pr_1]
        exact ⟨fun _ => q2, fun _ => one_ne⟩
    · rw [if_neg (fun q => c (zl.mp q)), pr_1]
      exact ⟨fun z => absurd rfl z, fun z => absurd z.1 c⟩
  · intro q
    rw [h5, h4, ed, elen] at q
    exact (here_L hT h4 he hk (zl.mp q) 1000 0 (by omega) (by omega) (fun x h => by omega)).1
/-- the word's bytes as one number -/
def vv (f : Nat → Nat) (b : Nat) : Nat → Nat
  | 0 => 0
  | j + 1 => vv f b j * 256 + f (b + j)
def valR : List Nat → Nat
  | [] => 0
  | d :: R => valR R * 256 + d
theorem vv_R (f : Nat → Nat) (b : Nat) (hf : ∀ k, f k < 256) (hf1 : ∀ k, 1 ≤ f k) : ∀ (R : List Nat), (∀ d ∈ R, 1 ≤ d ∧ d < 256) → ∀ m, (vv f b m = valR R ↔ m = R.length ∧ ∀ i, i < R.length → f (b + (R.length - 1 - i)) = R.getD i 0) := by
  intro R
  induction R with
  | nil =>
    intro _ m
    match m with
    | 0 => exact ⟨fun _ => ⟨rfl, fun i hi => absurd hi (by simp)⟩, fun _ => rfl⟩
    | m + 1 =>
      refine ⟨fun q => ?_, fun q => by simp at q⟩
      have q' : vv f b m * 256 + f (b + m) = 0 := q
      have := hf1 (b + m)
      omega
  | cons d R ih =>
    intro hd m
    obtain ⟨d1, d2⟩ := hd d (by simp)
    match m with
    | 0 =>
      refine ⟨fun q => ?_, fun q => by simp at q⟩
      have q' : 0 = valR R * 256 + d := q
      omega
    | m + 1 =>
      have h1 := hf (b + m)
      have hi := ih (fun x hx => hd x (by simp [hx])) m
      have e1 : vv f b (m + 1) = valR (d :: R) ↔ vv f b m = valR R ∧ f (b + m) = d := by
        show vv f b m * 256 + f (b + m) = valR R * 256 + d ↔ _
        omega
      rw [e1, hi]
      simp only [List.length_cons]
      constructor
      · rintro ⟨⟨a1, a2⟩, a3⟩
        refine ⟨by omega, fun i hi2 => ?_⟩
        match i with
        | 0 =>
          show f (b + (R.length + 1 - 1 - 0)) = d
          rw [show R.length + 1 - 1 - 0 = m by omega]
          exact a3
        | i + 1 =>
          show f (b + (R.length + 1 - 1 - (i + 1))) = R.getD i 0
          rw [show R.length + 1 - 1 - (i + 1) = R.length - 1 - i by omega]
          exact a2 i (by omega)
      · rintro ⟨a1, a2⟩
        refine ⟨⟨by omega, fun i hi2 => ?_⟩, ?_⟩
        · have := a2 (i + 1) (by omega)
          rw [show R.length + 1 - 1 - (i + 1) = R.length - 1 - i by omega] at this
          exact this
        · have := a2 0 (by omega)
          rw [show R.length + 1 - 1 - 0 = m by omega] at this
          exact this
def cV (k : Nat) : Nat := valR (WD.getD k []).reverse
theorem wd_ok : ∀ k, k < 10 → ∀ d ∈ (WD.getD k []).reverse, 1 ≤ d ∧ d < 256 := by decide
theorem wd_rev : ∀ k, k < 10 → (WD.getD k []).reverse.length = wl_ k ∧ ∀ i, i < wl_ k → (WD.getD k []).reverse.getD i 0 = wc_ k (wl_ k - 1 - i) := by decide
theorem mt_vv {f : Nat → Nat} {b e k : Nat} (hf : ∀ k, f k < 256) (hf1 : ∀ k, 1 ≤ f k) (hk : k < 10) : mt f b e k ↔ vv f b (e - b) = cV k := by
  obtain ⟨r1, r2⟩ := wd_rev k hk
  unfold cV
  rw [vv_R f b hf hf1 _ (wd_ok k hk), r1]
  unfold mt
  constructor
  · rintro ⟨h1, h2⟩
    refine ⟨h1, fun i hi => ?_⟩
    rw [r2 i hi, h2 (wl_ k - 1 - i) (by omega)]
  · rintro ⟨h1, h2⟩
    refine ⟨h1, fun i hi => ?_⟩
    have := h2 (wl_ k - 1 - i) (by omega)
    rw [r2 _ (by omega), show wl_ k - 1 - (wl_ k - 1 - i) = i by omega] at this
    exact this
theorem cV_lt : ∀ k, k < 10 → cV k < 2 ^ 40 := by decide
theorem cV_inj : ∀ j, j < 10 → ∀ k, k < 10 → cV j = cV k → j = k := by decide
theorem cV_v : cV 0 = 1919905893 ∧ cV 1 = 448546370405 ∧ cV 2 = 422607680372 ∧ cV 3 = 1718579821 ∧ cV 4 = 1920298085 ∧ cV 5 = 1936746862 ∧ cV 6 = 495873781348 ∧ cV 7 = 1718378868 ∧ cV 8 = 1701078885 ∧ cV 9 = 427021005669 := by decide
/-- bytes put together -/
theorem c_64 : ∀ c, c < 256 → (nI c).toInt64 = Int64.ofNat c := by decide +kernel
theorem w_step {x c : Nat} (hx : x < 2 ^ 48) (hc : c < 256) : (Int64.ofNat x <<< ((8 : Int32).toInt64 &&& 63)) ||| (nI c).toInt64 = Int64.ofNat (x * 256 + c) := by
  rw [c_64 c hc]
  apply Int64.toBitVec_inj.mp
  rw [Int64.toBitVec_or, Int64.toBitVec_shiftLeft]
  have e8 : (((8 : Int32).toInt64 &&& 63).toBitVec.smod 64) = 8#64 := by decide
  rw [e8, Int64.toBitVec_ofNat', Int64.toBitVec_ofNat', Int64.toBitVec_ofNat']
  apply BitVec.eq_of_toNat_eq
  rw [BitVec.toNat_or, BitVec.shiftLeft_eq', BitVec.toNat_shiftLeft, BitVec.toNat_ofNat, BitVec.toNat_ofNat, BitVec.toNat_ofNat, BitVec.toNat_ofNat, show 8 % 2 ^ 64 = 8 from rfl]
  rw [Nat.mod_eq_of_lt (show x < 2 ^ 64 by omega), Nat.mod_eq_of_lt (show c < 2 ^ 64 by omega), Nat.mod_eq_of_lt (show x * 256 + c < 2 ^ 64 by omega)]
  have hs : x <<< 8 = x * 256 := by rw [Nat.shiftLeft_eq]
  rw [hs, Nat.mod_eq_of_lt (show x * 256 < 2 ^ 64 by omega), ← hs, ← Nat.shiftLeft_add_eq_or_of_lt (show c < 2 ^ 8 by omega)]
theorem vv_lt (f : Nat → Nat) (b : Nat) (hf : ∀ k, f k < 256) : ∀ j, j ≤ 7 → vv f b j < 256 ^ j := by
  intro j
  induction j with
  | zero => intro _; show 0 < 1; omega
  | succ j ih =>
    intro h
    have h1 := ih (by omega)
    have h2 := hf (b + j)
    show vv f b j * 256 + f (b + j) < 256 ^ (j + 1)
    rw [Nat.pow_succ]
    omega
theorem word_L {N b e : Nat} {S T : HSt} (hT : TP N S T) (h13 : gI T 64 13 = 2) (h14 : gI T 64 14 = nI b) (h15 : gI T 64 15 = nI e) (he : b ≤ e ∧ e ≤ N) (h8 : e - b < 8) : ∀ (n p : Nat), b ≤ p → p ≤ e → e - p < n → T_X12_word_7 n T (Int64.ofNat (vv (bt T) b (p - b))) (nI p) ∧ (L_X12_word_7 n T (Int64.ofNat (vv (bt T) b (p - b))) (nI p)).1 = Int64.ofNat (vv (bt T) b (e - b)) := by
  have hN := hT.2.2.1
  have hbt : ∀ k, k < 600 → bt T k < 256 := fun k hk => (hT.m hk).2
  intro n
  induction n with
  | zero => intro p _ _ h; omega
  | succ n ih =>
    intro p hb hp hn
    unfold T_X12_word_7 L_X12_word_7
    rw [h15, h13, h14]
    by_cases c : nI e ≤ nI p
    · have : p = e := by
        rw [ti_le, nI_ti (by omega), nI_ti (by omega)] at c
        omega
      subst this
      rw [if_pos c]
      exact ⟨⟨fun q => absurd c q, fun q => absurd c q⟩, rfl⟩
    · have hlt : p < e := by
        rw [ti_le, nI_ti (by omega), nI_ti (by omega)] at c
        omega
      have z8 : ¬ (8 : Int32) ≤ nI e - nI b := by
        rw [ti_le, ti_sub (by rw [nI_ti (by omega), nI_ti (by omega)]; omega) (by rw [nI_ti (by omega), nI_ti (by omega)]; omega), nI_ti (by omega), nI_ti (by omega), show (8 : Int32).toInt = 8 from rfl]
        omega
      have hv : vv (bt T) b (p - b) < 2 ^ 48 := by
        have : ∀ j, j ≤ 6 → b + j ≤ 600 → vv (bt T) b j < 256 ^ j := by
          intro j
          induction j with
          | zero => intro _ _; show 0 < 1; omega
          | succ j ih2 =>
            intro h1 h2
            have h3 := ih2 (by omega) (by omega)
            have h4 := hbt (b + j) (by omega)
            show vv (bt T) b j * 256 + bt T (b + j) < 256 ^ (j + 1)
            rw [Nat.pow_succ]
            omega
        have h1 := this (p - b) (by omega) (by omega)
        have h2 : 256 ^ (p - b) ≤ 256 ^ 6 := Nat.pow_le_pow_right (by omega) (by omega)
        have h3 : (256 : Nat) ^ 6 = 2 ^ 48 := by decide
        omega
      rw [if_neg c, if_pos rfl, if_neg z8, bd_def, nI_clamp' (by omega), (hT.m (k := p) (by omega)).1, w_step hv (hbt p (by omega))]
      have ev : vv (bt T) b (p - b) * 256 + bt T p = vv (bt T) b (p + 1 - b) := by
        rw [show p + 1 - b = (p - b) + 1 by omega]
        show _ = vv (bt T) b (p - b) * 256 + bt T (b + (p - b))
        rw [show b + (p - b) = p by omega]
      rw [ev]
      obtain ⟨i1, i2⟩ := ih (p + 1) (by omega) (by omega) (by omega)
      rw [nI_succ] at i1 i2
      exact ⟨⟨fun _ _ _ => vp_in_nI (by omega) (by omega), fun _ _ _ x ex => by rw [← ex]; exact i1⟩, i2⟩
theorem nJ_inj {x y : Nat} (hx : x < 2 ^ 60) (hy : y < 2 ^ 60) : Int64.ofNat x = Int64.ofNat y ↔ x = y := by
  constructor
  · intro h
    have := congrArg Int64.toInt h
    rw [Int64.toInt_ofNat_of_lt (by omega), Int64.toInt_ofNat_of_lt (by omega)] at this
    omega
  · intro h; rw [h]
/-- the word of a token, on both sides: w is its number, 10: none -/
theorem words {N kd b e : Nat} {S T : HSt} (hT : TP N S T) (hX : NX N S T kd b e) (hf : gI T 64 16 = 0 ∨ 0 < (gI T 64 16).toInt) : ∃ w, w ≤ 10 ∧ ((gI S 13 3 = 1 → f_X4_wordHere S 13 = nI w ∧ p_X4_wordHere S 13) ∧ (kd ≠ 1 → w = 10)) ∧ p_X12_word T 64 ∧ (∀ k, k < 10 → (lg_cmp (f_X12_word T 64) (Int64.ofNat (cV k)) = 0 ↔ gI T 64 16 = 0 ∧ w = k)) := by
  obtain ⟨⟨s3, s4, s5⟩, ⟨t12, t13, t14, t15⟩, ⟨hbe, heN, hkd⟩, hL, -⟩ := hX
  have hN := hT.2.2.1
  -- the model's word
  by_cases ck : kd = 1
  · subst ck
    obtain ⟨hlt, hlet⟩ := hL rfl
    have t13' : gI T 64 13 = 2 := t13
    -- bytes beyond: only those of the word matter
    obtain ⟨g, hg, hgv⟩ : ∃ g : Nat → Nat, (∀ k, 1 ≤ g k ∧ g k < 256) ∧ ∀ k, b ≤ k → k < e → g k = bt T k := by
      refine ⟨fun k => if b ≤ k ∧ k < e then bt T k else 1, fun k => ?_, fun k h1 h2 => if_pos ⟨h1, h2⟩⟩
      by_cases q : b ≤ k ∧ k < e
      · have := hlet k q.1 q.2
        unfold Lb at this
        show 1 ≤ (if b ≤ k ∧ k < e then bt T k else 1) ∧ (if b ≤ k ∧ k < e then bt T k else 1) < 256
        rw [if_pos q]; omega
      · show 1 ≤ (if b ≤ k ∧ k < e then bt T k else 1) ∧ (if b ≤ k ∧ k < e then bt T k else 1) < 256
        rw [if_neg q]; omega
    have hmg : ∀ k, k < 10 → (mt (bt T) b e k ↔ mt g b e k) := fun k hk => by
      unfold mt
      constructor
      · rintro ⟨h1, h2⟩; exact ⟨h1, fun i hi => by rw [hgv _ (by omega) (by omega)]; exact h2 i hi⟩
      · rintro ⟨h1, h2⟩; exact ⟨h1, fun i hi => by rw [← hgv _ (by omega) (by omega)]; exact h2 i hi⟩
    have hvg : ∀ j, b + j ≤ e → vv g b j = vv (bt T) b j := by
      intro j
      induction j with
      | zero => intro _; rfl
      | succ j ih =>
        intro h
        show vv g b j * 256 + g (b + j) = vv (bt T) b j * 256 + bt T (b + j)
        rw [ih (by omega), hgv _ (by omega) (by omega)]
    have hmv : ∀ k, k < 10 → (mt (bt T) b e k ↔ vv (bt T) b (e - b) = cV k) := fun k hk => by
      rw [hmg k hk, mt_vv (fun k => (hg k).2) (fun k => (hg k).1) hk, hvg (e - b) (by omega)]
    -- the class's loop
    have loop : ∀ (n k : Nat), k ≤ 10 → 10 - k < n → (∀ j, j < k → ¬ mt (bt T) b e j) → T_X4_wordHere_2 n S (nI k) ∧ ∃ w, w ≤ 10 ∧ (if (L_X4_wordHere_2 n S (nI k)).1 = 1 then (L_X4_wordHere_2 n S (nI k)).2.1 else 10) = nI w ∧ (w < 10 → mt (bt T) b e w) ∧ (w = 10 → ∀ j, j < 10 → ¬ mt (bt T) b e j) := by
      intro n
      induction n with
      | zero => intro k _ h; omega
      | succ n ih =>
        intro k hk hn hno
        unfold T_X4_wordHere_2 L_X4_wordHere_2
        by_cases c : (10 : Int32) ≤ nI k
        · have : k = 10 := by
            rw [ti_le, nI_ti (by omega), show (10 : Int32).toInt = 10 from rfl] at c
            omega
          subst this
          rw [if_pos c]
          exact ⟨⟨fun q => absurd c q, fun q => absurd c q⟩, 10, by omega, by rw [pr_1, if_neg (by decide)]; rfl, fun q => by omega, fun _ => hno⟩
        · rw [if_neg c]
          have hk10 : k < 10 := by
            rw [ti_le, nI_ti (by omega), show (10 : Int32).toInt = 10 from rfl] at c
            omega
          have ewo : ∀ k, k < 10 → f_X4_wordOf S (nI k) = 2000 + k := by
            intro k hk
            have hc : k = 0 ∨ k = 1 ∨ k = 2 ∨ k = 3 ∨ k = 4 ∨ k = 5 ∨ k = 6 ∨ k = 7 ∨ k = 8 ∨ k = 9 := by omega
            rcases hc with rfl | rfl | rfl | rfl | rfl | rfl | rfl | rfl | rfl | rfl <;> rfl
          rw [ewo k hk10]
          obtain ⟨h1, h2⟩ := here_at hT s4 s5 ⟨hbe, heN⟩ hk10
          by_cases y : mt (bt T) b e k
          · have z := h1.mpr y
            rw [if_neg z]
            exact ⟨⟨fun _ => h2, fun _ q => absurd q z⟩, k, hk, by rw [pr_1, if_pos rfl]; rfl, fun _ => y, fun q => by omega⟩
          · have z : f_X4_isHere S 13 (2000 + k) = 0 := Classical.not_not.mp fun q => y (h1.mp q)
            rw [if_pos z]
            obtain ⟨i1, i2⟩ := ih (k + 1) (by omega) (by omega) (fun j hj => by
              by_cases e : j = k
              · rw [e]; exact y
              · exact hno j (by omega))
            rw [nI_succ] at i1 i2
            exact ⟨⟨fun _ => h2, fun _ _ => i1⟩, i2⟩
    obtain ⟨l1, w, l2, l3, l4, l5⟩ := loop 1000 0 (by omega) (by omega) (fun j hj => by omega)
    rw [show nI 0 = (0 : Int32) from rfl] at l1 l3
    have hw : ∀ k, k < 10 → (mt (bt T) b e k ↔ w = k) := fun k hk => by
      constructor
      · intro q
        by_cases z : w = 10
        · exact absurd q (l5 z k hk)
        · have q2 := l4 (by omega)
          exact cV_inj w (by omega) k hk (((hmv w (by omega)).mp q2).symm.trans ((hmv k hk).mp q))
      · intro q; rw [← q]; exact l4 (by omega)
    refine ⟨w, l2, ⟨fun _ => ⟨?_, l1⟩, fun q => absurd rfl q⟩, ?_, fun k hk => ?_⟩
    · show (F_X4_wordHere S 13).1 = _
      unfold F_X4_wordHere
      rw [bd_def]
      by_cases z : (L_X4_wordHere_2 1000 S 0).1 = 1
      · rw [if_pos z] at l3 ⊢; rw [pr_1]; exact l3
      · rw [if_neg z] at l3 ⊢; rw [pr_1]; exact l3
    · -- places
      intro x ex
      rw [← ex, t14]
      by_cases h8 : e - b < 8
      · have := (word_L hT t13' t14 t15 ⟨hbe, heN⟩ h8 1000 b (by omega) hbe (by omega)).1
        rw [show b - b = 0 by omega] at this
        exact this
      · rw [show (1000 : Nat) = 999 + 1 from rfl]
        unfold T_X12_word_7
        have z8 : (8 : Int32) ≤ gI T 64 15 - gI T 64 14 := by
          rw [t15, t14, ti_le, ti_sub (by rw [nI_ti (by omega), nI_ti (by omega)]; omega) (by rw [nI_ti (by omega), nI_ti (by omega)]; omega), nI_ti (by omega), nI_ti (by omega), show (8 : Int32).toInt = 8 from rfl]
          omega
        exact ⟨fun _ _ q => absurd z8 q, fun _ _ q => absurd z8 q⟩
    · have ew : f_X12_word T 64 = if gI T 64 16 = 0 then (L_X12_word_7 1000 T 0 (nI b)).1 else 0 := by
        show (F_X12_word T 64).1 = _
        unfold F_X12_word
        simp only [bd_def]
        rw [pr_1, t14]
      rw [ew]
      have hcl := cV_lt k hk
      have hc0 : ∀ k, k < 10 → ¬ cV k = 0 := by decide
      by_cases f0 : gI T 64 16 = 0
      · rw [if_pos f0, lgc_eq]
        by_cases h8 : e - b < 8
        · have := (word_L hT t13' t14 t15 ⟨hbe, heN⟩ h8 1000 b (by omega) hbe (by omega)).2
          rw [show b - b = 0 by omega] at this
          have this' : (L_X12_word_7 1000 T 0 (nI b)).1 = Int64.ofNat (vv (bt T) b (e - b)) := this
          have hvl := vv_lt g b (fun k => (hg k).2) (e - b) (by omega)
          rw [hvg (e - b) (by omega)] at hvl
          have h2 : 256 ^ (e - b) ≤ 256 ^ 7 := Nat.pow_le_pow_right (by omega) (by omega)
          have h3 : (256 : Nat) ^ 7 = 2 ^ 56 := by decide
          rw [this', nJ_inj (by omega) (by omega), ← hmv k hk, hw k hk]
          exact ⟨fun q => ⟨f0, q⟩, fun q => q.2⟩
        · have z8 : (8 : Int32) ≤ gI T 64 15 - gI T 64 14 := by
            rw [t15, t14, ti_le, ti_sub (by rw [nI_ti (by omega), nI_ti (by omega)]; omega) (by rw [nI_ti (by omega), nI_ti (by omega)]; omega), nI_ti (by omega), nI_ti (by omega), show (8 : Int32).toInt = 8 from rfl]
            omega
          have e0 : (L_X12_word_7 1000 T 0 (nI b)).1 = 0 := by
            rw [show (1000 : Nat) = 999 + 1 from rfl]
            unfold L_X12_word_7
            rw [if_neg (show ¬ gI T 64 15 ≤ nI b by rw [t15, ti_le, nI_ti (by omega), nI_ti (by omega)]; omega), if_pos t13', if_pos z8, pr_1]
          rw [e0, show (0 : Int64) = Int64.ofNat 0 from rfl, nJ_inj (by omega) (by omega)]
          have hwl := wl_le k hk
          refine ⟨fun q => absurd q.symm (hc0 k hk), fun q => ?_⟩
          have := ((hw k hk).mpr q.2).1
          omega
      · rw [if_neg f0, lgc_eq, show (0 : Int64) = Int64.ofNat 0 from rfl, nJ_inj (by omega) (by omega)]
        exact ⟨fun q => absurd q.symm (hc0 k hk), fun q => absurd q.1 f0⟩
  · -- no name: no word
    have t13n : ¬ gI T 64 13 = 2 := by
      rw [t13]
      have hc : kd = 0 ∨ kd = 2 ∨ kd = 3 ∨ kd = 4 := by omega
      rcases hc with rfl | rfl | rfl | rfl <;> decide
    have s3n : ¬ gI S 13 3 = 1 := by
      rw [s3]
      have hc : kd = 0 ∨ kd = 2 ∨ kd = 3 ∨ kd = 4 := by omega
      rcases hc with rfl | rfl | rfl | rfl <;> decide
    have e0 : ∀ x : Int32, (L_X12_word_7 1000 T 0 x).1 = 0 ∧ T_X12_word_7 1000 T 0 x := fun x => by
      rw [show (1000 : Nat) = 999 + 1 from rfl]
      unfold L_X12_word_7 T_X12_word_7
      rw [if_neg t13n, ite_self]
      exact ⟨rfl, fun _ q => absurd q t13n, fun _ q => absurd q t13n⟩
    refine ⟨10, by omega, ⟨fun q => absurd q s3n, fun _ => rfl⟩, fun x _ => (e0 x).2, fun k hk => ?_⟩
    have ew : f_X12_word T 64 = 0 := by
      show (F_X12_word T 64).1 = _
      unfold F_X12_word
      simp only [bd_def]
      rw [pr_1, (e0 _).1, ite_self]
    have hcl := cV_lt k hk
    have hc0 : ∀ k, k < 10 → ¬ cV k = 0 := by decide
    rw [ew, lgc_eq, show (0 : Int64) = Int64.ofNat 0 from rfl, nJ_inj (by omega) (by omega)]
    exact ⟨fun q => absurd q.symm (hc0 k hk), fun q => by omega⟩
