-- needs: 65.word
/-! ===== way: numbers ===== -/
theorem put_at (S : HSt) (o : Nat) {s i f : Nat} (hs : s < 6) (hi : i < rom_ s) (hf : f < 5) (v : Int32) : f_X10_put S o (nI s) (nI i) (nI f) v = sI S (o + 2) ((fst_ s + i) * 5 + f) v := by
  have h37 := fr_le s hs
  have h1 : ¬ nI s < 0 := nI_pos (by omega)
  have h2 : ¬ (6 : Int32) ≤ nI s := nI_ge (a := s) (b := 6) hs (by omega)
  have h3 : ¬ nI i < 0 := nI_pos (by omega)
  have h4 : ¬ (tbF 2).getD s 0 ≤ nI i := by rw [tb2 s hs]; exact nI_ge hi (by unfold rom_ at hi h37; omega)
  have h5 : ¬ nI f < 0 := nI_pos (by omega)
  have h6 : nI f < (5 : Int32) := nI_lt (a := f) (b := 5) hf (by omega)
  unfold f_X10_put
  rw [if_neg h1, if_neg h2, if_neg h3, nI_clamp' (i := s) (by omega), if_neg h4, if_neg h5, if_pos h6, bd_def, tb1 s hs, show (5 : Int32) = nI 5 from rfl, nI_add, pk_mul, nI_add, nI_clamp' (by unfold fst_ at h37; omega)]
  rfl
theorem p_put (S : HSt) (o : Nat) {s i f : Nat} (hs : s < 6) (hi : i < rom_ s) (hf : f < 5) (v : Int32) : p_X10_put S o (nI s) (nI i) (nI f) v := by
  have h37 := fr_le s hs
  refine ⟨fun _ _ _ => vp_in_nI hs (by decide), fun _ _ _ _ _ _ => vp_in_nI hs (by decide), fun _ _ _ _ _ _ => ?_⟩
  rw [nI_clamp' (by omega), tb1 s hs, show (5 : Int32) = nI 5 from rfl, nI_add, pk_mul, nI_add]
  refine vp_in_nI ?_ (by decide)
  show (fst_ s + i) * 5 + f < 185
  omega
theorem bad_0 {T : HSt} (h : gI T 64 16 = 0) (c : Int32) : f_X12_bad T 64 c = sI (sI T 64 16 c) 64 17 (gI T 64 14) := by
  unfold f_X12_bad
  simp only [bd_def]
  rw [if_pos h, gs_o (by decide)]
theorem bad_1 {T : HSt} (h : ¬ gI T 64 16 = 0) (c : Int32) : f_X12_bad T 64 c = T := by
  unfold f_X12_bad
  simp only [bd_def]
  rw [if_neg h]
theorem must_1 {T : HSt} (h : gI T 64 16 = 0) : f_X12_must T 64 1 = f_X12_next T 64 := by
  unfold f_X12_must
  simp only [bd_def]
  rw [if_neg one_ne, if_pos h]
theorem must_f {T : HSt} (h : ¬ gI T 64 16 = 0) (x : Int32) : f_X12_must T 64 x = T := by
  unfold f_X12_must
  simp only [bd_def]
  rw [bad_1 h, ite_self, if_neg h]
theorem must_0 {T : HSt} (h : gI T 64 16 = 0) : f_X12_must T 64 0 = sI (sI T 64 16 1) 64 17 (gI T 64 14) := by
  unfold f_X12_must
  simp only [bd_def]
  rw [if_pos trivial, bad_0 h, if_neg]
  rw [gs_o (by decide), gs_eq, if_pos rfl]
  decide
/-- the model's figures -/
theorem num_L {N b e : Nat} {S T : HSt} (hT : TP N S T) (h13 : gI T 64 13 = 3) (h15 : gI T 64 15 = nI e) (he : b ≤ e ∧ e ≤ N) (h3 : e - b ≤ 3) (hF : ∀ k, b ≤ k → k < e → Fb (bt T k)) (v1 v2 v3 : Int32) : ∀ (n p : Nat), b ≤ p → p ≤ e → e - p < n → T_X12_number_17 n T v1 v2 v3 (nI (nvr (bt T) b (p - b))) (nI p) ∧ (L_X12_number_17 n T v1 v2 v3 (nI (nvr (bt T) b (p - b))) (nI p)).1 = v1 ∧ (L_X12_number_17 n T v1 v2 v3 (nI (nvr (bt T) b (p - b))) (nI p)).2.1 = v2 ∧ (L_X12_number_17 n T v1 v2 v3 (nI (nvr (bt T) b (p - b))) (nI p)).2.2.1 = v3 ∧ (L_X12_number_17 n T v1 v2 v3 (nI (nvr (bt T) b (p - b))) (nI p)).2.2.2.1 = nI (nvr (bt T) b (e - b)) := by
  have hN := hT.2.2.1
  intro n
  induction n with
  | zero => intro p _ _ h; omega
  | succ n ih =>
    intro p hb hp hn
    unfold T_X12_number_17 L_X12_number_17
    rw [h15, h13]
    by_cases c : nI e ≤ nI p
    · have : p = e := by
        rw [ti_le, nI_ti (by omega), nI_ti (by omega)] at c
        omega
      subst this
      rw [if_pos c]
      exact ⟨⟨fun q => absurd c q, fun q => absurd c q⟩, rfl, rfl, rfl, rfl⟩
    · have hlt : p < e := by
        rw [ti_le, nI_ti (by omega), nI_ti (by omega)] at c
        omega
      have hfp := hF p hb hlt
      unfold Fb at hfp
      have hl := (nvr_lt (bt T) b (p - b) (fun k hk => hF (b + k) (by omega) (by omega)) (by omega)).2.1 (by omega)
      rw [if_neg c, if_pos rfl, bd_def, nI_clamp' (by omega), (hT.m (k := p) (by omega)).1]
      have ev : ((10 : Int32) * nI (nvr (bt T) b (p - b)) + nI (bt T p)) - (48 : Int32) = nI (nvr (bt T) b (p + 1 - b)) := by
        rw [show p + 1 - b = (p - b) + 1 by omega]
        show _ = nI (nvr (bt T) b (p - b) * 10 + bt T (b + (p - b)) - 48)
        rw [show b + (p - b) = p by omega, show (10 : Int32) = nI 10 from rfl, pk_mul, nI_add, ti_eq, ti_sub (by rw [nI_ti (by omega), show (48 : Int32).toInt = 48 from rfl]; omega) (by rw [nI_ti (by omega), show (48 : Int32).toInt = 48 from rfl]; omega), nI_ti (by omega), nI_ti (by omega), show (48 : Int32).toInt = 48 from rfl]
        omega
      rw [ev]
      obtain ⟨i1, i2⟩ := ih (p + 1) (by omega) (by omega) (by omega)
      rw [nI_succ] at i1 i2
      exact ⟨⟨fun _ _ => vp_in_nI (by omega) (by omega), fun _ _ x ex => by rw [← ex]; exact i1⟩, i2⟩
theorem num_n {T : HSt} (h13 : ¬ gI T 64 13 = 3) (v1 v2 v3 x : Int32) : T_X12_number_17 1000 T v1 v2 v3 0 x ∧ (L_X12_number_17 1000 T v1 v2 v3 0 x).1 = v1 := by
  rw [show (1000 : Nat) = 999 + 1 from rfl]
  unfold T_X12_number_17 L_X12_number_17
  rw [if_neg h13, ite_self]
  exact ⟨⟨fun _ q => absurd q h13, fun _ q => absurd q h13⟩, rfl⟩
theorem number_f {T : HSt} (h : 0 < (gI T 64 16).toInt) (a lo hi : Int32) : f_X12_number T 64 a lo hi = T ∧ p_X12_number T 64 a lo hi := by
  have z : ¬ gI T 64 16 ≤ 0 := by rw [ti_le, ti0]; omega
  constructor
  · unfold f_X12_number
    rw [if_neg z]
  · exact ⟨fun q => absurd q z, fun q => absurd q z, fun q => absurd q z⟩
theorem in_iff (T : HSt) (x lo hi : Int32) : f_X12_in T x.toInt64 lo.toInt64 hi.toInt64 = 0 ↔ ¬ (lo.toInt ≤ x.toInt ∧ x.toInt ≤ hi.toInt) := by
  rw [in_within T T, within_iff]
/-- what a fault leaves -/
def FE (S T : HSt) : Prop := ∃ c : Nat, 1 ≤ c ∧ c ≤ 3 ∧ gI S 13 7 = nI c ∧ gI T 64 16 = nI c ∧ gI S 13 8 = gI T 64 17
/-- the model's number, the three ways -/
theorem number_at {N kd b e : Nat} {S T : HSt} (hT : TP N S T) (hX : NX N S T kd b e) (h0 : gI T 64 16 = 0) {at' : Nat} (hat : at' < 172) (lo hi : Int32) : p_X12_number T 64 (nI at') lo hi ∧ (kd ≠ 2 → f_X12_number T 64 (nI at') lo hi = sI (sI T 64 16 1) 64 17 (nI b)) ∧ (kd = 2 → ¬ (lo.toInt ≤ (nvr (bt T) b (e - b) : Int) ∧ (nvr (bt T) b (e - b) : Int) ≤ hi.toInt) → f_X12_number T 64 (nI at') lo hi = sI (sI T 64 16 2) 64 17 (nI b)) ∧ (kd = 2 → lo.toInt ≤ (nvr (bt T) b (e - b) : Int) ∧ (nvr (bt T) b (e - b) : Int) ≤ hi.toInt → f_X12_number T 64 (nI at') lo hi = sI (f_X12_next T 64) 69 at' (nI (nvr (bt T) b (e - b)))) := by
  have hX' := hX
  obtain ⟨⟨s3, s4, s5⟩, ⟨t12, t13, t14, t15⟩, ⟨hbe, heN, hkd⟩, -, hnum⟩ := hX'
  have hN := hT.2.2.1
  have z : gI T 64 16 ≤ 0 := by rw [h0]; decide
  have fn := v_X12_next T 64
  have n16 : gI (f_X12_next T 64) 64 16 = 0 := by rw [fn 64 16 (by decide) (by decide), h0]
  obtain ⟨-, pn, -⟩ := next_R hT s5 t12 heN
  by_cases ck : kd = 2
  · subst ck
    obtain ⟨h3, hlt, hF, -⟩ := hnum rfl
    have t13' : gI T 64 13 = 3 := t13
    have hl := (nvr_lt (bt T) b (e - b) (fun k hk => hF (b + k) (by omega) (by omega)) h3).1
    obtain ⟨l1, l2, l3, l4, l5⟩ := num_L hT t13' t15 ⟨hbe, heN⟩ h3 hF (nI at') lo hi 1000 b (by omega) hbe (by omega)
    rw [show b - b = 0 by omega] at l1 l2 l3 l4 l5
    have l1' : T_X12_number_17 1000 T (nI at') lo hi 0 (nI b) := l1
    have e0 : L_X12_number_17 1000 T (nI at') lo hi (nI (nvr (bt T) b 0)) (nI b) = L_X12_number_17 1000 T (nI at') lo hi 0 (nI b) := rfl
    rw [e0] at l2 l3 l4 l5
    have hin := in_iff T (nI (nvr (bt T) b (e - b))) lo hi
    rw [nI_ti (by omega)] at hin
    have b2 : ¬ gI (sI (sI T 64 16 2) 64 17 (nI b)) 64 16 = 0 := by rw [gs_o (by decide), gs_eq, if_pos rfl]; decide
    have b13 : gI (sI (sI T 64 16 2) 64 17 (nI b)) 64 13 = 3 := by rw [gs_o (by decide), gs_o (by decide)]; exact t13'
    have hbad : f_X12_bad T 64 2 = sI (sI T 64 16 2) 64 17 (nI b) := by rw [bad_0 h0, t14]
    refine ⟨⟨fun _ x ex => by rw [← ex, t14]; exact l1', fun _ x ex r er S7 e7 x9 e9 => ?_, fun _ x ex r er S7 e7 x9 e9 r10 e10 q => ?_⟩, fun q => absurd rfl q, fun _ q => ?_, fun _ q => ?_⟩
    · intro S3 e3 q
      rw [← ex, t14] at er
      rw [← er, l5, l3, l4, if_pos t13'] at e7
      by_cases y : lo.toInt ≤ (nvr (bt T) b (e - b) : Int) ∧ (nvr (bt T) b (e - b) : Int) ≤ hi.toInt
      · rw [if_neg (fun w => hin.mp w y)] at e7
        rw [← e7, if_pos t13'] at e9
        rw [← e9, ← e7, if_neg one_ne] at e3
        rw [← e3]; exact pn
      · rw [if_pos (hin.mpr y), bd_def, hbad] at e7
        rw [← e7, if_pos b13] at e9
        rw [← e9, ← e7, if_neg one_ne] at e3
        rw [← e3] at q
        exact absurd q b2
    · rw [← ex, t14] at er
      rw [← er, l2]
      exact vp_in_nI hat (by omega)
    · unfold f_X12_number
      simp only [bd_def]
      rw [if_pos z, t14, l5, l3, l4, l2, if_pos t13', if_pos (hin.mpr q), hbad, if_pos b13, must_f b2, if_neg b2]
    · unfold f_X12_number
      simp only [bd_def]
      rw [if_pos z, t14, l5, l3, l4, l2, if_pos t13', if_neg (fun w => hin.mp w q), if_pos t13', must_1 h0, if_pos n16, nI_clamp' (by omega)]
  · have t13n : ¬ gI T 64 13 = 3 := by
      rw [t13]
      have hc : kd = 0 ∨ kd = 1 ∨ kd = 3 ∨ kd = 4 := by omega
      rcases hc with rfl | rfl | rfl | rfl <;> decide
    have b2 : ¬ gI (sI (sI T 64 16 1) 64 17 (nI b)) 64 16 = 0 := by rw [gs_o (by decide), gs_eq, if_pos rfl]; decide
    have hm : f_X12_must T 64 0 = sI (sI T 64 16 1) 64 17 (nI b) := by rw [must_0 h0, t14]
    refine ⟨⟨fun _ x ex => (num_n t13n _ _ _ _).1, fun _ x ex r er S7 e7 x9 e9 => ?_, fun _ x ex r er S7 e7 x9 e9 r10 e10 q => ?_⟩, fun _ => ?_, fun q => absurd q ck, fun q => absurd q ck⟩
    · intro S3 e3 q
      rw [if_neg t13n] at e7
      rw [← e7, if_neg t13n] at e9
      rw [← e9, ← e7, if_pos rfl, bd_def, bad_0 h0, t14] at e3
      rw [← e3] at q
      exact absurd q b2
    · rw [← er, (num_n t13n _ _ _ _).2]
      exact vp_in_nI hat (by omega)
    · unfold f_X12_number
      simp only [bd_def]
      rw [if_pos z, if_neg t13n, if_neg t13n, hm, if_neg b2]
/-- the state within a thing: k numbers of it are read -/
def PR (N at' base : Nat) (S0 T0 : HSt) (lc hc : Nat → Int) (k : Nat) (S T : HSt) : Prop := TP N S T ∧ (∃ kd b e, NX N S T kd b e) ∧ gI T 64 16 = 0 ∧ (∀ j, j < k → gI S 17 (base + j) = gI T 69 (at' + j) ∧ bw (gI T 69 (at' + j)) (lc j) (hc j)) ∧ (∀ x, ¬ (base ≤ x ∧ x < base + k) → gI S 17 x = gI S0 17 x) ∧ (∀ x, ¬ (at' ≤ x ∧ x < at' + k) → gI T 69 x = gI T0 69 x) ∧ gI S 16 = gI S0 16
/-- the model's numbers one by one -/
noncomputable def iterN (at' : Nat) (lo hi : Nat → HSt → Int32) : Nat → Nat → HSt → HSt
  | 0, _, T => T
  | j + 1, k, T => iterN at' lo hi j (k + 1) (f_X12_number T 64 (nI (at' + k)) (lo k T) (hi k T))
def pIter (at' : Nat) (lo hi : Nat → HSt → Int32) : Nat → Nat → HSt → Prop
  | 0, _, _ => True
  | j + 1, k, T => p_X12_number T 64 (nI (at' + k)) (lo k T) (hi k T) ∧ pIter at' lo hi j (k + 1) (f_X12_number T 64 (nI (at' + k)) (lo k T) (hi k T))
theorem iter_f (at' : Nat) (lo hi : Nat → HSt → Int32) : ∀ (j k : Nat) (T : HSt), 0 < (gI T 64 16).toInt → iterN at' lo hi j k T = T ∧ pIter at' lo hi j k T := by
  intro j
  induction j with
  | zero => intro k T _; exact ⟨rfl, trivial⟩
  | succ j ih =>
    intro k T h
    obtain ⟨n1, n2⟩ := number_f h (nI (at' + k)) (lo k T) (hi k T)
    show iterN at' lo hi j (k + 1) (f_X12_number T 64 (nI (at' + k)) (lo k T) (hi k T)) = T ∧ (p_X12_number T 64 (nI (at' + k)) (lo k T) (hi k T) ∧ pIter at' lo hi j (k + 1) (f_X12_number T 64 (nI (at' + k)) (lo k T) (hi k T)))
    rw [n1]
    exact ⟨(ih (k + 1) T h).1, n2, (ih (k + 1) T h).2⟩
theorem nums {N at' w s i first K : Nat} {S0 T0 : HSt} {lc hc : Nat → Int} {lo hi : Nat → HSt → Int32} (hw : w < 10) (hs : s < 6) (hi' : i < rom_ s) (hfk : first + K ≤ 5) (hatK : at' + K ≤ 172) (hK : (tbF 3).getD w 0 = nI K)
    (hlo : ∀ k, k < K → ∀ S T, PR N at' ((fst_ s + i) * 5 + first) S0 T0 lc hc k S T → (f_X4_lowOf S 13 (nI w) (nI k) (nI i) = lo k T ∧ p_X4_lowOf S 13 (nI w) (nI k) (nI i)) ∧ (f_X4_highOf S 13 (nI w) (nI k) = hi k T ∧ p_X4_highOf S 13 (nI w) (nI k)) ∧ lc k ≤ (lo k T).toInt ∧ (hi k T).toInt ≤ hc k) : ∀ (j k n : Nat) (S T : HSt), k + j = K → j < n → PR N at' ((fst_ s + i) * 5 + first) S0 T0 lc hc k S T → T_X4_readThing_28 n S (nI w) (nI s) (nI i) (nI first) (nI k) ∧ pIter at' lo hi j k T ∧ (((L_X4_readThing_28 n S (nI w) (nI s) (nI i) (nI first) (nI k)).1 = 1 ∧ (L_X4_readThing_28 n S (nI w) (nI s) (nI i) (nI first) (nI k)).2.1 = 0 ∧ FE (L_X4_readThing_28 n S (nI w) (nI s) (nI i) (nI first) (nI k)).2.2.2.2.2.2.2 (iterN at' lo hi j k T) ∧ 0 < (gI (iterN at' lo hi j k T) 64 16).toInt) ∨ (¬ (L_X4_readThing_28 n S (nI w) (nI s) (nI i) (nI first) (nI k)).1 = 1 ∧ ((L_X4_readThing_28 n S (nI w) (nI s) (nI i) (nI first) (nI k)).2.2.1 = nI w ∧ (L_X4_readThing_28 n S (nI w) (nI s) (nI i) (nI first) (nI k)).2.2.2.1 = nI s ∧ (L_X4_readThing_28 n S (nI w) (nI s) (nI i) (nI first) (nI k)).2.2.2.2.1 = nI i) ∧ PR N at' ((fst_ s + i) * 5 + first) S0 T0 lc hc K (L_X4_readThing_28 n S (nI w) (nI s) (nI i) (nI first) (nI k)).2.2.2.2.2.2.2 (iterN at' lo hi j k T))) := by
  have h37 := fr_le s hs
  intro j
  induction j with
  | zero =>
    intro k n S T hk hn hP
    match n, hn with
    | n + 1, _ =>
      have : k = K := by omega
      subst this
      unfold T_X4_readThing_28 L_X4_readThing_28
      rw [nI_clamp' (i := w) (by omega), hK]
      have z : nI k ≤ nI k := by rw [ti_le]; exact Int.le_refl _
      rw [if_pos z]
      refine ⟨⟨vp_in_nI hw (by decide), fun q => absurd z q, fun q => absurd z q, fun q => absurd z q, fun q => absurd z q, fun q => absurd z q, fun q => absurd z q, fun q => absurd z q, fun q => absurd z q⟩, trivial, Or.inr ⟨fun q => absurd (show (0 : Int32) = 1 from q) (by decide), ⟨rfl, rfl, rfl⟩, hP⟩⟩
  | succ j ih =>
    intro k n S T hk hn hP
    match n, hn with
    | n + 1, hn =>
      have hkK : k < K := by omega
      obtain ⟨⟨l1, l2⟩, ⟨g1, g2⟩, lb, hb⟩ := hlo k hkK S T hP
      obtain ⟨hT, ⟨kd, b, e, hX⟩, h0, hj, hx, hy, h16⟩ := hP
      have hX' := hX
      obtain ⟨⟨s3, s4, s5⟩, ⟨t12, t13, t14, t15⟩, ⟨hbe, heN, hkd⟩, -, hnum⟩ := hX'
      obtain ⟨np, n1, n2, n3⟩ := number_at hT hX h0 (at' := at' + k) (by omega) (lo k T) (hi k T)
      have hN := hT.2.2.1
      unfold T_X4_readThing_28 L_X4_readThing_28
      rw [nI_clamp' (i := w) (by omega), hK]
      have z : ¬ nI K ≤ nI k := by rw [ti_le, nI_ti (by omega), nI_ti (by omega)]; omega
      rw [if_neg z, l1, g1]
      show (_ ∧ _) ∧ (p_X12_number T 64 (nI (at' + k)) (lo k T) (hi k T) ∧ pIter at' lo hi j (k + 1) (f_X12_number T 64 (nI (at' + k)) (lo k T) (hi k T))) ∧ _
      have eiter : iterN at' lo hi (j + 1) k T = iterN at' lo hi j (k + 1) (f_X12_number T 64 (nI (at' + k)) (lo k T) (hi k T)) := rfl
      rw [eiter]
      have bz : ∀ c : Int32, ∀ r : Int32 × HSt, f_X4_fail S 13 c = r → Bz r.1 := fun c r er => by rw [← er]; exact Or.inl rfl
      -- a fault
      have fault : ∀ c : Nat, 1 ≤ c → c ≤ 3 → f_X12_number T 64 (nI (at' + k)) (lo k T) (hi k T) = sI (sI T 64 16 (nI c)) 64 17 (nI b) → pIter at' lo hi j (k + 1) (f_X12_number T 64 (nI (at' + k)) (lo k T) (hi k T)) ∧ FE (f_X4_fail S 13 (nI c)).2 (iterN at' lo hi j (k + 1) (f_X12_number T 64 (nI (at' + k)) (lo k T) (hi k T))) ∧ 0 < (gI (iterN at' lo hi j (k + 1) (f_X12_number T 64 (nI (at' + k)) (lo k T) (hi k T))) 64 16).toInt := fun c c1 c3 e => by
        have hp : 0 < (gI (sI (sI T 64 16 (nI c)) 64 17 (nI b)) 64 16).toInt := by rw [gs_o (by decide), gs_eq, if_pos rfl, nI_ti (by omega)]; omega
        obtain ⟨i1, i2⟩ := iter_f at' lo hi j (k + 1) _ hp
        rw [e, i1]
        refine ⟨i2, ⟨c, c1, c3, ?_, ?_, ?_⟩, hp⟩
        · show gI (sI (sI S 13 7 (nI c)) 13 8 (gI (sI S 13 7 (nI c)) 13 4)) 13 7 = _
          rw [gs_o (by decide), gs_eq, if_pos rfl]
        · rw [gs_o (by decide), gs_eq, if_pos rfl]
        · show gI (sI (sI S 13 7 (nI c)) 13 8 (gI (sI S 13 7 (nI c)) 13 4)) 13 8 = _
          rw [gs_eq, if_pos rfl, gs_o (by decide), s4, gs_eq, if_pos rfl]
      by_cases ck : kd = 2
      · subst ck
        have s3' : gI S 13 3 = 2 := s3
        obtain ⟨h3, hlt, hF, hv⟩ := hnum rfl
        have hl := (nvr_lt (bt T) b (e - b) (fun k hk => hF (b + k) (by omega) (by omega)) h3).1
        rw [if_pos s3', hv]
        have zl : nI (nvr (bt T) b (e - b)) < lo k T ↔ (nvr (bt T) b (e - b) : Int) < (lo k T).toInt := by rw [ti_lt, nI_ti (by omega)]
        have zh : nI (nvr (bt T) b (e - b)) ≤ hi k T ↔ (nvr (bt T) b (e - b) : Int) ≤ (hi k T).toInt := by rw [ti_le, nI_ti (by omega)]
        by_cases y1 : nI (nvr (bt T) b (e - b)) < lo k T
        · obtain ⟨q1, q2, q3⟩ := fault 2 (by omega) (by omega) (n2 rfl (fun q => by have := zl.mp y1; omega))
          rw [if_pos y1]
          exact ⟨⟨vp_in_nI hw (by decide), fun _ _ => l2, fun _ _ _ => bz 2, fun _ _ q => absurd y1 q, fun _ _ q => absurd y1 q, fun _ _ q => absurd y1 q, fun _ _ q => absurd y1 q, fun _ _ q => absurd y1 q, fun _ q => absurd s3' q⟩, ⟨np, q1⟩, Or.inl ⟨rfl, rfl, q2, q3⟩⟩
        · rw [if_neg y1]
          by_cases y2 : nI (nvr (bt T) b (e - b)) ≤ hi k T
          · have hin : (lo k T).toInt ≤ (nvr (bt T) b (e - b) : Int) ∧ (nvr (bt T) b (e - b) : Int) ≤ (hi k T).toInt := ⟨by have : ¬ _ := fun q => y1 (zl.mpr q); omega, zh.mp y2⟩
            have e3 := n3 rfl hin
            rw [if_pos y2, bd_def, bd_def, nI_add, put_at S 15 hs hi' (by omega)]
            obtain ⟨S1, hS1⟩ : ∃ S1, sI S (15 + 2) ((fst_ s + i) * 5 + (first + k)) (nI (nvr (bt T) b (e - b))) = S1 := ⟨_, rfl⟩
            rw [hS1, e3]
            have hT1 : TP N S1 T := by
              rw [← hS1]
              exact hT.of (by rw [gs_ne (show (13 : Nat) ≠ 15 + 2 by decide)]) (by rw [gs_ne (show (14 : Nat) ≠ 15 + 2 by decide)]) rfl rfl
            obtain ⟨x1, x2, x3, kd2, b2, e2, x4⟩ := next_R hT1 (p := e) (by rw [← hS1, gs_ne (by decide), s5]) t12 heN
            have fc := v_X4_next S1 13
            have fm := v_X12_next T 64
            have hbt : bt (sI (f_X12_next T 64) 69 (at' + k) (nI (nvr (bt T) b (e - b)))) = bt (f_X12_next T 64) := bt_of (gs_ne (by decide))
            have hPn : PR N at' ((fst_ s + i) * 5 + first) S0 T0 lc hc (k + 1) (f_X4_next S1 13) (sI (f_X12_next T 64) 69 (at' + k) (nI (nvr (bt T) b (e - b)))) := by
              have c17 : gI (f_X4_next S1 13) 17 = gI S1 17 := fr_addr fc 17 (by decide)
              have m69 : ∀ x, gI (f_X12_next T 64) 69 x = gI T 69 x := fun x => congrFun (fr_addr fm 69 (by decide)) x
              refine ⟨x3.of rfl rfl (by rw [gs_ne (show (64 : Nat) ≠ 69 by decide)]) (by rw [gs_ne (show (70 : Nat) ≠ 69 by decide)]), ⟨kd2, b2, e2, ?_⟩, ?_, fun jj hjj => ?_, fun x hxx => ?_, fun x hxx => ?_, ?_⟩
              · unfold NX at x4 ⊢
                rw [hbt, gs_ne (show (64 : Nat) ≠ 69 by decide)]
                exact x4
              · rw [gs_ne (by decide), fm 64 16 (by decide) (by decide), h0]
              · rw [c17, ← hS1, gs_eq, gs_eq, m69]
                by_cases ej : jj = k
                · subst ej
                  rw [if_pos (by omega), if_pos rfl]
                  refine ⟨rfl, ?_, ?_⟩
                  · rw [nI_ti (by omega)]; omega
                  · rw [nI_ti (by omega)]; omega
                · rw [if_neg (by omega), if_neg (by omega)]
                  exact hj jj (by omega)
              · rw [c17, ← hS1, gs_eq, if_neg (by omega)]
                exact hx x (by omega)
              · rw [gs_eq, if_neg (by omega), m69]
                exact hy x (by omega)
              · rw [fr_addr fc 16 (by decide), ← hS1, gs_ne (by decide)]
                exact h16
            obtain ⟨i1, i2, i3⟩ := ih (k + 1) n (f_X4_next S1 13) (sI (f_X12_next T 64) 69 (at' + k) (nI (nvr (bt T) b (e - b)))) (by omega) (by omega) hPn
            rw [nI_succ] at i1 i3
            refine ⟨⟨vp_in_nI hw (by decide), fun _ _ => l2, fun _ _ q => absurd q y1, fun _ _ _ => g2, fun _ _ _ _ => ?_, fun _ _ _ _ r er => ?_, fun _ _ _ _ r er r2 er2 => ?_, fun _ _ _ q => absurd y2 q, fun _ q => absurd s3' q⟩, ⟨?_, i2⟩, i3⟩
            · exact p_put S 15 hs hi' (by omega) _
            · rw [← er]; exact x1
            · rw [← er] at er2
              rw [← er2]; exact i1
            · exact np
          · obtain ⟨q1, q2, q3⟩ := fault 2 (by omega) (by omega) (n2 rfl (fun q => y2 (zh.mpr q.2)))
            rw [if_neg y2]
            exact ⟨⟨vp_in_nI hw (by decide), fun _ _ => l2, fun _ _ q => absurd q y1, fun _ _ _ => g2, fun _ _ _ q => absurd q y2, fun _ _ _ q => absurd q y2, fun _ _ _ q => absurd q y2, fun _ _ _ _ => bz 2, fun _ q => absurd s3' q⟩, ⟨np, q1⟩, Or.inl ⟨rfl, rfl, q2, q3⟩⟩
      · have s3n : ¬ gI S 13 3 = 2 := by
          rw [s3]
          have hc : kd = 0 ∨ kd = 1 ∨ kd = 3 ∨ kd = 4 := by omega
          rcases hc with rfl | rfl | rfl | rfl <;> decide
        obtain ⟨q1, q2, q3⟩ := fault 1 (by omega) (by omega) (n1 ck)
        rw [if_neg s3n]
        exact ⟨⟨vp_in_nI hw (by decide), fun _ q => absurd q s3n, fun _ q => absurd q s3n, fun _ q => absurd q s3n, fun _ q => absurd q s3n, fun _ q => absurd q s3n, fun _ q => absurd q s3n, fun _ q => absurd q s3n, fun _ _ => bz 1⟩, ⟨np, q1⟩, Or.inl ⟨rfl, rfl, q2, q3⟩⟩
