-- needs: 20.inv
/-! ===== what the small methods answer ===== -/
theorem lgc_lt (x y : Int64) : lg_cmp x y < 0 ↔ x < y := by
  unfold lg_cmp
  rw [Int64.lt_iff_toInt_lt]
  by_cases h : x > y
  · rw [if_pos h]
    have := Int64.lt_iff_toInt_lt.mp h
    exact ⟨fun q => absurd q (by decide), fun q => by omega⟩
  · rw [if_neg h]
    have h' : ¬ y.toInt < x.toInt := fun q => h (Int64.lt_iff_toInt_lt.mpr q)
    by_cases e : x = y
    · rw [if_pos e]
      subst e
      exact ⟨fun q => absurd q (by decide), fun q => by omega⟩
    · rw [if_neg e]
      have : x.toInt ≠ y.toInt := fun q => e (Int64.toInt_inj.mp q)
      exact ⟨fun _ => by omega, fun _ => by decide⟩
theorem lgc_gt (x y : Int64) : 0 < lg_cmp x y ↔ y < x := by
  unfold lg_cmp
  rw [Int64.lt_iff_toInt_lt]
  by_cases h : x > y
  · rw [if_pos h]
    have := Int64.lt_iff_toInt_lt.mp h
    exact ⟨fun _ => by omega, fun _ => by decide⟩
  · rw [if_neg h]
    have h' : ¬ y.toInt < x.toInt := fun q => h (Int64.lt_iff_toInt_lt.mpr q)
    by_cases e : x = y
    · rw [if_pos e]
      exact ⟨fun q => absurd q (by decide), fun q => absurd q h'⟩
    · rw [if_neg e]
      exact ⟨fun q => absurd q (by decide), fun q => absurd q h'⟩
/-- the model's test is the class's -/
theorem in_within (S T : HSt) (a lo hi : Int32) : f_X12_in S a.toInt64 lo.toInt64 hi.toInt64 = f_X11_within T a lo hi := by
  show (if lg_cmp a.toInt64 lo.toInt64 < 0 then (0 : Int32) else if 0 < lg_cmp a.toInt64 hi.toInt64 then 0 else 1) = (if a < lo then (0 : Int32) else if hi < a then 0 else 1)
  simp only [lgc_lt, lgc_gt, Int32.toInt64_lt]
theorem within_1 (T : HSt) {a lo hi : Int32} (h : ¬ f_X11_within T a lo hi = 0) : lo.toInt ≤ a.toInt ∧ a.toInt ≤ hi.toInt := by
  have e : f_X11_within T a lo hi = (if a < lo then (0 : Int32) else if hi < a then 0 else 1) := rfl
  rw [e] at h
  by_cases h1 : a < lo
  · rw [if_pos h1] at h; exact absurd rfl h
  · rw [if_neg h1] at h
    by_cases h2 : hi < a
    · rw [if_pos h2] at h; exact absurd rfl h
    · rw [ti_lt] at h1 h2
      omega
theorem within_0 (T : HSt) {a lo hi : Int32} (h1 : lo.toInt ≤ a.toInt) (h2 : a.toInt ≤ hi.toInt) : f_X11_within T a lo hi = 1 := by
  show (if a < lo then (0 : Int32) else if hi < a then 0 else 1) = 1
  rw [if_neg (by rw [ti_lt]; omega), if_neg (by rw [ti_lt]; omega)]
theorem within_iff (T : HSt) {a lo hi : Int32} : f_X11_within T a lo hi = 0 ↔ ¬ (lo.toInt ≤ a.toInt ∧ a.toInt ≤ hi.toInt) := by
  constructor
  · intro h q
    rw [within_0 T q.1 q.2] at h
    exact absurd h (by decide)
  · intro h
    refine Classical.byContradiction fun q => h (within_1 T q)
theorem within_S (S T : HSt) (a lo hi : Int32) : f_X11_within S a lo hi = f_X11_within T a lo hi := rfl
theorem nI_of_bw {x : Int32} {n : Nat} (h0 : 0 ≤ x.toInt) (h1 : x.toInt < n) (hn : n ≤ 2147483647) : ∃ i, i < n ∧ x = nI i := vp_in_of (vp_in_iff.mpr ⟨h0, h1⟩) (by omega)
theorem nI_clamp' {i : Nat} (h : i < 2147483648) : (nI i).toNatClampNeg = i := nI_clamp h
theorem nI_ti {i : Nat} (h : i < 2147483648) : (nI i).toInt = i := nI_toInt h
/-- a way's numbers: always there -/
theorem tb1 : ∀ s, s < 6 → (tbF 1).getD s 0 = nI (match s with | 0 => 0 | 1 => 3 | 2 => 6 | 3 => 10 | 4 => 16 | _ => 17) := by decide
theorem tb2 : ∀ s, s < 6 → (tbF 2).getD s 0 = nI (match s with | 0 => 3 | 1 => 3 | 2 => 4 | 3 => 6 | 4 => 1 | _ => 20) := by decide
def fst_ (s : Nat) : Nat := match s with | 0 => 0 | 1 => 3 | 2 => 6 | 3 => 10 | 4 => 16 | _ => 17
def rom_ (s : Nat) : Nat := match s with | 0 => 3 | 1 => 3 | 2 => 4 | 3 => 6 | 4 => 1 | _ => 20
theorem fr_le : ∀ s, s < 6 → fst_ s + rom_ s ≤ 37 := by decide
theorem val_at (S : HSt) (o : Nat) {s i f : Nat} (hs : s < 6) (hi : i < rom_ s) (hf : f < 5) : f_X10_value S o (nI s) (nI i) (nI f) = gI S (o + 2) ((fst_ s + i) * 5 + f) := by
  have h37 := fr_le s hs
  have h1 : ¬ nI s < 0 := nI_pos (by omega)
  have h2 : ¬ (6 : Int32) ≤ nI s := nI_ge (a := s) (b := 6) hs (by omega)
  have h3 : ¬ nI i < 0 := nI_pos (by omega)
  have h4 : ¬ (tbF 2).getD s 0 ≤ nI i := by rw [tb2 s hs]; exact nI_ge hi (by unfold rom_ at hi h37; omega)
  have h5 : ¬ nI f < 0 := nI_pos (by omega)
  have h6 : nI f < (5 : Int32) := nI_lt (a := f) (b := 5) hf (by omega)
  show (F_X10_value S o (nI s) (nI i) (nI f)).1 = _
  unfold F_X10_value
  rw [if_neg h1, if_neg h2, if_neg h3, nI_clamp' (by omega), if_neg h4, if_neg h5, if_pos h6]
  show gI S (o + 2) ((((tbF 1).getD s 0 + nI i) * (5 : Int32)) + nI f).toNatClampNeg = _
  rw [tb1 s hs, show (5 : Int32) = nI 5 from rfl, nI_add, pk_mul, nI_add, nI_clamp' (by unfold fst_ at h37; omega)]
  rfl
theorem val_out (S : HSt) (o : Nat) {s : Nat} {a f : Int32} (hs : s < 6) (h : a.toInt < 0 ∨ (rom_ s : Int) ≤ a.toInt) : f_X10_value S o (nI s) a f = 0 := by
  have h37 := fr_le s hs
  have h1 : ¬ nI s < 0 := nI_pos (by omega)
  have h2 : ¬ (6 : Int32) ≤ nI s := nI_ge (a := s) (b := 6) hs (by omega)
  show (F_X10_value S o (nI s) a f).1 = _
  unfold F_X10_value
  rw [if_neg h1, if_neg h2]
  by_cases h3 : a < 0
  · rw [if_pos h3]; rfl
  · rw [if_neg h3, nI_clamp' (by omega), if_pos]
    · rfl
    · rw [tb2 s hs, ti_le, nI_ti (by unfold rom_ at h37; omega)]
      rw [ti_lt] at h3
      have : (0 : Int32).toInt = 0 := rfl
      rcases h with h | h
      · omega
      · exact h
theorem p_val (S : HSt) (o : Nat) (a1 a2 a3 : Int32) : p_X10_value S o a1 a2 a3 := by
  have key : ¬ a1 < 0 → ¬ (6 : Int32) ≤ a1 → ∃ s, s < 6 ∧ a1 = nI s := fun h1 h2 => by
    rw [ti_lt] at h1
    rw [ti_le] at h2
    exact nI_of_bw (n := 6) (by have : (0 : Int32).toInt = 0 := rfl; omega) (by have : (6 : Int32).toInt = 6 := rfl; omega) (by omega)
  refine ⟨fun h1 h2 _ => ?_, fun h1 h2 _ _ _ _ => ?_, fun h1 h2 h3 h4 h5 h6 => ?_⟩
  · obtain ⟨s, hs, rfl⟩ := key h1 h2
    exact vp_in_nI hs (by decide)
  · obtain ⟨s, hs, rfl⟩ := key h1 h2
    exact vp_in_nI hs (by decide)
  · obtain ⟨s, hs, rfl⟩ := key h1 h2
    have h37 := fr_le s hs
    rw [nI_clamp' (by omega)] at h4 ⊢
    obtain ⟨i, hi, rfl⟩ := nI_of h3
    obtain ⟨f, hf, rfl⟩ := nI_of h5
    rw [tb2 s hs] at h4
    have hi2 : i < rom_ s := Nat.not_le.mp fun q => h4 (nI_le q (by omega))
    have hf2 : f < 5 := Nat.not_le.mp fun q => absurd h6 (nI_nlt (a := f) (b := 5) q (by omega))
    rw [tb1 s hs, show (5 : Int32) = nI 5 from rfl, nI_add, pk_mul, nI_add]
    refine vp_in_nI ?_ (by decide)
    show (fst_ s + i) * 5 + f < 185
    omega
theorem p_many (S : HSt) (o : Nat) (a : Int32) : p_X10_howMany S o a := fun h1 h2 => by
  rw [ti_lt] at h1
  rw [ti_le] at h2
  exact vp_in_iff.mpr ⟨by have : (0 : Int32).toInt = 0 := rfl; omega, by have : (6 : Int32).toInt = 6 := rfl; omega⟩
theorem many_at (S : HSt) (o : Nat) {s : Nat} (hs : s < 6) : f_X10_howMany S o (nI s) = gI S (o + 1) s := by
  show (if nI s < 0 then (0 : Int32) else if (6 : Int32) ≤ nI s then 0 else gI S (o + 1) (nI s).toNatClampNeg) = _
  have h2 : ¬ (6 : Int32) ≤ nI s := nI_ge (a := s) (b := 6) hs (by omega)
  rw [if_neg (nI_pos (by omega)), if_neg h2, nI_clamp' (by omega)]
theorem p_has (S : HSt) (o : Nat) (a b : Int32) : p_X10_has S o a b := fun _ => p_many S o a
/-- has: 0 ≤ b < how many -/
theorem has_iff (S : HSt) (o : Nat) {s : Nat} (hs : s < 6) (b : Int32) : f_X10_has S o (nI s) b = 0 ↔ ¬ (0 ≤ b.toInt ∧ b.toInt < (gI S (o + 1) s).toInt) := by
  show (if b < 0 then (0 : Int32) else if f_X10_howMany S o (nI s) ≤ b then 0 else 1) = 0 ↔ _
  rw [many_at S o hs]
  by_cases h1 : b < 0
  · rw [if_pos h1]
    rw [ti_lt] at h1
    have : (0 : Int32).toInt = 0 := rfl
    exact ⟨fun _ q => by omega, fun _ => rfl⟩
  · rw [if_neg h1]
    rw [ti_lt] at h1
    have z : (0 : Int32).toInt = 0 := rfl
    by_cases h2 : gI S (o + 1) s ≤ b
    · rw [if_pos h2]
      rw [ti_le] at h2
      exact ⟨fun _ q => by omega, fun _ => rfl⟩
    · rw [if_neg h2]
      rw [ti_le] at h2
      exact ⟨fun q => absurd q (by decide), fun q => absurd ⟨by omega, by omega⟩ q⟩
theorem p_kind (S : HSt) (o : Nat) (a : Int32) : p_X10_kindOf S o a := p_val S o _ _ _
theorem kind_at (S : HSt) (o : Nat) {i : Nat} (hi : i < 20) : f_X10_kindOf S o (nI i) = gI S (o + 2) ((17 + i) * 5) := val_at S o (s := 5) (i := i) (f := 0) (by decide) hi (by decide)
theorem T_isA (o : Nat) (S : HSt) (v1 v2 : Int32) : ∀ (n : Nat) (v3 : Int32) (j : Nat), j ≤ 7 → 7 - j < n → T_X10_isA_9 o n S v1 v2 v3 (nI j) := by
  intro n
  induction n with
  | zero => intro v3 j _ h; omega
  | succ n ih =>
    intro v3 j hj hn
    unfold T_X10_isA_9
    refine ⟨fun _ h1 h2 _ => ?_, fun h0 _ _ _ x _ => ?_⟩
    · have h1' : ¬ v3.toInt < 0 := fun q => h1 (ti_lt.mpr q)
      have h2' : ¬ 7 ≤ v3.toInt := fun q => h2 (ti_le.mpr q)
      refine vp_in_iff.mpr ⟨by omega, ?_⟩
      show v3.toInt < 7
      omega
    · have hj7 : j < 7 := Nat.not_le.mp fun q => h0 (nI_le (a := 7) (b := j) q (by omega))
      rw [show nI j + (1 : Int32) = nI (j + 1) from (nI_succ j).symm]
      exact ih x (j + 1) (by omega) (by omega)
theorem p_isA (S : HSt) (o : Nat) (a k : Int32) : p_X10_isA S o a k := ⟨p_kind S o a, fun x _ => T_isA o S a k 1000 x 0 (by decide) (by decide)⟩
theorem isA_step (o n : Nat) (S : HSt) (v1 k : Int32) {kd j : Nat} (hkd : kd < 7) (hj : j < 7) : L_X10_isA_9 o (n + 1) S v1 k (nI kd) (nI j) = if nI kd = k then (1, 1, v1, k, nI kd, nI j) else L_X10_isA_9 o n S v1 k ((tbF 0).getD kd 0) (nI (j + 1)) := by
  conv => lhs; unfold L_X10_isA_9
  have q1 : ¬ nI (tbF 0).length ≤ nI j := nI_ge (a := j) (b := 7) hj (by omega)
  have q2 : ¬ nI (tbF 0).length ≤ nI kd := nI_ge (a := kd) (b := 7) hkd (by omega)
  rw [if_neg q1, if_neg (nI_pos (by omega)), if_neg q2]
  by_cases h : nI kd = k
  · rw [if_pos h, if_pos h]; rfl
  · rw [if_neg h, if_neg h, bd_def, nI_clamp' (by omega), ← nI_succ]
theorem isA_end (o n : Nat) (S : HSt) (v1 k : Int32) {j : Nat} (hj : j < 7) : L_X10_isA_9 o (n + 1) S v1 k (-1) (nI j) = (0, 0, v1, k, -1, nI j) := by
  conv => lhs; unfold L_X10_isA_9
  have q1 : ¬ nI (tbF 0).length ≤ nI j := nI_ge (a := j) (b := 7) hj (by omega)
  rw [if_neg q1, if_pos (by decide)]
  rfl
/-- the class's isA is the model's isOf -/
theorem isA_isOf (S T : HSt) (o : Nat) (a k : Int32) {kd : Nat} (hk : f_X10_kindOf S o a = nI kd) (h1 : 2 ≤ kd) (h2 : kd ≤ 6) : f_X10_isA S o a k = f_X12_isOf T (nI kd) k := by
  show (F_X10_isA S o a k).1 = _
  unfold F_X10_isA
  rw [bd_def, hk, bd_def, show (1000 : Nat) = 996 + 1 + 1 + 1 + 1 from rfl]
  have e : f_X12_isOf T (nI kd) k = (if k = 0 then (1 : Int32) else (if nI kd = k then (1 : Int32) else (if k = (1 : Int32) then (if nI kd = (2 : Int32) then (1 : Int32) else (if nI kd = (3 : Int32) then (1 : Int32) else (if k = (4 : Int32) then (if nI kd = (5 : Int32) then (1 : Int32) else (0 : Int32)) else (0 : Int32)))) else (if k = (4 : Int32) then (if nI kd = (5 : Int32) then (1 : Int32) else (0 : Int32)) else (0 : Int32))))) := rfl
  rw [e, show (0 : Int32) = nI 0 from rfl]
  match kd, h1, h2 with
  | 2, _, _ =>
    rw [isA_step o _ S a k (kd := 2) (by decide) (by decide), show (tbF 0).getD 2 0 = nI 1 from rfl, isA_step o _ S a k (kd := 1) (by decide) (by decide), show (tbF 0).getD 1 0 = nI 0 from rfl, isA_step o _ S a k (kd := 0) (by decide) (by decide), show (tbF 0).getD 0 0 = -1 from rfl, isA_end o _ S a k (by decide)]
    by_cases q2 : nI 2 = k
    · subst q2; rfl
    · by_cases q1 : nI 1 = k
      · subst q1; rfl
      · by_cases q0 : nI 0 = k
        · subst q0; rfl
        · rw [if_neg q2, if_neg q1, if_neg q0]
          show nI 0 = _
          rw [if_neg (fun z => q0 z.symm), if_neg q2, if_neg (fun z => q1 z.symm)]
          by_cases q4 : k = 4
          · subst q4; rfl
          · rw [if_neg q4]
  | 3, _, _ =>
    rw [isA_step o _ S a k (kd := 3) (by decide) (by decide), show (tbF 0).getD 3 0 = nI 1 from rfl, isA_step o _ S a k (kd := 1) (by decide) (by decide), show (tbF 0).getD 1 0 = nI 0 from rfl, isA_step o _ S a k (kd := 0) (by decide) (by decide), show (tbF 0).getD 0 0 = -1 from rfl, isA_end o _ S a k (by decide)]
    by_cases q2 : nI 3 = k
    · subst q2; rfl
    · by_cases q1 : nI 1 = k
      · subst q1; rfl
      · by_cases q0 : nI 0 = k
        · subst q0; rfl
        · rw [if_neg q2, if_neg q1, if_neg q0]
          show nI 0 = _
          rw [if_neg (fun z => q0 z.symm), if_neg q2, if_neg (fun z => q1 z.symm)]
          by_cases q4 : k = 4
          · subst q4; rfl
          · rw [if_neg q4]
  | 4, _, _ =>
    rw [isA_step o _ S a k (kd := 4) (by decide) (by decide), show (tbF 0).getD 4 0 = nI 0 from rfl, isA_step o _ S a k (kd := 0) (by decide) (by decide), show (tbF 0).getD 0 0 = -1 from rfl, isA_end o _ S a k (by decide)]
    by_cases q2 : nI 4 = k
    · subst q2; rfl
    · by_cases q0 : nI 0 = k
      · subst q0; rfl
      · rw [if_neg q2, if_neg q0]
        show nI 0 = _
        rw [if_neg (fun z => q0 z.symm), if_neg q2]
        by_cases q1 : k = 1
        · subst q1; rfl
        · rw [if_neg q1, if_neg (fun z => q2 z.symm)]
  | 5, _, _ =>
    rw [isA_step o _ S a k (kd := 5) (by decide) (by decide), show (tbF 0).getD 5 0 = nI 4 from rfl, isA_step o _ S a k (kd := 4) (by decide) (by decide), show (tbF 0).getD 4 0 = nI 0 from rfl, isA_step o _ S a k (kd := 0) (by decide) (by decide), show (tbF 0).getD 0 0 = -1 from rfl, isA_end o _ S a k (by decide)]
    by_cases q2 : nI 5 = k
    · subst q2; rfl
    · by_cases q4 : nI 4 = k
      · subst q4; rfl
      · by_cases q0 : nI 0 = k
        · subst q0; rfl
        · rw [if_neg q2, if_neg q4, if_neg q0]
          show nI 0 = _
          rw [if_neg (fun z => q0 z.symm), if_neg q2]
          by_cases q1 : k = 1
          · subst q1; rfl
          · rw [if_neg q1, if_neg (fun z => q4 z.symm)]
  | 6, _, _ =>
    rw [isA_step o _ S a k (kd := 6) (by decide) (by decide), show (tbF 0).getD 6 0 = nI 0 from rfl, isA_step o _ S a k (kd := 0) (by decide) (by decide), show (tbF 0).getD 0 0 = -1 from rfl, isA_end o _ S a k (by decide)]
    by_cases q2 : nI 6 = k
    · subst q2; rfl
    · by_cases q0 : nI 0 = k
      · subst q0; rfl
      · rw [if_neg q2, if_neg q0]
        show nI 0 = _
        rw [if_neg (fun z => q0 z.symm), if_neg q2]
        by_cases q1 : k = 1
        · subst q1; rfl
        · rw [if_neg q1]
          by_cases q4 : k = 4
          · subst q4; rfl
          · rw [if_neg q4]
