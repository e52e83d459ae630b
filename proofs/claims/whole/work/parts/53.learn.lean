-- needs: 48.rg
/-! ===== learn ===== -/
theorem skill_eq {S T : HSt} (hW : WayR (gI S 20) (gI S 21) (gI T 68)) (hB : WayB (gI T 68)) {r v : Nat} (hr : r < 3) (hv : v ≤ 100) : f_X8_skillBehind S 19 (nI r) (nI v) = f_X12_skillBy T 64 (nI v) (nI r) ∧ p_X12_skillBy T 64 (nI v) (nI r) ∧ ∃ w, v ≤ w ∧ w ≤ 100 ∧ f_X12_skillBy T 64 (nI v) (nI r) = nI w := by
  have e1 : (6 : Int32) + (3 : Int32) * nI r = nI (6 + 3 * r) := by rw [show (6 : Int32) = nI 6 from rfl, show (3 : Int32) = nI 3 from rfl, pk_mul, nI_add]
  have e2 : ((6 : Int32) + (3 : Int32) * nI r) + 1 = nI (6 + 3 * r + 1) := by rw [e1, show (1 : Int32) = nI 1 from rfl, nI_add]
  have V1 : f_X10_value S 19 0 (nI r) 1 = gI T 68 (6 + 3 * r + 1) := (val_at S 19 (s := 0) (i := r) (f := 1) (by decide) hr (by decide)).trans (hW.2.1 r 1 hr (by decide))
  have V0 : f_X10_value S 19 0 (nI r) 0 = gI T 68 (6 + 3 * r) := (val_at S 19 (s := 0) (i := r) (f := 0) (by decide) hr (by decide)).trans (hW.2.1 r 0 hr (by decide))
  obtain ⟨⟨b1, b2⟩, ⟨b3, b4⟩, -⟩ := hB.2.1 r hr
  have hc : f_X8_skillBehind S 19 (nI r) (nI v) = (if (nI v + (if (0 : Int32) < (10 : Int32) - (if 0 ≤ ((nI v / 10 - gI T 68 (6 + 3 * r + 1)) - gI T 68 (6 + 3 * r) / 50) then ((nI v / 10 - gI T 68 (6 + 3 * r + 1)) - gI T 68 (6 + 3 * r) / 50) else 0 - ((nI v / 10 - gI T 68 (6 + 3 * r + 1)) - gI T 68 (6 + 3 * r) / 50)) then (10 : Int32) - (if 0 ≤ ((nI v / 10 - gI T 68 (6 + 3 * r + 1)) - gI T 68 (6 + 3 * r) / 50) then ((nI v / 10 - gI T 68 (6 + 3 * r + 1)) - gI T 68 (6 + 3 * r) / 50) else 0 - ((nI v / 10 - gI T 68 (6 + 3 * r + 1)) - gI T 68 (6 + 3 * r) / 50)) else 0)) < (100 : Int32) then (nI v + (if (0 : Int32) < (10 : Int32) - (if 0 ≤ ((nI v / 10 - gI T 68 (6 + 3 * r + 1)) - gI T 68 (6 + 3 * r) / 50) then ((nI v / 10 - gI T 68 (6 + 3 * r + 1)) - gI T 68 (6 + 3 * r) / 50) else 0 - ((nI v / 10 - gI T 68 (6 + 3 * r + 1)) - gI T 68 (6 + 3 * r) / 50)) then (10 : Int32) - (if 0 ≤ ((nI v / 10 - gI T 68 (6 + 3 * r + 1)) - gI T 68 (6 + 3 * r) / 50) then ((nI v / 10 - gI T 68 (6 + 3 * r + 1)) - gI T 68 (6 + 3 * r) / 50) else 0 - ((nI v / 10 - gI T 68 (6 + 3 * r + 1)) - gI T 68 (6 + 3 * r) / 50)) else 0)) else 100) := by
    show (F_X8_skillBehind S 19 (nI r) (nI v)).1 = _
    unfold F_X8_skillBehind
    simp only [bd_def]
    rw [pr_1, V1, V0]
  have hm : f_X12_skillBy T 64 (nI v) (nI r) = (if (nI v + (if (10 : Int32) ≤ (if 0 ≤ ((nI v / 10 - gI T 68 (6 + 3 * r + 1)) - gI T 68 (6 + 3 * r) / 50) then ((nI v / 10 - gI T 68 (6 + 3 * r + 1)) - gI T 68 (6 + 3 * r) / 50) else -((nI v / 10 - gI T 68 (6 + 3 * r + 1)) - gI T 68 (6 + 3 * r) / 50)) then 0 else (10 : Int32) - (if 0 ≤ ((nI v / 10 - gI T 68 (6 + 3 * r + 1)) - gI T 68 (6 + 3 * r) / 50) then ((nI v / 10 - gI T 68 (6 + 3 * r + 1)) - gI T 68 (6 + 3 * r) / 50) else -((nI v / 10 - gI T 68 (6 + 3 * r + 1)) - gI T 68 (6 + 3 * r) / 50)))) ≤ (100 : Int32) then (nI v + (if (10 : Int32) ≤ (if 0 ≤ ((nI v / 10 - gI T 68 (6 + 3 * r + 1)) - gI T 68 (6 + 3 * r) / 50) then ((nI v / 10 - gI T 68 (6 + 3 * r + 1)) - gI T 68 (6 + 3 * r) / 50) else -((nI v / 10 - gI T 68 (6 + 3 * r + 1)) - gI T 68 (6 + 3 * r) / 50)) then 0 else (10 : Int32) - (if 0 ≤ ((nI v / 10 - gI T 68 (6 + 3 * r + 1)) - gI T 68 (6 + 3 * r) / 50) then ((nI v / 10 - gI T 68 (6 + 3 * r + 1)) - gI T 68 (6 + 3 * r) / 50) else -((nI v / 10 - gI T 68 (6 + 3 * r + 1)) - gI T 68 (6 + 3 * r) / 50)))) else 100) := by
    show (F_X12_skillBy T 64 (nI v) (nI r)).1 = _
    unfold F_X12_skillBy
    simp only [bd_def]
    rw [pr_1, e2, e1, nI_clamp' (by omega), nI_clamp' (by omega)]
  have hx : ∃ x : Int32, ((nI v / 10 - gI T 68 (6 + 3 * r + 1)) - gI T 68 (6 + 3 * r) / 50) = x ∧ bw x (-100) 100 := by
    refine ⟨_, rfl, ?_⟩
    have t1 : (nI v / (10 : Int32)).toInt = v / 10 := by rw [ti_div (by decide), nI_ti (by omega), show (10 : Int32).toInt = 10 from rfl, Int.tdiv_eq_ediv_of_nonneg (by omega)]
    have t2 : (gI T 68 (6 + 3 * r) / (50 : Int32)).toInt = (gI T 68 (6 + 3 * r)).toInt / 50 := by rw [ti_div (by decide), show (50 : Int32).toInt = 50 from rfl, Int.tdiv_eq_ediv_of_nonneg b1]
    have t3 : (nI v / 10 - gI T 68 (6 + 3 * r + 1)).toInt = v / 10 - (gI T 68 (6 + 3 * r + 1)).toInt := by rw [ti_sub (by rw [t1]; omega) (by rw [t1]; omega), t1]
    unfold bw
    rw [ti_sub (by rw [t3, t2]; omega) (by rw [t3, t2]; omega), t3, t2]
    omega
  obtain ⟨x, ex, x1, x2⟩ := hx
  rw [ex] at hc hm
  have tn : (-x).toInt = -x.toInt := ti_neg (by omega)
  have tz : (0 - x).toInt = -x.toInt := by rw [ti_sub (by rw [ti0]; omega) (by rw [ti0]; omega), ti0]; omega
  have hy : ∃ y : Int32, (if 0 ≤ x then x else 0 - x) = y ∧ (if 0 ≤ x then x else -x) = y ∧ bw y 0 100 := by
    by_cases c : 0 ≤ x
    · refine ⟨x, by rw [if_pos c], by rw [if_pos c], ?_⟩
      rw [ti_le, ti0] at c
      exact ⟨c, x2⟩
    · refine ⟨-x, ?_, by rw [if_neg c], ?_⟩
      · rw [if_neg c, ti_eq, tn, tz]
      · rw [ti_le, ti0] at c
        exact ⟨by omega, by omega⟩
  obtain ⟨y, y1, y2, y3, y4⟩ := hy
  rw [y1] at hc
  rw [y2] at hm
  have t10 : (10 : Int32).toInt = 10 := rfl
  have ty : ((10 : Int32) - y).toInt = 10 - y.toInt := by rw [ti_sub (by rw [t10]; omega) (by rw [t10]; omega), t10]
  have hz : ∃ z : Int32, (if (0 : Int32) < 10 - y then 10 - y else 0) = z ∧ (if (10 : Int32) ≤ y then 0 else 10 - y) = z ∧ bw z 0 10 := by
    by_cases c : (10 : Int32) ≤ y
    · refine ⟨0, ?_, by rw [if_pos c], by decide, by decide⟩
      rw [if_neg]
      rw [ti_le, t10] at c
      rw [ti_lt, ti0, ty]
      omega
    · refine ⟨10 - y, ?_, by rw [if_neg c], ?_⟩
      · rw [if_pos]
        rw [ti_le, t10] at c
        rw [ti_lt, ti0, ty]
        omega
      · rw [ti_le, t10] at c
        exact ⟨by omega, by omega⟩
  obtain ⟨z, z1, z2, z3, z4⟩ := hz
  rw [z1] at hc
  rw [z2] at hm
  have t100 : (100 : Int32).toInt = 100 := rfl
  have ts : (nI v + z).toInt = v + z.toInt := by rw [ti_add (by rw [nI_ti (by omega)]; omega) (by rw [nI_ti (by omega)]; omega), nI_ti (by omega)]
  refine ⟨?_, ⟨by rw [e2]; exact vp_in_nI (by omega) (by omega), by rw [e1]; exact vp_in_nI (by omega) (by omega)⟩, ?_⟩
  · rw [hc, hm]
    by_cases c : nI v + z < 100
    · rw [if_pos c, if_pos (by rw [ti_lt, t100] at c; rw [ti_le, t100]; omega)]
    · rw [if_neg c]
      by_cases d : nI v + z ≤ 100
      · rw [if_pos d]
        rw [ti_lt, t100] at c
        rw [ti_le, t100] at d
        rw [ti_eq, t100]
        omega
      · rw [if_neg d]
  · rw [hm]
    by_cases d : nI v + z ≤ 100
    · rw [if_pos d]
      rw [ti_le, t100, ts] at d
      refine ⟨v + z.toInt.toNat, by omega, by omega, ?_⟩
      rw [ti_eq, ts, nI_ti (by omega)]
      omega
    · rw [if_neg d]
      exact ⟨100, hv, by omega, rfl⟩
/-- the class's tries are the model's, but no more than 31 -/
def m31 (m : Int) : Int := if 31 ≤ m then 31 else m
theorem m31_c (m : Int) : (31 ≤ m ∧ m31 m = 31) ∨ (m < 31 ∧ m31 m = m) := by
  unfold m31
  by_cases c : 31 ≤ m
  · rw [if_pos c]; exact Or.inl ⟨c, rfl⟩
  · rw [if_neg c]; exact Or.inr ⟨by omega, rfl⟩
def TR (v : Nat) (S T : HSt) : Prop := ∀ k, v ≤ k → k ≤ 100 → (0 ≤ (gI T 81 k).toInt ∧ (gI T 81 k).toInt ≤ 1000) ∧ (gI S 41 k).toInt = m31 (gI T 81 k).toInt
/-- one rope's tries -/
theorem triesBy_at {S T : HSt} (hW : WayR (gI S 20) (gI S 21) (gI T 68)) (hB : WayB (gI T 68)) {r v : Nat} (hr : r < 3) (hv : v ≤ 100) (hT : TR (v + 1) S T) : p_X8_triesBy S 38 19 (nI r) (nI v) ∧ ∃ w, v ≤ w ∧ w ≤ 100 ∧ f_X12_skillBy T 64 (nI v) (nI r) = nI w ∧ ((w = v ∧ f_X8_triesBy S 38 19 (nI r) (nI v) = 31) ∨ (v < w ∧ (f_X8_triesBy S 38 19 (nI r) (nI v)).toInt = 1 + m31 (gI T 81 w).toInt ∧ (gI T 81 w + 1).toInt = (gI T 81 w).toInt + 1)) := by
  obtain ⟨e, -, w, w1, w2, ew⟩ := skill_eq hW hB hr hv
  refine ⟨⟨⟨p_val _ _ _ _ _, fun _ _ => p_val _ _ _ _ _⟩, fun x ex _ _ => ?_⟩, w, w1, w2, ew, ?_⟩
  · rw [← ex, e, ew]; exact vp_in_nI (by omega) (by omega)
  · have h : f_X8_triesBy S 38 19 (nI r) (nI v) = (if nI w ≤ nI v then (31 : Int32) else if (100 : Int32) < nI w then 31 else 1 + gI S 41 (nI w).toNatClampNeg) := by
      show (F_X8_triesBy S 38 19 (nI r) (nI v)).1 = _
      unfold F_X8_triesBy
      simp only [bd_def]
      rw [pr_1, e, ew]
    rw [h]
    by_cases c : v < w
    · right
      rw [if_neg (by rw [ti_le, nI_ti (by omega), nI_ti (by omega)]; omega), if_neg (by rw [ti_lt, nI_ti (by omega), show (100 : Int32).toInt = 100 from rfl]; omega), nI_clamp' (by omega)]
      obtain ⟨⟨a1, a2⟩, a3⟩ := hT w (by omega) w2
      have hm : m31 (gI T 81 w).toInt ≤ 31 ∧ 0 ≤ m31 (gI T 81 w).toInt := by have q2 := m31_c (gI T 81 w).toInt; omega
      refine ⟨c, ?_, ?_⟩
      · rw [ti_add (by rw [ti1, a3]; omega) (by rw [ti1, a3]; omega), ti1, a3]
      · rw [ti_add (by rw [ti1]; omega) (by rw [ti1]; omega), ti1]
    · left
      have : w = v := by omega
      subst this
      rw [if_pos (by rw [ti_le]; exact Int.le_refl _)]
      exact ⟨rfl, rfl⟩
theorem ropes_at {S T : HSt} (hW : WayR (gI S 20) (gI S 21) (gI T 68)) : f_X10_howMany S 19 0 = gI T 68 0 := (many_at S 19 (s := 0) (by decide)).trans (hW.1 0 (by decide))
theorem tries_L {v : Nat} (hv : v ≤ 100) (g v1 v3 : Int32) : ∀ (n r : Nat) (S T : HSt) (x : Int32), r ≤ 3 → 3 - r < n → WayR (gI S 20) (gI S 21) (gI T 68) → WayB (gI T 68) → TR (v + 1) S T → (0 ≤ (gI T 81 v).toInt ∧ (gI T 81 v).toInt ≤ 1000) → x.toInt = m31 (gI T 81 v).toInt → T_X8_seekTries_14 19 n S g (nI v) x (nI r) ∧ T_X12_learn_86 n T v1 g v3 (nI v) (nI r) ∧ ((L_X8_seekTries_14 19 n S g (nI v) x (nI r)).1 = g ∧ (L_X8_seekTries_14 19 n S g (nI v) x (nI r)).2.1 = nI v) ∧ ((L_X12_learn_86 n T v1 g v3 (nI v) (nI r)).1 = v1 ∧ (L_X12_learn_86 n T v1 g v3 (nI v) (nI r)).2.1 = g ∧ (L_X12_learn_86 n T v1 g v3 (nI v) (nI r)).2.2.1 = v3 ∧ (L_X12_learn_86 n T v1 g v3 (nI v) (nI r)).2.2.2.1 = nI v) ∧ (∀ k, k ≠ v → gI (L_X12_learn_86 n T v1 g v3 (nI v) (nI r)).2.2.2.2.2 81 k = gI T 81 k) ∧ (0 ≤ (gI (L_X12_learn_86 n T v1 g v3 (nI v) (nI r)).2.2.2.2.2 81 v).toInt ∧ (gI (L_X12_learn_86 n T v1 g v3 (nI v) (nI r)).2.2.2.2.2 81 v).toInt ≤ 1000) ∧ (L_X8_seekTries_14 19 n S g (nI v) x (nI r)).2.2.1.toInt = m31 (gI (L_X12_learn_86 n T v1 g v3 (nI v) (nI r)).2.2.2.2.2 81 v).toInt ∧ (g ≤ nI v → gI (L_X12_learn_86 n T v1 g v3 (nI v) (nI r)).2.2.2.2.2 81 v = gI T 81 v) := by
  intro n
  induction n with
  | zero => intro r S T x _ h; omega
  | succ n ih =>
    intro r S T x hr hn hW hB hT hb hx
    unfold T_X8_seekTries_14 T_X12_learn_86 L_X8_seekTries_14 L_X12_learn_86
    rw [ropes_at hW, show (0 : Int32).toNatClampNeg = 0 from rfl]
    have h3 := hB.1.1.2
    by_cases c : g ≤ nI v
    · rw [if_pos c, if_pos c]
      have pm : T_X12_learn_86 (n + 1) T v1 g v3 (nI v) (nI r) := by
        unfold T_X12_learn_86
        exact ⟨fun _ q => absurd c q, fun _ q => absurd c q, fun _ q => absurd c q, fun _ q => absurd c q, fun _ q => absurd c q, fun _ q => absurd c q, fun _ q => absurd c q, fun _ q => absurd c q⟩
      refine ⟨⟨fun q => absurd c q, fun q => absurd c q, fun q => absurd c q⟩, ⟨fun _ q => absurd c q, fun _ q => absurd c q, fun _ q => absurd c q, fun _ q => absurd c q, fun _ q => absurd c q, fun _ q => absurd c q, fun _ q => absurd c q, fun _ q => absurd c q⟩, ?_⟩
      by_cases d : gI T 68 0 ≤ nI r
      · rw [if_pos d]
        exact ⟨⟨rfl, rfl⟩, ⟨rfl, rfl, rfl, rfl⟩, fun _ _ => rfl, hb, hx, fun _ => rfl⟩
      · rw [if_neg d]
        exact ⟨⟨rfl, rfl⟩, ⟨rfl, rfl, rfl, rfl⟩, fun _ _ => rfl, hb, hx, fun _ => rfl⟩
    · rw [if_neg c]
      by_cases d : gI T 68 0 ≤ nI r
      · rw [if_pos d, if_pos d]
        exact ⟨⟨fun _ => p_many _ _ _, fun _ q => absurd d q, fun _ q => absurd d q⟩, ⟨fun q => absurd d q, fun q => absurd d q, fun q => absurd d q, fun q => absurd d q, fun q => absurd d q, fun q => absurd d q, fun q => absurd d q, fun q => absurd d q⟩, ⟨rfl, rfl⟩, ⟨rfl, rfl, rfl, rfl⟩, fun _ _ => rfl, hb, hx, fun _ => rfl⟩
      · rw [if_neg d, if_neg d, if_neg c]
        have hr3 : r < 3 := by
          rw [ti_le, nI_ti (by omega)] at d
          omega
        obtain ⟨pt, w, w1, w2, ew, hw⟩ := triesBy_at hW hB hr3 hv hT
        obtain ⟨-, ps, -⟩ := skill_eq hW hB hr3 hv
        simp only [bd_def]
        rw [ew, nI_clamp' (i := v) (by omega), nI_clamp' (i := w) (by omega)]
        obtain ⟨y, hy⟩ : ∃ y : Int32, (if nI w ≤ nI v then gI T 81 v else if gI T 81 v ≤ gI T 81 w + 1 then gI T 81 v else gI T 81 w + 1) = y := ⟨_, rfl⟩
        obtain ⟨x', hx'⟩ : ∃ x' : Int32, (if f_X8_triesBy S 38 19 (nI r) (nI v) < x then f_X8_triesBy S 38 19 (nI r) (nI v) else x) = x' := ⟨_, rfl⟩
        have hyb : (0 ≤ y.toInt ∧ y.toInt ≤ 1000) ∧ x'.toInt = m31 y.toInt := by
          rw [← hy, ← hx']
          rcases hw with ⟨rfl, h31⟩ | ⟨hlt, ht, hs⟩
          · rw [if_pos (by rw [ti_le]; exact Int.le_refl _), h31]
            refine ⟨hb, ?_⟩
            rw [if_neg]
            · exact hx
            · rw [ti_lt, hx, show (31 : Int32).toInt = 31 from rfl]
              have q2 := m31_c (gI T 81 w).toInt
              omega
          · obtain ⟨⟨a1, a2⟩, a3⟩ := hT w (by omega) w2
            rw [if_neg (by rw [ti_le, nI_ti (by omega), nI_ti (by omega)]; omega)]
            by_cases z : gI T 81 v ≤ gI T 81 w + 1
            · rw [if_pos z]
              refine ⟨hb, ?_⟩
              rw [ti_le, hs] at z
              by_cases z2 : f_X8_triesBy S 38 19 (nI r) (nI v) < x
              · rw [if_pos z2]
                rw [ti_lt, ht, hx] at z2
                rw [ht]
                have q1 := m31_c (gI T 81 w).toInt
                have q2 := m31_c (gI T 81 v).toInt
                have q3 := m31_c ((gI T 81 w).toInt + 1)
                omega
              · rw [if_neg z2]; exact hx
            · rw [if_neg z, hs]
              rw [ti_le, hs] at z
              refine ⟨by omega, ?_⟩
              by_cases z2 : f_X8_triesBy S 38 19 (nI r) (nI v) < x
              · rw [if_pos z2, ht]
                rw [ti_lt, ht, hx] at z2
                have q1 := m31_c (gI T 81 w).toInt
                have q2 := m31_c (gI T 81 v).toInt
                have q3 := m31_c ((gI T 81 w).toInt + 1)
                omega
              · rw [if_neg z2, hx]
                rw [ti_lt, ht, hx] at z2
                have q1 := m31_c (gI T 81 w).toInt
                have q2 := m31_c (gI T 81 v).toInt
                have q3 := m31_c ((gI T 81 w).toInt + 1)
                omega
        rw [hy, hx']
        obtain ⟨i1, i2, i3, i4, i5, i6, i7, i8⟩ := ih (r + 1) S (sI T 81 v y) x' (by omega) (by omega) (by rw [gs_ne (by decide)]; exact hW) (by rw [gs_ne (by decide)]; exact hB) (fun k hk hk2 => by rw [gs_o (by omega)]; exact hT k hk hk2) (by rw [gs_eq, if_pos rfl]; exact hyb.1) (by rw [gs_eq, if_pos rfl]; exact hyb.2)
        rw [nI_succ] at i1 i2 i3 i4 i5 i6 i7 i8
        refine ⟨⟨fun _ => p_many _ _ _, fun _ _ => pt, fun _ _ z ez => ?_⟩, ⟨fun _ _ => ps, fun _ _ z ez _ => vp_in_nI (by omega) (by omega), fun _ _ z ez _ => ?_, fun _ _ z ez _ => vp_in_nI (by omega) (by omega), fun _ _ z ez _ _ => vp_in_nI (by omega) (by omega), fun _ _ z ez _ _ => ?_, fun _ _ z ez z2 ez2 => vp_in_nI (by omega) (by omega), fun _ _ z ez z2 ez2 T2 eT2 => ?_⟩, i3, i4, fun k hk => (i5 k hk).trans (gs_o hk), i6, i7, fun q => absurd q c⟩
        · rw [← ez]; exact i1
        · rw [← ez]; exact vp_in_nI (by omega) (by omega)
        · rw [← ez]; exact vp_in_nI (by omega) (by omega)
        · rw [← eT2, ← ez2, ← ez, nI_clamp' (by omega)]; rw [hy]; exact i2
theorem nI_m1 {v : Nat} : nI (v + 1) + (-1 : Int32) = nI v := nI_dn
/-- from the skill v - 1 down -/
theorem skills_L (g v1 v3 : Int32) : ∀ (n v : Nat) (S T : HSt), v ≤ 101 → v < n → WayR (gI S 20) (gI S 21) (gI T 68) → WayB (gI T 68) → TR v S T → T_X8_seekTries_3 19 n S g (nI v + (-1 : Int32)) ∧ T_X12_learn_58 n T v1 g v3 (nI v + (-1 : Int32)) ∧ ((L_X12_learn_58 n T v1 g v3 (nI v + (-1 : Int32))).1 = v1 ∧ (L_X12_learn_58 n T v1 g v3 (nI v + (-1 : Int32))).2.1 = g ∧ (L_X12_learn_58 n T v1 g v3 (nI v + (-1 : Int32))).2.2.1 = v3) ∧ TR 0 (L_X8_seekTries_3 19 n S g (nI v + (-1 : Int32))).2.2 (L_X12_learn_58 n T v1 g v3 (nI v + (-1 : Int32))).2.2.2.2 := by
  intro n
  induction n with
  | zero => intro v S T _ h; omega
  | succ n ih =>
    intro v S T hv hn hW hB hT
    unfold T_X8_seekTries_3 T_X12_learn_58 L_X8_seekTries_3 L_X12_learn_58
    match v, hv, hn, hT with
    | 0, _, _, hT =>
      have z0 : nI 0 + (-1 : Int32) < 0 := by decide
      rw [if_pos z0, if_pos z0]
      exact ⟨⟨fun q => absurd z0 q, fun q => absurd z0 q, fun q => absurd z0 q⟩, ⟨fun q => absurd z0 q, fun q => absurd z0 q, fun q => absurd z0 q⟩, ⟨rfl, rfl, rfl⟩, hT⟩
    | v + 1, hv, hn, hT =>
      rw [nI_m1, if_neg (nI_pos (by omega)), if_neg (nI_pos (by omega))]
      simp only [bd_def]
      rw [nI_clamp' (i := v) (by omega)]
      obtain ⟨y, hy⟩ : ∃ y : Int32, (if nI v < g then (1000 : Int32) else 0) = y := ⟨_, rfl⟩
      have hb : (0 ≤ y.toInt ∧ y.toInt ≤ 1000) := by
        rw [← hy]
        by_cases c : nI v < g
        · rw [if_pos c]; exact ⟨by decide, by decide⟩
        · rw [if_neg c]; exact ⟨by decide, by decide⟩
      rw [hy]
      -- if the goal is reached the class's 31 is not kept
      by_cases c : nI v < g
      · have ey : y = 1000 := by rw [← hy, if_pos c]
        obtain ⟨t1, t2, ⟨t3, t4⟩, ⟨t5, t6, t7, t8⟩, t9, t10, t11, -⟩ := tries_L (v := v) (by omega) g v1 v3 1000 0 S (sI T 81 v y) 31 (by omega) (by omega) (by rw [gs_ne (by decide)]; exact hW) (by rw [gs_ne (by decide)]; exact hB) (fun k hk hk2 => by rw [gs_o (by omega)]; exact hT k hk hk2) (by rw [gs_eq, if_pos rfl]; exact hb) (by rw [gs_eq, if_pos rfl, ey]; rfl)
        rw [show nI 0 = (0 : Int32) from rfl] at t1 t2 t3 t4 t5 t6 t7 t8 t9 t10 t11
        have fm := vL_X12_learn_86 1000 (sI T 81 v y) v1 g v3 (nI v) 0
        generalize hA : L_X8_seekTries_14 19 1000 S g (nI v) 31 0 = A at t3 t4 t11
        generalize hM : L_X12_learn_86 1000 (sI T 81 v y) v1 g v3 (nI v) 0 = M at t5 t6 t7 t8 t9 t10 t11 fm
        have g68 : gI M.2.2.2.2.2 68 = gI T 68 := by rw [fr_addr fm 68 (by decide), gs_ne (by decide)]
        rw [t3, t4, t5, t6, t7, t8, nI_clamp' (i := v) (by omega), if_pos c]
        have hT2 : TR v (sI S 41 v A.2.2.1) M.2.2.2.2.2 := fun k hk hk2 => by
          by_cases d : k = v
          · subst d
            rw [gs_eq, if_pos rfl]
            exact ⟨t10, t11⟩
          · rw [gs_o d, t9 k d, gs_o d]
            exact hT k (by omega) hk2
        obtain ⟨i1, i2, i3, i4⟩ := ih v (sI S 41 v A.2.2.1) M.2.2.2.2.2 (by omega) (by omega) (by rw [gs_ne (by decide), gs_ne (by decide), g68]; exact hW) (by rw [g68]; exact hB) hT2
        refine ⟨⟨fun _ => t1, fun _ r e x ex => ?_, fun _ r e x ex S1 e1 => ?_⟩, ⟨fun _ x ex => vp_in_nI (by omega) (by omega), fun _ x ex T1 e1 => ?_, fun _ x ex T1 e1 r e => ?_⟩, i3, i4⟩
        · rw [← e, t4]; exact vp_in_nI (by omega) (by omega)
        · rw [← e, t3, t4, if_pos c] at ex
          rw [← e, t4, nI_clamp' (by omega), ← ex] at e1
          rw [← e1, ← e, t3, t4]
          exact i1
        · rw [← e1, ← ex]; exact t2
        · rw [← e1, ← ex, hM] at e
          rw [← e, t5, t6, t7, t8]
          exact i2
      · have ey : y = 0 := by rw [← hy, if_neg c]
        have c2 : g ≤ nI v := by rw [ti_lt] at c; rw [ti_le]; omega
        obtain ⟨t1, t2, ⟨t3, t4⟩, ⟨t5, t6, t7, t8⟩, t9, -, -, t12⟩ := tries_L (v := v) (by omega) g v1 v3 1000 0 S (sI T 81 v y) 0 (by omega) (by omega) (by rw [gs_ne (by decide)]; exact hW) (by rw [gs_ne (by decide)]; exact hB) (fun k hk hk2 => by rw [gs_o (by omega)]; exact hT k hk hk2) (by rw [gs_eq, if_pos rfl]; exact hb) (by rw [gs_eq, if_pos rfl, ey]; rfl)
        -- the class begins with 31, and stops as well
        have hcl : T_X8_seekTries_14 19 1000 S g (nI v) 31 0 ∧ L_X8_seekTries_14 19 1000 S g (nI v) 31 0 = (g, nI v, 31, 0) := by
          rw [show (1000 : Nat) = 999 + 1 from rfl]
          unfold T_X8_seekTries_14 L_X8_seekTries_14
          rw [if_pos c2]
          exact ⟨⟨fun q => absurd c2 q, fun q => absurd c2 q, fun q => absurd c2 q⟩, rfl⟩
        rw [show nI 0 = (0 : Int32) from rfl] at t2 t5 t6 t7 t8 t9 t12
        have fm := vL_X12_learn_86 1000 (sI T 81 v y) v1 g v3 (nI v) 0
        have t13 := t12 c2
        rw [gs_eq, if_pos rfl] at t13
        generalize hM : L_X12_learn_86 1000 (sI T 81 v y) v1 g v3 (nI v) 0 = M at t5 t6 t7 t8 t9 t13 fm
        have g68 : gI M.2.2.2.2.2 68 = gI T 68 := by rw [fr_addr fm 68 (by decide), gs_ne (by decide)]
        rw [hcl.2, t5, t6, t7, t8]
        have hc0 : ¬ ((g, nI v, (31 : Int32), (0 : Int32)) : Int32 × Int32 × Int32 × Int32).2.1 < ((g, nI v, (31 : Int32), (0 : Int32)) : Int32 × Int32 × Int32 × Int32).1 := c
        rw [if_neg hc0]
        have hT2 : TR v (sI S 41 v 0) M.2.2.2.2.2 := fun k hk hk2 => by
          by_cases d : k = v
          · subst d
            rw [gs_eq, if_pos rfl, t13, ey]
            exact ⟨⟨by decide, by decide⟩, rfl⟩
          · rw [gs_o d, t9 k d, gs_o d]
            exact hT k (by omega) hk2
        obtain ⟨i1, i2, i3, i4⟩ := ih v (sI S 41 v 0) M.2.2.2.2.2 (by omega) (by omega) (by rw [gs_ne (by decide), gs_ne (by decide), g68]; exact hW) (by rw [g68]; exact hB) hT2
        have ek : (nI v).toNatClampNeg = v := nI_clamp' (by omega)
        refine ⟨⟨fun _ => hcl.1, fun _ r e x ex => ?_, fun _ r e x ex S1 e1 => ?_⟩, ⟨fun _ x ex => vp_in_nI (by omega) (by omega), fun _ x ex T1 e1 => ?_, fun _ x ex T1 e1 r e => ?_⟩, i3, ?_⟩
        · rw [← e]; exact vp_in_nI (by omega) (by omega)
        · rw [← e, if_neg hc0] at ex
          rw [← e1, ← e, ← ex]
          show T_X8_seekTries_3 19 n (sI S 41 (nI v).toNatClampNeg 0) g (nI v + -1)
          rw [ek]
          exact i1
        · rw [← e1, ← ex]; exact t2
        · rw [← e1, ← ex, hM] at e
          rw [← e, t5, t6, t7, t8]
          exact i2
        · show TR 0 (L_X8_seekTries_3 19 n (sI S 41 (nI v).toNatClampNeg 0) g (nI v + -1)).2.2 _
          rw [ek]
          exact i4
theorem first_L {v : Nat} (hv : v ≤ 100) (f v2 v3 : Int32) (hf : f.toInt ≤ 30) {S T : HSt} (hW : WayR (gI S 20) (gI S 21) (gI T 68)) (hB : WayB (gI T 68)) (hT : TR (v + 1) S T) : ∀ (n r : Nat), r ≤ 3 → 3 - r < n → T_X8_firstRope_9 19 n S (nI v) f (nI r) ∧ T_X12_learn_207 n T (nI v) v2 v3 f (nI r) ∧ (((L_X8_firstRope_9 19 n S (nI v) f (nI r)).1 = 1 ∧ (L_X12_learn_207 n T (nI v) v2 v3 f (nI r)).1 = 1 ∧ (L_X8_firstRope_9 19 n S (nI v) f (nI r)).2.1.toInt64 = (L_X12_learn_207 n T (nI v) v2 v3 f (nI r)).2.1) ∨ (¬ (L_X8_firstRope_9 19 n S (nI v) f (nI r)).1 = 1 ∧ ¬ (L_X12_learn_207 n T (nI v) v2 v3 f (nI r)).1 = 1)) := by
  intro n
  induction n with
  | zero => intro r _ h; omega
  | succ n ih =>
    intro r hr hn
    unfold T_X8_firstRope_9 T_X12_learn_207 L_X8_firstRope_9 L_X12_learn_207
    rw [ropes_at hW, show (0 : Int32).toNatClampNeg = 0 from rfl]
    have h3 := hB.1.1.2
    by_cases d : gI T 68 0 ≤ nI r
    · rw [if_pos d, if_pos d]
      refine ⟨⟨fun _ => p_many _ _ _, fun _ q => absurd d q, fun _ q => absurd d q⟩, ⟨fun q => absurd d q, fun q => absurd d q, fun q => absurd d q, fun q => absurd d q⟩, Or.inr ⟨?_, fun q => absurd (show (0 : Int32) = 1 from q) (by decide)⟩⟩
      by_cases c : f ≤ 0
      · rw [if_pos c]; exact fun q => absurd (show (0 : Int32) = 1 from q) (by decide)
      · rw [if_neg c]; exact fun q => absurd (show (0 : Int32) = 1 from q) (by decide)
    · rw [if_neg d, if_neg d]
      by_cases c : f ≤ 0
      · rw [if_pos c, if_pos c]
        exact ⟨⟨fun q => absurd c q, fun q => absurd c q, fun q => absurd c q⟩, ⟨fun _ q => absurd c q, fun _ q => absurd c q, fun _ q => absurd c q, fun _ q => absurd c q⟩, Or.inr ⟨fun q => absurd (show (0 : Int32) = 1 from q) (by decide), fun q => absurd (show (0 : Int32) = 1 from q) (by decide)⟩⟩
      · rw [if_neg c, if_neg c]
        have hr3 : r < 3 := by
          rw [ti_le, nI_ti (by omega)] at d
          omega
        obtain ⟨pt, w, w1, w2, ew, hw⟩ := triesBy_at hW hB hr3 hv hT
        obtain ⟨-, ps, -⟩ := skill_eq hW hB hr3 hv
        obtain ⟨i1, i2, i3⟩ := ih (r + 1) (by omega) (by omega)
        rw [nI_succ] at i1 i2 i3
        rw [bd_def, ew]
        refine ⟨⟨fun _ => p_many _ _ _, fun _ _ => pt, fun _ _ _ => i1⟩, ⟨fun _ _ => ps, fun _ _ _ _ _ => i2, fun _ _ x ex _ => ?_, fun _ _ _ _ _ _ => i2⟩, ?_⟩
        · rw [← ex]; exact vp_in_nI (by omega) (by omega)
        · rcases hw with ⟨rfl, h31⟩ | ⟨hlt, ht, hs⟩
          · rw [if_pos (show nI w ≤ nI w by rw [ti_le]; exact Int.le_refl _), if_neg]
            · exact i3
            · rw [h31]
              intro q
              rw [← q] at hf
              exact absurd hf (by decide)
          · obtain ⟨⟨a1, a2⟩, a3⟩ := hT w (by omega) w2
            rw [if_neg (show ¬ nI w ≤ nI v by rw [ti_le, nI_ti (by omega), nI_ti (by omega)]; omega), nI_clamp' (by omega)]
            have q2 := m31_c (gI T 81 w).toInt
            by_cases z : f_X8_triesBy S 38 19 (nI r) (nI v) = f
            · rw [if_pos z, if_pos]
              · exact Or.inl ⟨rfl, rfl, rfl⟩
              · rw [ti_eq] at z
                rw [ti_eq, hs]
                omega
            · rw [if_neg z, if_neg]
              · exact i3
              · intro y
                rw [ti_eq] at y
                refine z (ti_eq.mpr ?_)
                omega
theorem none64 : (-1000000 : Int32).toInt64 = (-1000000 : Int64) := by decide
theorem k_learn : K_learn Inv0 := by
  intro n S a b w hn hI
  have f1 := v_X11_learn S 0 a b w
  have f2 := v_X12_learn (f_X11_learn S 0 a b w).2 64 a b w
  have hinv : Inv0 (n + 1) (f_X12_learn (f_X11_learn S 0 a b w).2 64 a b w).2 := ((hI.same (same_of_fr (by decide) f1)).same (same_of_fr (by decide) f2)).mono (Nat.le_succ n)
  obtain ⟨hR, hth, hbz, -⟩ := hI.2.2.2.2.1
  have hp : ∀ (T : HSt) (x : Int32), f_X12_in T x.toInt64 (0 : Int64) (100 : Int64) = f_X11_within S x 0 100 := fun T x => by
    rw [show (0 : Int64) = (0 : Int32).toInt64 from rfl, show (100 : Int64) = (100 : Int32).toInt64 from rfl, in_within T S]
  have hp1 : ∀ (T : HSt), f_X12_in T w.toInt64 (0 : Int64) (1 : Int64) = f_X11_within S w 0 1 := fun T => by
    rw [show (0 : Int64) = (0 : Int32).toInt64 from rfl, show (1 : Int64) = (1 : Int32).toInt64 from rfl, in_within T S]
  have key : p_X11_learn S 0 a b w ∧ p_X12_learn (f_X11_learn S 0 a b w).2 64 a b w ∧ (f_X11_learn S 0 a b w).1 = (f_X12_learn (f_X11_learn S 0 a b w).2 64 a b w).1 := by
    have g64 : gI (f_X11_learn S 0 a b w).2 64 = gI S 64 := fr_addr f1 64 (by decide)
    have g68 : gI (f_X11_learn S 0 a b w).2 68 = gI S 68 := fr_addr f1 68 (by decide)
    obtain ⟨U, hU⟩ : ∃ U, (f_X11_learn S 0 a b w).2 = U := ⟨_, rfl⟩
    rw [hU] at g64 g68 ⊢
    have u7 : ∀ S1, sI U 64 0 0 = S1 → gI S1 64 7 = gI S 18 2 := fun S1 e => by rw [← e, gs_o (by decide), g64, hth]
    unfold p_X12_learn f_X12_learn
    simp only [bd_def, hp, hp1]
    rw [u7 _ rfl]
    by_cases c1 : f_X11_within S a 0 100 = 0
    · refine ⟨⟨fun q => absurd c1 q, fun q => absurd c1 q, fun q => absurd c1 q⟩, ⟨fun _ _ q => absurd c1 q, fun _ _ q => absurd c1 q, fun _ _ q => absurd c1 q⟩, ?_⟩
      unfold f_X11_learn
      rw [if_pos c1, if_pos c1, pr_1, pr_1]
    by_cases c2 : f_X11_within S b 0 100 = 0
    · refine ⟨⟨fun _ q => absurd c2 q, fun _ q => absurd c2 q, fun _ q => absurd c2 q⟩, ⟨fun _ _ _ q => absurd c2 q, fun _ _ _ q => absurd c2 q, fun _ _ _ q => absurd c2 q⟩, ?_⟩
      unfold f_X11_learn
      rw [if_neg c1, if_pos c2, if_neg c1, if_pos c2, pr_1, pr_1]
    by_cases c3 : f_X11_within S w 0 1 = 0
    · refine ⟨⟨fun _ _ q => absurd c3 q, fun _ _ q => absurd c3 q, fun _ _ q => absurd c3 q⟩, ⟨fun _ _ _ _ q => absurd c3 q, fun _ _ _ _ q => absurd c3 q, fun _ _ _ _ q => absurd c3 q⟩, ?_⟩
      unfold f_X11_learn
      rw [if_neg c1, if_neg c2, if_pos c3, if_neg c1, if_neg c2, if_pos c3, pr_1, pr_1]
    by_cases c4 : gI S 18 2 = 0
    · refine ⟨⟨fun _ _ _ q => absurd c4 q, fun _ _ _ q => absurd c4 q, fun _ _ _ q => absurd c4 q⟩, ⟨fun _ e _ _ _ q => absurd ((u7 _ e).trans c4) q, fun _ e _ _ _ q => absurd ((u7 _ e).trans c4) q, fun _ e _ _ _ q => absurd ((u7 _ e).trans c4) q⟩, ?_⟩
      unfold f_X11_learn
      rw [if_neg c1, if_neg c2, if_neg c3, if_pos c4, if_neg c1, if_neg c2, if_neg c3, if_pos c4, pr_1, pr_1]
    have ha := within_1 S c1
    rw [ti0, show (100 : Int32).toInt = 100 from rfl] at ha
    obtain ⟨v, hv, rfl⟩ := nI_of_bw (x := a) (n := 101) ha.1 (by omega) (by omega)
    obtain ⟨w1, w2, w3⟩ := scn_W hI (T := sI U 64 0 0) (by rw [gs_ne (by decide), g68]) (by rw [gs_o (by decide), g64]) (by rw [gs_o (by decide), g64])
    obtain ⟨s1, s2, ⟨s3, s4, s5⟩, s6⟩ := skills_L b (nI v) w 1000 101 S (sI U 64 0 0) (by omega) (by omega) w1 w2 (fun k hk hk2 => by omega)
    rw [show nI 101 + (-1 : Int32) = 100 from rfl] at s1 s2 s3 s4 s5 s6
    have fm := vL_X12_learn_58 1000 (sI U 64 0 0) (nI v) b w 100
    have fc := v_X8_seekTries S 38 19 b
    have ec : f_X8_seekTries S 38 19 b = (L_X8_seekTries_3 19 1000 S b 100).2.2 := by unfold f_X8_seekTries; rw [bd_def]
    rw [← ec] at s6
    generalize hC : f_X8_seekTries S 38 19 b = C at fc s6
    generalize hM : L_X12_learn_58 1000 (sI U 64 0 0) (nI v) b w 100 = M at s3 s4 s5 s6 fm
    rw [if_neg c1, if_neg c2, if_neg c3, if_neg c4, s3, s4, s5, nI_clamp' (i := v) (by omega)]
    have m68 : gI M.2.2.2.2 68 = gI S 68 := by rw [fr_addr fm 68 (by decide), gs_ne (by decide), g68]
    have cW : WayR (gI C 20) (gI C 21) (gI M.2.2.2.2 68) := by rw [fr_addr fc 20 (by decide), fr_addr fc 21 (by decide), m68]; exact hR.1
    have cB : WayB (gI M.2.2.2.2 68) := by rw [m68]; exact hR.2.1
    obtain ⟨⟨a1, a2⟩, a3⟩ := s6 v (by omega) (by omega)
    have tf : f_X8_triesFrom C 38 (nI v) = (if (30 : Int32) < gI C 41 v then (-1000000 : Int32) else gI C 41 v) := by
      show (F_X8_triesFrom C 38 (nI v)).1 = _
      unfold F_X8_triesFrom
      simp only [bd_def]
      rw [pr_1, if_neg (show ¬ nI v < 0 from nI_pos (by omega)), if_neg (show ¬ (100 : Int32) < nI v by rw [ti_lt, nI_ti (by omega), show (100 : Int32).toInt = 100 from rfl]; omega), if_neg one_ne, nI_clamp' (by omega)]
    have ptf : p_X8_triesFrom C 38 (nI v) := ⟨fun _ _ _ => vp_in_nI (by omega) (by omega), fun _ _ _ _ => vp_in_nI (by omega) (by omega)⟩
    have tfm : (gI M.2.2.2.2 81 v ≤ 30 ∧ f_X8_triesFrom C 38 (nI v) = gI M.2.2.2.2 81 v) ∨ (¬ gI M.2.2.2.2 81 v ≤ 30 ∧ f_X8_triesFrom C 38 (nI v) = -1000000) := by
      have q := m31_c (gI M.2.2.2.2 81 v).toInt
      have t30 : (30 : Int32).toInt = 30 := rfl
      rw [tf]
      by_cases z : gI M.2.2.2.2 81 v ≤ 30
      · left
        refine ⟨z, ?_⟩
        rw [ti_le, t30] at z
        rw [if_neg (by rw [ti_lt, t30]; omega), ti_eq]
        omega
      · right
        refine ⟨z, ?_⟩
        rw [ti_le, t30] at z
        rw [if_pos (by rw [ti_lt, t30]; omega)]
    have hfr : ∀ x : Int32, f_X8_triesFrom C 38 (nI v) = x → T_X8_firstRope_9 19 1000 C (nI v) x 0 := fun x ex => by
      rcases tfm with ⟨z, e⟩ | ⟨z, e⟩
      · rw [← ex, e]
        exact (first_L (v := v) (by omega) (gI M.2.2.2.2 81 v) b w (by rw [ti_le] at z; exact z) cW cB (fun k h1 h2 => s6 k (by omega) h2) 1000 0 (by omega) (by omega)).1
      · rw [← ex, e]
        exact (first_L (v := v) (by omega) (-1000000) b w (by decide) cW cB (fun k h1 h2 => s6 k (by omega) h2) 1000 0 (by omega) (by omega)).1
    refine ⟨⟨fun _ _ _ _ => s1, fun _ _ _ _ r er _ => ?_, fun _ _ _ _ r er _ => ?_⟩, ⟨fun S1 e _ _ _ _ => ?_, fun S1 e _ _ _ _ r er => ?_, fun S1 e _ _ _ _ r er x ex z _ => ?_⟩, ?_⟩
    · rw [hC] at er
      rw [← er]
      exact ⟨ptf, hfr⟩
    · rw [hC] at er
      rw [← er]
      exact ptf
    · rw [← e]; exact s2
    · rw [← e, hM] at er
      rw [← er, s3]
      exact vp_in_nI (by omega) (by omega)
    · rw [← e, hM] at er
      rw [← er, s3, nI_clamp' (by omega)] at ex
      rw [← er, s3, s4, s5, ← ex]
      rw [← ex, ti_le] at z
      exact (first_L (v := v) (by omega) (gI M.2.2.2.2 81 v) b w z cW cB (fun k h1 h2 => s6 k (by omega) h2) 1000 0 (by omega) (by omega)).2.1
    · have e1 : (f_X11_learn S 0 (nI v) b w).1 = if w = 0 then (f_X8_triesFrom C 38 (nI v)).toInt64 else (f_X8_firstRope C 38 19 (nI v)).toInt64 := by
        unfold f_X11_learn
        simp only [bd_def]
        rw [if_neg c1, if_neg c2, if_neg c3, if_neg c4, pr_1, hC]
      rw [e1]
      have efr : f_X8_firstRope C 38 19 (nI v) = if (L_X8_firstRope_9 19 1000 C (nI v) (f_X8_triesFrom C 38 (nI v)) 0).1 = 1 then (L_X8_firstRope_9 19 1000 C (nI v) (f_X8_triesFrom C 38 (nI v)) 0).2.1 else -1000000 := by
        show (F_X8_firstRope C 38 19 (nI v)).1 = _
        unfold F_X8_firstRope
        simp only [bd_def]
        by_cases z : (L_X8_firstRope_9 19 1000 C (nI v) (f_X8_triesFrom C 38 (nI v)) 0).1 = 1
        · rw [if_pos z, if_pos z, pr_1]
        · rw [if_neg z, if_neg z, pr_1]
      rcases tfm with ⟨z, e⟩ | ⟨z, e⟩
      · rw [if_pos z]
        by_cases c5 : w = 0
        · rw [if_pos c5, if_pos c5, pr_1, e]
        · rw [if_neg c5, if_neg c5, efr, e]
          have := (first_L (v := v) (by omega) (gI M.2.2.2.2 81 v) b w (by rw [ti_le] at z; exact z) cW cB (fun k h1 h2 => s6 k (by omega) h2) 1000 0 (by omega) (by omega)).2.2
          rw [show nI 0 = (0 : Int32) from rfl] at this
          rcases this with ⟨q1, q2, q3⟩ | ⟨q1, q2⟩
          · rw [if_pos q1, if_pos q2, pr_1, q3]
          · rw [if_neg q1, if_neg q2, pr_1]
            exact none64
      · rw [if_neg z, pr_1]
        by_cases c5 : w = 0
        · rw [if_pos c5, e]; exact none64
        · rw [if_neg c5, efr, e]
          have hz : ¬ (L_X8_firstRope_9 19 1000 C (nI v) (-1000000) 0).1 = 1 := by
            rw [show (1000 : Nat) = 999 + 1 from rfl]
            unfold L_X8_firstRope_9
            rw [if_pos (by decide), pr_1]
            decide
          rw [if_neg hz]
          exact none64
  exact ⟨key.1, key.2.1, key.2.2, hinv⟩
