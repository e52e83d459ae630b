-- needs: 22.a
/-! ===== kind, act, as ===== -/
theorem isAct_iff (T : HSt) (hb : bw (gI T 68 5) 0 20) (a : Int32) : f_X12_isAct T 64 a = 0 ↔ ¬ (0 ≤ a.toInt ∧ a.toInt < (gI T 68 5).toInt) := by
  obtain ⟨h1, h2⟩ := hb
  have hs : (gI T 68 5 - (1 : Int32)).toInt = (gI T 68 5).toInt - 1 := ti_sub (by rw [ti1]; omega) (by rw [ti1]; omega)
  show f_X12_in T a.toInt64 (0 : Int64) (gI T 68 5 - (1 : Int32)).toInt64 = 0 ↔ _
  rw [show (0 : Int64) = (0 : Int32).toInt64 from rfl, in_within T T, within_iff, hs, ti0]
  omega
theorem deed_at (T : HSt) {i k : Nat} (hi : i < 20) (hk : k < 5) : f_X12_deed T 64 (nI i) (nI k) = gI T 68 (72 + 5 * i + k) ∧ p_X12_deed T 64 (nI i) (nI k) := by
  have hx : ((72 : Int32) + (5 : Int32) * nI i) + nI k = nI (72 + 5 * i + k) := by
    rw [show (72 : Int32) = nI 72 from rfl, show (5 : Int32) = nI 5 from rfl, pk_mul, nI_add, nI_add]
  constructor
  · show gI T 68 (((72 : Int32) + (5 : Int32) * nI i) + nI k).toNatClampNeg = _
    rw [hx, nI_clamp' (by omega)]
  · show vp_in (((72 : Int32) + (5 : Int32) * nI i) + nI k) 172
    rw [hx]
    exact vp_in_nI (by omega) (by omega)
/-- an act's kind -/
theorem act_kd {W : Nat → Int32} {i : Nat} (h : ActB W i) : ∃ kd, 2 ≤ kd ∧ kd ≤ 6 ∧ W (72 + 5 * i) = nI kd := by
  rcases h with ⟨h | h, -⟩ | ⟨h | h, -⟩ | ⟨h, -⟩
  · exact ⟨2, by omega, by omega, h⟩
  · exact ⟨3, by omega, by omega, h⟩
  · exact ⟨4, by omega, by omega, h⟩
  · exact ⟨5, by omega, by omega, h⟩
  · exact ⟨6, by omega, by omega, h⟩
theorem one_ne : ¬ (1 : Int32) = 0 := by decide
theorem nI_none {k : Nat} (h : k < 1000) : ¬ nI k = -1000000 := by
  intro q
  have := congrArg Int32.toInt q
  rw [nI_ti (by omega), show (-1000000 : Int32).toInt = -1000000 from rfl] at this
  omega
theorem cl0_of {x : Int32} (h : x ≠ -1000000) : cl0 x = x := if_neg h
theorem cl0_bw {x : Int32} {lo hi : Int} (h : bw x lo hi) (hl : 0 ≤ lo) : cl0 x = x := by
  refine cl0_of (fun q => ?_)
  rw [q] at h
  have := h.1
  rw [show (-1000000 : Int32).toInt = -1000000 from rfl] at this
  omega
/-- an act that is there, or not: both sides say so -/
theorem act_case {n : Nat} {S : HSt} (hI : Inv0 n S) (a : Int32) : (f_X11_hasAct S 0 a = 0 ∧ ∀ T : HSt, gI T 68 = gI S 68 → f_X12_isAct T 64 a = 0) ∨ (∃ i kd, i < 20 ∧ a = nI i ∧ ActB (gI S 68) i ∧ 2 ≤ kd ∧ kd ≤ 6 ∧ gI S 68 (72 + 5 * i) = nI kd ∧ f_X10_kindOf S 19 a = nI kd ∧ ¬ f_X11_hasAct S 0 a = 0 ∧ ∀ T : HSt, gI T 68 = gI S 68 → ¬ f_X12_isAct T 64 a = 0) := by
  obtain ⟨⟨hW, hB, -⟩, -⟩ := hI.2.2.2.2.1
  have hc : gI S 20 5 = gI S 68 5 := hW.1 5 (by decide)
  have hb : bw (gI S 68 5) 0 20 := hB.1.2.2.2.2.2
  have h1 : f_X11_hasAct S 0 a = 0 ↔ ¬ (0 ≤ a.toInt ∧ a.toInt < (gI S 68 5).toInt) := by
    rw [← hc]
    exact has_iff S 19 (s := 5) (by decide) a
  by_cases c : 0 ≤ a.toInt ∧ a.toInt < (gI S 68 5).toInt
  · right
    obtain ⟨i, hi, rfl⟩ := nI_of_bw (n := 20) c.1 (by have := hb.2; omega) (by omega)
    have hA := hB.2.2.2.2.2.2 i hi (by have := c.2; rw [nI_ti (by omega)] at this; exact this)
    obtain ⟨kd, k1, k2, k3⟩ := act_kd hA
    refine ⟨i, kd, hi, rfl, hA, k1, k2, k3, ?_, fun q => h1.mp q c, fun T hT q => ?_⟩
    · rw [kind_at S 19 hi, show gI S (19 + 2) ((17 + i) * 5) = cl0 (gI S 68 (72 + 5 * i)) from hW.2.2.2.2.2.2 i 0 hi (by decide), k3, cl0_of (nI_none (by omega))]
    · rw [isAct_iff T (by rw [hT]; exact hb), hT] at q
      exact q c
  · left
    exact ⟨h1.mpr c, fun T hT => by rw [isAct_iff T (by rw [hT]; exact hb), hT]; exact c⟩
theorem k_kind : K_kind Inv0 := by
  intro n S a hn hI
  have hinv := (hI.same (same_of_fr (by decide) (v_X12_kind S 64 a))).mono (Nat.le_succ n)
  have e2 : (f_X12_kind S 64 a).1 = if f_X12_isAct (sI S 64 0 0) 64 a = 0 then (-9000000000000000001 : Int64) else (f_X12_deed (sI S 64 0 0) 64 a 0).toInt64 := rfl
  have e1 : f_X11_kind S 0 a = if f_X11_hasAct S 0 a = 0 then (-9000000000000000001 : Int64) else (f_X10_kindOf S 19 a).toInt64 := rfl
  refine ⟨⟨p_has S 19 _ _, fun _ => p_kind S 19 a⟩, ?_, ?_, hinv⟩
  · intro S1 s1 h
    rcases act_case hI a with ⟨-, h2⟩ | ⟨i, kd, hi, rfl, -⟩
    · exact absurd (h2 S1 (by rw [← s1]; rfl)) h
    · exact (deed_at S1 hi (k := 0) (by decide)).2
  · rw [e1, e2]
    rcases act_case hI a with ⟨h1, h2⟩ | ⟨i, kd, hi, rfl, -, -, -, k3, k4, h1, h2⟩
    · rw [if_pos h1, if_pos (h2 (sI S 64 0 0) rfl)]
    · rw [if_neg h1, if_neg (h2 (sI S 64 0 0) rfl), k4, ← k3]
      exact congrArg Int32.toInt64 (deed_at (sI S 64 0 0) hi (k := 0) (by decide)).1.symm
theorem k_act : K_act Inv0 := by
  intro n S a b hn hI
  have hinv := (hI.same (same_of_fr (by decide) (v_X12_act S 64 a b))).mono (Nat.le_succ n)
  have hp : ∀ T : HSt, f_X12_in T b.toInt64 (0 : Int64) (3 : Int64) = f_X11_within S b 0 3 := fun T => by
    rw [show (0 : Int64) = (0 : Int32).toInt64 from rfl, show (3 : Int64) = (3 : Int32).toInt64 from rfl, in_within T S]
  have e2 : (f_X12_act S 64 a b).1 = if f_X12_isAct (sI S 64 0 0) 64 a = 0 then (-9000000000000000001 : Int64) else if f_X12_in (sI S 64 0 0) b.toInt64 (0 : Int64) (3 : Int64) = 0 then (-9000000000000000001 : Int64) else (f_X12_deed (sI S 64 0 0) 64 a (b + 1)).toInt64 := rfl
  have hk : ¬ f_X11_within S b 0 3 = 0 → ∃ k, k < 4 ∧ b = nI k := fun h => by
    have := within_1 S h
    exact nI_of_bw (n := 4) this.1 (by have := this.2; rw [show (3 : Int32).toInt = 3 from rfl] at this; omega) (by omega)
  refine ⟨⟨p_has S 19 _ _, fun _ _ => p_isA S 19 _ _, fun _ _ _ => p_val S 19 _ _ _, fun _ _ _ => p_isA S 19 _ _, fun _ _ _ _ _ => p_val S 19 _ _ _⟩, ?_, ?_, hinv⟩
  · intro S1 s1 h h3
    rw [hp] at h3
    obtain ⟨k, hk4, rfl⟩ := hk h3
    rcases act_case hI a with ⟨-, h2⟩ | ⟨i, kd, hi, rfl, -⟩
    · exact absurd (h2 S1 (by rw [← s1]; rfl)) h
    · rw [show nI k + (1 : Int32) = nI (k + 1) from (nI_succ k).symm]
      exact (deed_at S1 hi (k := k + 1) (by omega)).2
  · rw [e2, hp]
    show (F_X11_act S 0 a b).1 = _
    unfold F_X11_act
    rcases act_case hI a with ⟨h1, h2⟩ | ⟨i, kd, hi, rfl, hA, k1, k2, k3, k4, h1, h2⟩
    · rw [if_pos h1, if_pos (h2 (sI S 64 0 0) rfl)]; rfl
    · rw [if_neg h1, if_neg (h2 (sI S 64 0 0) rfl)]
      by_cases c1 : f_X11_within S b 0 3 = 0
      · rw [if_pos c1, if_pos c1]; rfl
      · rw [if_neg c1, if_neg c1]
        obtain ⟨k, hk4, rfl⟩ := hk c1
        obtain ⟨⟨hW, -⟩, -⟩ := hI.2.2.2.2.1
        have hv : f_X10_value S 19 (5 : Int32) (nI i) ((1 : Int32) + nI k) = cl0 (gI S 68 (72 + 5 * i + (k + 1))) := by
          rw [show (1 : Int32) + nI k = nI (k + 1) by rw [show (1 : Int32) = nI 1 from rfl, nI_add, Nat.add_comm]]
          exact (val_at S 19 (s := 5) (i := i) (f := k + 1) (by decide) hi (by omega)).trans (hW.2.2.2.2.2.2 i (k + 1) hi (by omega))
        have hd : f_X12_deed (sI S 64 0 0) 64 (nI i) (nI k + 1) = gI S 68 (72 + 5 * i + (k + 1)) := by
          rw [show nI k + (1 : Int32) = nI (k + 1) from (nI_succ k).symm]
          exact (deed_at (sI S 64 0 0) hi (k := k + 1) (by omega)).1
        rw [isA_isOf S S 19 (nI i) 1 k4 k1 k2, isA_isOf S S 19 (nI i) 4 k4 k1 k2, hv, hd]
        rcases hA with ⟨hh, b1, b2, b3, b4⟩ | ⟨hh, b1, b2, b3, b4⟩ | ⟨hh, b1, b2, b3, b4⟩
        · have hcl : cl0 (gI S 68 (72 + 5 * i + (k + 1))) = gI S 68 (72 + 5 * i + (k + 1)) := by
            have hc : k = 0 ∨ k = 1 ∨ k = 2 ∨ k = 3 := by omega
            rcases hc with rfl | rfl | rfl | rfl
            · exact cl0_bw b1 (by omega)
            · exact cl0_bw b2 (by omega)
            · exact cl0_bw b3 (by omega)
            · exact cl0_bw b4 (by omega)
          rw [hcl]
          have hof : ¬ f_X12_isOf S (nI kd) 1 = 0 := by
            rw [← k3]
            rcases hh with q | q <;> rw [q] <;> exact one_ne
          rw [if_neg hof]
          rfl
        · have hof : f_X12_isOf S (nI kd) 1 = 0 := by
            rw [← k3]
            rcases hh with q | q <;> rw [q] <;> rfl
          have hof4 : ¬ f_X12_isOf S (nI kd) 4 = 0 := by
            rw [← k3]
            rcases hh with q | q <;> rw [q] <;> exact one_ne
          rw [if_pos hof, if_neg hof4]
          by_cases c0 : nI k = 0
          · rw [if_pos c0]
            have k0 : k = 0 := by
              have := congrArg Int32.toInt c0
              rw [nI_ti (by omega), ti0] at this
              omega
            subst k0
            have hbnd : bw (gI S 68 (72 + 5 * i + (0 + 1))) 0 4 := ⟨b1.1, by
              obtain ⟨⟨-, hB, -⟩, -⟩ := hI.2.2.2.2.1
              have := hB.1.2.2.1.2
              have := b1.2
              show (gI S 68 (72 + 5 * i + 1)).toInt ≤ 4
              omega⟩
            rw [cl0_bw hbnd (by omega)]
            rfl
          · rw [if_neg c0]
            have hc : k = 1 ∨ k = 2 ∨ k = 3 := by
              rcases Nat.eq_zero_or_pos k with q | q
              · subst q; exact absurd rfl c0
              · omega
            rcases hc with rfl | rfl | rfl
            · rw [show gI S 68 (72 + 5 * i + (1 + 1)) = -1000000 from b2]; rfl
            · rw [show gI S 68 (72 + 5 * i + (2 + 1)) = -1000000 from b3]; rfl
            · rw [show gI S 68 (72 + 5 * i + (3 + 1)) = -1000000 from b4]; rfl
        · have hof : f_X12_isOf S (nI kd) 1 = 0 := by rw [← k3, hh]; rfl
          have hof4 : f_X12_isOf S (nI kd) 4 = 0 := by rw [← k3, hh]; rfl
          rw [if_pos hof, if_pos hof4]
          have hc : k = 0 ∨ k = 1 ∨ k = 2 ∨ k = 3 := by omega
          rcases hc with rfl | rfl | rfl | rfl
          · rw [show gI S 68 (72 + 5 * i + (0 + 1)) = -1000000 from b1]; rfl
          · rw [show gI S 68 (72 + 5 * i + (1 + 1)) = -1000000 from b2]; rfl
          · rw [show gI S 68 (72 + 5 * i + (2 + 1)) = -1000000 from b3]; rfl
          · rw [show gI S 68 (72 + 5 * i + (3 + 1)) = -1000000 from b4]; rfl
