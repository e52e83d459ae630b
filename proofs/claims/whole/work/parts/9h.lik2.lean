-- needs: 9g.lik
theorem smz_bw {g : Int → Bool} {zf o : Int → Int} (ho : ∀ z, 0 ≤ o z ∧ o z ≤ 12) (s : Int) : ∀ (n : Nat) (z : Int), 0 ≤ smz g zf o s n z ∧ smz g zf o s n z ≤ 12 * n := by
  intro n
  induction n with
  | zero => intro z; exact ⟨Int.le_refl _, Int.le_refl _⟩
  | succ n ih =>
    intro z
    have h1 := ih (z + 1)
    have h2 : 0 ≤ con g zf o s z ∧ con g zf o s z ≤ 12 := by
      have := ho z
      unfold con
      split
      · split <;> omega
      · omega
    show 0 ≤ con g zf o s z + smz g zf o s n (z + 1) ∧ con g zf o s z + smz g zf o s n (z + 1) ≤ 12 * ((n + 1 : Nat) : Int)
    omega
theorem oZ_b {S : HSt} {o : Nat} (h : CBw S o) (spin : Int32) (z : Int) : 0 ≤ oZ S o spin z ∧ oZ S o spin z ≤ 12 := oZ_bw h _
theorem sum2 {S : HSt} {o : Nat} (h : CBw S o) (spin size : Int32) : ((2 : Int32) * f_X9_sumAt S o size spin).toInt = 2 * smz (gZ S o spin) (zZ S o spin) (oZ S o spin) size.toInt (2 * (gI S o 5).toInt.toNat + 1) (-(gI S o 5).toInt) := by
  obtain ⟨-, e⟩ := sum_z h spin size
  have hb := smz_bw (g := gZ S o spin) (zf := zZ S o spin) (oZ_b h spin) size.toInt (2 * (gI S o 5).toInt.toNat + 1) (-(gI S o 5).toInt)
  have hsh := h.1
  have en : ((gI S o 5).toInt.toNat : Int) = (gI S o 5).toInt := Int.toNat_of_nonneg hsh.1
  have h3 := hsh.2
  rw [ti_mul (by rw [show (2 : Int32).toInt = 2 from rfl, e]; omega) (by rw [show (2 : Int32).toInt = 2 from rfl, e]; omega), e]
  rfl
theorem lik_L {S : HSt} {o sc : Nat} (h : CBw S o) {spin : Int32} (hs : bw spin 0 15) (v2 v4 v5 : Int32) : ∀ (n k : Nat) (v6 v7 : Int32), v7.toInt + k = (gI S o 5).toInt + 1 → -3 ≤ v7.toInt → k < n → T_X9_likelyFrom_21 o sc n S v2 spin v4 v5 v6 v7 ∧ (L_X9_likelyFrom_21 o sc n S v2 spin v4 v5 v6 v7).2.2.2.2.1.toInt = lsz (gZ S o spin) (zZ S o spin) (fun y => !decide (2 * smz (gZ S o spin) (zZ S o spin) (oZ S o spin) y (2 * (gI S o 5).toInt.toNat + 1) (-(gI S o 5).toInt) < (gI S o 3).toInt)) k v7.toInt v6.toInt := by
  intro n
  induction n with
  | zero => intro k v6 v7 _ _ h; omega
  | succ n ih =>
    intro k v6 v7 h1 h2 h3
    have hsh := h.1.2
    unfold T_X9_likelyFrom_21 L_X9_likelyFrom_21
    cases k with
    | zero =>
      have c : gI S o 5 < v7 := by rw [ti_lt]; omega
      rw [if_pos c]
      exact ⟨⟨fun q => absurd c q, fun q => absurd c q, fun q => absurd c q⟩, rfl⟩
    | succ k =>
      have c : ¬ gI S o 5 < v7 := by rw [ti_lt]; omega
      have t1 : (v7 + 1).toInt = v7.toInt + 1 := by rw [ti_add (by rw [ti1]; omega) (by rw [ti1]; omega), ti1]
      rw [if_neg c]
      simp only [bd_def]
      have ev : Int32.ofInt v7.toInt = v7 := Int32.ofInt_toInt v7
      have hV : ∃ V : Int32, (if f_X9_flightBy S o (spin + v7) ≤ 0 then v6 else (if v6 ≤ f_X9_sizeFor S o (f_X9_flightBy S o (spin + v7)) then v6 else (if (2 : Int32) * f_X9_sumAt S o (f_X9_sizeFor S o (f_X9_flightBy S o (spin + v7))) spin < gI S o 3 then v6 else f_X9_sizeFor S o (f_X9_flightBy S o (spin + v7))))) = V ∧ V.toInt = (if gZ S o spin v7.toInt = true then (if v6.toInt ≤ zZ S o spin v7.toInt then v6.toInt else if (!decide (2 * smz (gZ S o spin) (zZ S o spin) (oZ S o spin) (zZ S o spin v7.toInt) (2 * (gI S o 5).toInt.toNat + 1) (-(gI S o 5).toInt) < (gI S o 3).toInt)) = true then zZ S o spin v7.toInt else v6.toInt) else v6.toInt) := by
        refine ⟨_, rfl, ?_⟩
        have hz : zZ S o spin v7.toInt = (f_X9_sizeFor S o (f_X9_flightBy S o (spin + v7))).toInt := by unfold zZ; rw [ev]
        have hg : gZ S o spin v7.toInt = !decide (f_X9_flightBy S o (spin + v7) ≤ 0) := by rw [ti_lt] at c; exact gZ_v (by omega) (by omega)
        rw [hg, hz]
        have s2 := sum2 h spin (f_X9_sizeFor S o (f_X9_flightBy S o (spin + v7)))
        by_cases q : f_X9_flightBy S o (spin + v7) ≤ 0
        · rw [if_pos q, decide_eq_true q, if_neg (show ¬ (!true) = true by decide)]
        · rw [if_neg q, decide_eq_false q, if_pos (show (!false) = true from rfl)]
          generalize f_X9_sizeFor S o (f_X9_flightBy S o (spin + v7)) = Z at s2
          by_cases q2 : v6 ≤ Z
          · rw [if_pos q2, if_pos (show v6.toInt ≤ Z.toInt by rw [ti_le] at q2; exact q2)]
          · rw [if_neg q2, if_neg (show ¬ v6.toInt ≤ Z.toInt by rw [ti_le] at q2; exact q2)]
            by_cases q3 : (2 : Int32) * f_X9_sumAt S o Z spin < gI S o 3
            · rw [if_pos q3]
              rw [ti_lt, s2] at q3
              rw [decide_eq_true q3, if_neg (show ¬ (!true) = true by decide)]
            · rw [if_neg q3]
              rw [ti_lt, s2] at q3
              rw [decide_eq_false q3, if_pos (show (!false) = true from rfl)]
      obtain ⟨V, e1, e2⟩ := hV
      obtain ⟨i1, i2⟩ := ih k V (v7 + 1) (by rw [t1]; omega) (by rw [t1]; omega) (by omega)
      rw [e1]
      refine ⟨⟨fun _ => p_fl S o _, fun _ x hx q1 q2 => (sum_z h spin _).1, fun _ x hx y hy => ?_⟩, ?_⟩
      · rw [← hx, e1] at hy
        rw [← hy]; exact i1
      · rw [i2, e2, t1]
        rfl
theorem lik_at {S : HSt} {i : Nat} (hi : i < 4) {tick how spin : Int32} (hs : bw spin 0 15) (h : CBw (f_X9_face S 55 18 tick how (nI i)) 55) (h3 : 0 < (gI (f_X9_face S 55 18 tick how (nI i)) 55 3).toInt) : p_X9_likelyFrom S 55 18 tick spin how (nI i) ∧ (f_X9_likelyFrom S 55 18 tick spin how (nI i)).2 = f_X9_face S 55 18 tick how (nI i) ∧ ∀ size : Int32, bw size 0 200 → (size < (f_X9_likelyFrom S 55 18 tick spin how (nI i)).1 ↔ (2 : Int32) * f_X9_sumAt (f_X9_face S 55 18 tick how (nI i)) 55 size spin < gI (f_X9_face S 55 18 tick how (nI i)) 55 3) := by
  have pf := (face_at (S := S) (o := 55) (sc := 18) (by decide) (by decide) hi tick how).2.2.2
  have e : f_X9_likelyFrom S 55 18 tick spin how (nI i) = pr (L_X9_likelyFrom_21 55 18 1000 (f_X9_face S 55 18 tick how (nI i)) tick spin how (nI i) 1000000 (-(gI (f_X9_face S 55 18 tick how (nI i)) 55 5))).2.2.2.2.1 (f_X9_face S 55 18 tick how (nI i)) := by
    unfold f_X9_likelyFrom
    simp only [bd_def]
  have ep : T_X9_likelyFrom_21 55 18 1000 (f_X9_face S 55 18 tick how (nI i)) tick spin how (nI i) 1000000 (-(gI (f_X9_face S 55 18 tick how (nI i)) 55 5)) → p_X9_likelyFrom S 55 18 tick spin how (nI i) := fun q => ⟨pf, fun r er x ex => by rw [← ex, ← er]; exact q⟩
  rw [e, pr_1, pr_2]
  generalize f_X9_face S 55 18 tick how (nI i) = R at h h3 ep
  have hsh := h.1
  have tn : (-(gI R 55 5)).toInt = -(gI R 55 5).toInt := ti_neg (by have := hsh.1; omega)
  have en : ((gI R 55 5).toInt.toNat : Int) = (gI R 55 5).toInt := Int.toNat_of_nonneg hsh.1
  have h2 := hsh.2
  obtain ⟨a1, a2⟩ := lik_L (sc := 18) h hs tick how (nI i) 1000 (2 * (gI R 55 5).toInt.toNat + 1) 1000000 (-(gI R 55 5)) (by rw [tn]; omega) (by rw [tn]; omega) (by omega)
  refine ⟨ep a1, rfl, fun size hz => ?_⟩
  rw [ti_lt, a2, ti_lt, sum2 h, tn, show (1000000 : Int32).toInt = 1000000 from rfl]
  have hg : ∀ z, gZ R 55 spin z = true → 0 ≤ zZ R 55 spin z := fun z hz => (gZ_bw h hs hz).1
  exact thr_iff hg (fun z => (oZ_b h spin z).1) h3 hz.1 (by have := hz.2; omega)
