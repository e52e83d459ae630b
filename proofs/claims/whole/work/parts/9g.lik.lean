-- needs: 9f.thr
/-! ===== moves: the class's threshold ===== -/
noncomputable def gZ (S : HSt) (o : Nat) (spin : Int32) (z : Int) : Bool := (decide (-3 ≤ z) && decide (z ≤ 3)) && !decide (f_X9_flightBy S o (spin + Int32.ofInt z) ≤ 0)
theorem gZ_v {S : HSt} {o : Nat} {spin v : Int32} (h1 : -3 ≤ v.toInt) (h2 : v.toInt ≤ 3) : gZ S o spin v.toInt = !decide (f_X9_flightBy S o (spin + v) ≤ 0) := by
  unfold gZ
  rw [Int32.ofInt_toInt, decide_eq_true h1, decide_eq_true h2]
  rfl
noncomputable def zZ (S : HSt) (o : Nat) (spin : Int32) (z : Int) : Int := (f_X9_sizeFor S o (f_X9_flightBy S o (spin + Int32.ofInt z))).toInt
noncomputable def oZ (S : HSt) (o : Nat) (spin : Int32) (z : Int) : Int := (f_X9_ofTwelve S o (f_X9_flightBy S o (spin + Int32.ofInt z))).toInt
def CBw (S : HSt) (o : Nat) : Prop := bw (gI S o 5) 0 3 ∧ bw (gI S o 6) 0 100000 ∧ bw (gI S o 7) 0 15 ∧ bw (gI S o 8) 0 100 ∧ 0 < (gI S o 9).toInt ∧ bw (gI S o 10) 0 12
theorem oZ_bw {S : HSt} {o : Nat} (h : CBw S o) (t : Int32) : bw (f_X9_ofTwelve S o t) 0 12 := by
  rw [o12_v S o t h.2.2.2.2.1]
  exact o12_bw h.2.2.2.2.2
theorem zZ_bw {S : HSt} {o : Nat} (h : CBw S o) {s : Int32} (hs : bw s (-1000) 1000) (hf : ¬ f_X9_flightBy S o s ≤ 0) : bw (f_X9_sizeFor S o (f_X9_flightBy S o s)) 0 280 := by
  rw [sz_v]
  rw [fl_v] at hf ⊢
  rcases fl_eq h.2.1 ⟨h.2.2.1.1, by have := h.2.2.1.2; omega⟩ hs rfl with ⟨h1, h2, h3⟩ | ⟨h1, h2⟩
  · rw [h2]
    exact sz_bw h.2.2.2.1 (mFl_bw h1)
  · rw [h2] at hf
    exact absurd (by decide) hf
theorem gZ_bw {S : HSt} {o : Nat} (h : CBw S o) {spin : Int32} (hs : bw spin 0 15) {z : Int} (hg : gZ S o spin z = true) : 0 ≤ zZ S o spin z ∧ zZ S o spin z ≤ 280 := by
  unfold gZ at hg
  simp at hg
  obtain ⟨hz, hg⟩ := hg
  have e : (spin + Int32.ofInt z).toInt = spin.toInt + z := by
    have ez : (Int32.ofInt z).toInt = z := by rw [Int32.toInt_ofInt_of_le (by omega) (by omega)]
    rw [ti_add (by rw [ez]; have := hs.1; omega) (by rw [ez]; have := hs.2; omega), ez]
  exact zZ_bw h (s := spin + Int32.ofInt z) ⟨by have := hs.1; omega, by have := hs.2; omega⟩ (by rw [ti_le, ti0]; rw [ti_lt, ti0] at hg; omega)
theorem sumZ_L {S : HSt} {o : Nat} (h : CBw S o) {spin size : Int32} : ∀ (n k : Nat) (v3 v4 : Int32) (m : Int), v4.toInt + k = (gI S o 5).toInt + 1 → -3 ≤ v4.toInt → k < n → 0 ≤ v3.toInt → v3.toInt ≤ m → m + 12 * k ≤ 1000 → T_X9_sumAt_9 o n S size spin v3 v4 ∧ (L_X9_sumAt_9 o n S size spin v3 v4).2.2.1.toInt = v3.toInt + smz (gZ S o spin) (zZ S o spin) (oZ S o spin) size.toInt k v4.toInt := by
  intro n
  induction n with
  | zero => intro k v3 v4 m _ _ h; omega
  | succ n ih =>
    intro k v3 v4 m h1 h2 h3 h4 h5 h6
    have hsh := h.1.2
    unfold T_X9_sumAt_9 L_X9_sumAt_9
    cases k with
    | zero =>
      have c : gI S o 5 < v4 := by rw [ti_lt]; omega
      rw [if_pos c]
      refine ⟨⟨fun q => absurd c q, fun q => absurd c q, fun q => absurd c q⟩, ?_⟩
      show v3.toInt = v3.toInt + 0
      omega
    | succ k =>
      have c : ¬ gI S o 5 < v4 := by rw [ti_lt]; omega
      have t1 : (v4 + 1).toInt = v4.toInt + 1 := by rw [ti_add (by rw [ti1]; omega) (by rw [ti1]; omega), ti1]
      rw [if_neg c]
      simp only [bd_def]
      have ev : Int32.ofInt v4.toInt = v4 := Int32.ofInt_toInt v4
      have hob := oZ_bw h (f_X9_flightBy S o (spin + v4))
      have hV : ∃ V : Int32, (if f_X9_flightBy S o (spin + v4) ≤ 0 then v3 else (if size < f_X9_sizeFor S o (f_X9_flightBy S o (spin + v4)) then v3 else v3 + f_X9_ofTwelve S o (f_X9_flightBy S o (spin + v4)))) = V ∧ V.toInt = v3.toInt + con (gZ S o spin) (zZ S o spin) (oZ S o spin) size.toInt v4.toInt ∧ v3.toInt ≤ V.toInt ∧ V.toInt ≤ v3.toInt + 12 := by
        refine ⟨_, rfl, ?_⟩
        rw [ti_lt] at c
        unfold con
        rw [gZ_v (by omega) (by omega)]
        unfold zZ oZ
        rw [ev]
        by_cases q : f_X9_flightBy S o (spin + v4) ≤ 0
        · rw [if_pos q, decide_eq_true q, if_neg (show ¬ (!true) = true by decide)]; omega
        · rw [if_neg q, decide_eq_false q, if_pos (show (!false) = true from rfl)]
          by_cases q2 : size < f_X9_sizeFor S o (f_X9_flightBy S o (spin + v4))
          · rw [if_pos q2, if_pos (show size.toInt < (f_X9_sizeFor S o (f_X9_flightBy S o (spin + v4))).toInt by rw [ti_lt] at q2; exact q2)]; omega
          · rw [if_neg q2, if_neg (show ¬ size.toInt < (f_X9_sizeFor S o (f_X9_flightBy S o (spin + v4))).toInt by rw [ti_lt] at q2; exact q2), ti_add (by have := hob.1; omega) (by have := hob.2; omega)]
            have := hob.1; have := hob.2; omega
      obtain ⟨V, e1, e2, e3, e4⟩ := hV
      obtain ⟨i1, i2⟩ := ih k V (v4 + 1) (m + 12) (by rw [t1]; omega) (by rw [t1]; omega) (by omega) (by omega) (by omega) (by omega)
      rw [e1]
      refine ⟨⟨fun _ => p_fl S o _, fun _ x _ _ _ => p_o12 S o x, fun _ x hx y hy => ?_⟩, ?_⟩
      · rw [← hx, e1] at hy
        rw [← hy]; exact i1
      · rw [i2, e2, t1]
        show _ = v3.toInt + (con _ _ _ _ _ + smz _ _ _ _ k (v4.toInt + 1))
        omega
theorem sum_z {S : HSt} {o : Nat} (h : CBw S o) (spin size : Int32) : p_X9_sumAt S o size spin ∧ (f_X9_sumAt S o size spin).toInt = smz (gZ S o spin) (zZ S o spin) (oZ S o spin) size.toInt (2 * (gI S o 5).toInt.toNat + 1) (-(gI S o 5).toInt) := by
  have hsh := h.1
  have tn : (-(gI S o 5)).toInt = -(gI S o 5).toInt := ti_neg (by have := hsh.1; omega)
  have en : ((gI S o 5).toInt.toNat : Int) = (gI S o 5).toInt := Int.toNat_of_nonneg hsh.1
  have h2 := hsh.2
  obtain ⟨a1, a2⟩ := sumZ_L h (spin := spin) (size := size) 1000 (2 * (gI S o 5).toInt.toNat + 1) 0 (-(gI S o 5)) 0 (by rw [tn]; omega) (by rw [tn]; omega) (by omega) (by rw [ti0]; omega) (by rw [ti0]; omega) (by omega)
  refine ⟨fun x hx => by rw [← hx]; exact a1, ?_⟩
  show (F_X9_sumAt S o size spin).1.toInt = _
  unfold F_X9_sumAt
  rw [bd_def, bd_def, pr_1, a2, tn, ti0]
  omega
