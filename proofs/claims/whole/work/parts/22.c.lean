-- needs: 22.b
/-! ===== the invariant, part by part, through frames ===== -/
theorem fr_addr {W : List (Nat × Nat)} {S T : HSt} (h : Fr W S T) (a : Nat) (ha : ∀ q ∈ W, q.1 ≠ a) : gI T a = gI S a := by
  funext j
  exact h a j (fun q => ha _ q rfl) (fun q => ha _ q rfl)
theorem fr_row {W : List (Nat × Nat)} {S T : HSt} (hW : W.all (fun q => !((decide (3 ≤ q.1) && decide (q.1 ≤ 12)) || (decide (65 ≤ q.1) && decide (q.1 ≤ 67)))) = true) (h : Fr W S T) (hI : IRow S) : IRow T := by
  refine hI.of (fun a ha => fr_addr h a (fun q hq e => ?_))
  have := List.all_eq_true.mp hW q hq
  rw [e] at this
  simp only [Bool.not_eq_true', Bool.or_eq_false_iff, Bool.and_eq_false_iff, decide_eq_false_iff_not] at this
  omega
theorem fr_tape {W : List (Nat × Nat)} {S T : HSt} (hW : W.all (fun q => !(decide (q.1 = 14) || decide (q.1 = 70) || decide (q = (13, 2)) || decide (q = (13, 1000)) || decide (q = (64, 9)) || decide (q = (64, 1000)))) = true) (h : Fr W S T) (hI : ITape S) : ITape T := by
  have hw := List.all_eq_true.mp hW
  refine hI.of (h 13 2 (fun q => ?_) (fun q => ?_)) (h 64 9 (fun q => ?_) (fun q => ?_)) (fr_addr h 70 (fun q hq e => ?_)) (fr_addr h 14 (fun q hq e => ?_))
  · have := hw _ q; simp at this
  · have := hw _ q; simp at this
  · have := hw _ q; simp at this
  · have := hw _ q; simp at this
  · have := hw _ hq; simp [e] at this
  · have := hw _ hq; simp [e] at this
theorem fr_stat {W : List (Nat × Nat)} {S T : HSt} (hW : W.all (fun q => !(decide (q = (0, 10)) || decide (q = (0, 1000)) || decide (q = (13, 7)) || decide (q = (13, 1000)) || decide (q = (64, 1)) || decide (q = (64, 10)) || decide (q = (64, 1000)))) = true) (h : Fr W S T) (hI : IStat S) : IStat T := by
  have hw := List.all_eq_true.mp hW
  constructor
  · rw [h 0 10 (fun q => by have := hw _ q; simp at this) (fun q => by have := hw _ q; simp at this), h 64 1 (fun q => by have := hw _ q; simp at this) (fun q => by have := hw _ q; simp at this)]
    exact hI.1
  · rw [h 13 7 (fun q => by have := hw _ q; simp at this) (fun q => by have := hw _ q; simp at this), h 64 10 (fun q => by have := hw _ q; simp at this) (fun q => by have := hw _ q; simp at this)]
    exact hI.2
theorem fr_fault {W : List (Nat × Nat)} {S T : HSt} (hW : W.all (fun q => !(decide (q = (13, 7)) || decide (q = (13, 1000)) || decide (q = (64, 10)) || decide (q = (64, 1000)))) = true) (h : Fr W S T) (hI : gI S 13 7 = gI S 64 10) : gI T 13 7 = gI T 64 10 := by
  have hw := List.all_eq_true.mp hW
  rw [h 13 7 (fun q => by have := hw _ q; simp at this) (fun q => by have := hw _ q; simp at this), h 64 10 (fun q => by have := hw _ q; simp at this) (fun q => by have := hw _ q; simp at this)]
  exact hI
theorem fr_tr {W : List (Nat × Nat)} {S T : HSt} (hW : W.all (fun q => !(decide (q.1 = 62) || decide (q.1 = 63) || decide (q.1 = 87) || decide (q = (64, 51)) || decide (q = (64, 1000)))) = true) (h : Fr W S T) (hI : ITr S) : ITr T := by
  have hw := List.all_eq_true.mp hW
  refine hI.of (congrFun (fr_addr h 62 (fun q hq e => ?_)) 1) (h 64 51 (fun q => ?_) (fun q => ?_)) (fr_addr h 63 (fun q hq e => ?_)) (fr_addr h 87 (fun q hq e => ?_))
  · have := hw _ hq; simp [e] at this
  · have := hw _ q; simp at this
  · have := hw _ q; simp at this
  · have := hw _ hq; simp [e] at this
  · have := hw _ hq; simp [e] at this
theorem fr_scn {n : Nat} {W : List (Nat × Nat)} {S T : HSt} (hW : W.all (fun q => !((decide (q.1 = 18) && !decide (q.2 = 3)) || decide (q.1 = 20) || decide (q.1 = 21) || decide (q.1 = 22) || decide (q.1 = 68) || decide (q.1 = 71) || decide (q = (64, 7)) || decide (q = (64, 18)) || decide (q = (64, 19)) || decide (q = (64, 1000)))) = true) (h : Fr W S T) (hI : IScn n S) : IScn n T := by
  have hw := List.all_eq_true.mp hW
  refine hI.of (fun j h0 h1 h3 => h 18 j (fun q => ?_) (fun q => ?_)) (fr_addr h 20 (fun q hq e => ?_)) (fr_addr h 21 (fun q hq e => ?_)) (fr_addr h 22 (fun q hq e => ?_)) (fr_addr h 68 (fun q hq e => ?_)) (fr_addr h 71 (fun q hq e => ?_)) (h 64 18 (fun q => ?_) (fun q => ?_)) (h 64 19 (fun q => ?_) (fun q => ?_)) (h 64 7 (fun q => ?_) (fun q => ?_))
  · have := hw _ q; simp at this; omega
  · have := hw _ q; simp at this
  · have := hw _ hq; simp [e] at this
  · have := hw _ hq; simp [e] at this
  · have := hw _ hq; simp [e] at this
  · have := hw _ hq; simp [e] at this
  · have := hw _ hq; simp [e] at this
  · have := hw _ q; simp at this
  · have := hw _ q; simp at this
  · have := hw _ q; simp at this
  · have := hw _ q; simp at this
  · have := hw _ q; simp at this
  · have := hw _ q; simp at this
theorem fr_img {n : Nat} {W : List (Nat × Nat)} {S T : HSt} (hW : W.all (fun q => !((decide (24 ≤ q.1) && decide (q.1 ≤ 33)) || (decide (82 ≤ q.1) && decide (q.1 ≤ 86)) || decide (q = (64, 7)) || decide (q = (64, 1000)))) = true) (h : Fr W S T) (hI : IImg n S) : IImg n T := by
  have hw := List.all_eq_true.mp hW
  refine hI.of (fun a h1 h2 => fr_addr h a (fun q hq e => ?_)) (fun a h1 h2 => fr_addr h a (fun q hq e => ?_)) (h 64 7 (fun q => ?_) (fun q => ?_))
  · have := hw _ hq
    simp [e] at this
    omega
  · have := hw _ hq
    simp [e] at this
    omega
  · have := hw _ q; simp at this
  · have := hw _ q; simp at this
/-- only the finding changes -/
theorem inv_stat {n : Nat} {W W2 : List (Nat × Nat)} {S S1 T : HSt} (h : Fr W S S1) (h2 : Fr W2 S1 T)
    (c1 : (W.all (fun q => !((decide (3 ≤ q.1) && decide (q.1 ≤ 12)) || (decide (65 ≤ q.1) && decide (q.1 ≤ 67)))) && W.all (fun q => !(decide (q.1 = 14) || decide (q.1 = 70) || decide (q = (13, 2)) || decide (q = (13, 1000)) || decide (q = (64, 9)) || decide (q = (64, 1000)))) && W.all (fun q => !(decide (q = (13, 7)) || decide (q = (13, 1000)) || decide (q = (64, 10)) || decide (q = (64, 1000)))) && W.all (fun q => !(decide (q.1 = 62) || decide (q.1 = 63) || decide (q.1 = 87) || decide (q = (64, 51)) || decide (q = (64, 1000)))) && W.all (fun q => !((decide (q.1 = 18) && !decide (q.2 = 3)) || decide (q.1 = 20) || decide (q.1 = 21) || decide (q.1 = 22) || decide (q.1 = 68) || decide (q.1 = 71) || decide (q = (64, 7)) || decide (q = (64, 18)) || decide (q = (64, 19)) || decide (q = (64, 1000)))) && W.all (fun q => !((decide (24 ≤ q.1) && decide (q.1 ≤ 33)) || (decide (82 ≤ q.1) && decide (q.1 ≤ 86)) || decide (q = (64, 7)) || decide (q = (64, 1000))))) = true)
    (c2 : (W2.all (fun q => !((decide (3 ≤ q.1) && decide (q.1 ≤ 12)) || (decide (65 ≤ q.1) && decide (q.1 ≤ 67)))) && W2.all (fun q => !(decide (q.1 = 14) || decide (q.1 = 70) || decide (q = (13, 2)) || decide (q = (13, 1000)) || decide (q = (64, 9)) || decide (q = (64, 1000)))) && W2.all (fun q => !(decide (q = (13, 7)) || decide (q = (13, 1000)) || decide (q = (64, 10)) || decide (q = (64, 1000)))) && W2.all (fun q => !(decide (q.1 = 62) || decide (q.1 = 63) || decide (q.1 = 87) || decide (q = (64, 51)) || decide (q = (64, 1000)))) && W2.all (fun q => !((decide (q.1 = 18) && !decide (q.2 = 3)) || decide (q.1 = 20) || decide (q.1 = 21) || decide (q.1 = 22) || decide (q.1 = 68) || decide (q.1 = 71) || decide (q = (64, 7)) || decide (q = (64, 18)) || decide (q = (64, 19)) || decide (q = (64, 1000)))) && W2.all (fun q => !((decide (24 ≤ q.1) && decide (q.1 ≤ 33)) || (decide (82 ≤ q.1) && decide (q.1 ≤ 86)) || decide (q = (64, 7)) || decide (q = (64, 1000))))) = true)
    (he : gI T 0 10 = gI T 64 1) (hI : Inv0 n S) : Inv0 n T := by
  simp only [Bool.and_eq_true] at c1 c2
  obtain ⟨⟨⟨⟨⟨a1, a2⟩, a3⟩, a4⟩, a5⟩, a6⟩ := c1
  obtain ⟨⟨⟨⟨⟨b1, b2⟩, b3⟩, b4⟩, b5⟩, b6⟩ := c2
  obtain ⟨i1, i2, i3, i4, i5, i6⟩ := hI
  exact ⟨fr_row b1 h2 (fr_row a1 h i1), fr_tape b2 h2 (fr_tape a2 h i2), ⟨he, fr_fault b3 h2 (fr_fault a3 h i3.2)⟩, fr_tr b4 h2 (fr_tr a4 h i4), fr_scn b5 h2 (fr_scn a5 h i5), fr_img b6 h2 (fr_img a6 h i6)⟩
/-- only the finding and the rows change -/
theorem inv_rows {n : Nat} {W W2 : List (Nat × Nat)} {S S1 T : HSt} (h : Fr W S S1) (h2 : Fr W2 S1 T)
    (c1 : (W.all (fun q => !(decide (q.1 = 14) || decide (q.1 = 70) || decide (q = (13, 2)) || decide (q = (13, 1000)) || decide (q = (64, 9)) || decide (q = (64, 1000)))) && W.all (fun q => !(decide (q = (13, 7)) || decide (q = (13, 1000)) || decide (q = (64, 10)) || decide (q = (64, 1000)))) && W.all (fun q => !(decide (q.1 = 62) || decide (q.1 = 63) || decide (q.1 = 87) || decide (q = (64, 51)) || decide (q = (64, 1000)))) && W.all (fun q => !((decide (q.1 = 18) && !decide (q.2 = 3)) || decide (q.1 = 20) || decide (q.1 = 21) || decide (q.1 = 22) || decide (q.1 = 68) || decide (q.1 = 71) || decide (q = (64, 7)) || decide (q = (64, 18)) || decide (q = (64, 19)) || decide (q = (64, 1000)))) && W.all (fun q => !((decide (24 ≤ q.1) && decide (q.1 ≤ 33)) || (decide (82 ≤ q.1) && decide (q.1 ≤ 86)) || decide (q = (64, 7)) || decide (q = (64, 1000))))) = true)
    (c2 : (W2.all (fun q => !(decide (q.1 = 14) || decide (q.1 = 70) || decide (q = (13, 2)) || decide (q = (13, 1000)) || decide (q = (64, 9)) || decide (q = (64, 1000)))) && W2.all (fun q => !(decide (q = (13, 7)) || decide (q = (13, 1000)) || decide (q = (64, 10)) || decide (q = (64, 1000)))) && W2.all (fun q => !(decide (q.1 = 62) || decide (q.1 = 63) || decide (q.1 = 87) || decide (q = (64, 51)) || decide (q = (64, 1000)))) && W2.all (fun q => !((decide (q.1 = 18) && !decide (q.2 = 3)) || decide (q.1 = 20) || decide (q.1 = 21) || decide (q.1 = 22) || decide (q.1 = 68) || decide (q.1 = 71) || decide (q = (64, 7)) || decide (q = (64, 18)) || decide (q = (64, 19)) || decide (q = (64, 1000)))) && W2.all (fun q => !((decide (24 ≤ q.1) && decide (q.1 ≤ 33)) || (decide (82 ≤ q.1) && decide (q.1 ≤ 86)) || decide (q = (64, 7)) || decide (q = (64, 1000))))) = true)
    (he : gI T 0 10 = gI T 64 1) (hr : IRow T) (hI : Inv0 n S) : Inv0 n T := by
  simp only [Bool.and_eq_true] at c1 c2
  obtain ⟨⟨⟨⟨a2, a3⟩, a4⟩, a5⟩, a6⟩ := c1
  obtain ⟨⟨⟨⟨b2, b3⟩, b4⟩, b5⟩, b6⟩ := c2
  obtain ⟨i1, i2, i3, i4, i5, i6⟩ := hI
  exact ⟨hr, fr_tape b2 h2 (fr_tape a2 h i2), ⟨he, fr_fault b3 h2 (fr_fault a3 h i3.2)⟩, fr_tr b4 h2 (fr_tr a4 h i4), fr_scn b5 h2 (fr_scn a5 h i5), fr_img b6 h2 (fr_img a6 h i6)⟩
theorem found_eq (S T : HSt) (k : Int32) : (f_X11_found S 0 k).1 = (f_X12_finding T 64 k).1 := by
  unfold f_X11_found f_X12_finding
  rw [bd_def, bd_def]
  rfl
theorem found_2 (S : HSt) (k : Int32) : (f_X11_found S 0 k).2 = sI S 0 10 k := rfl
theorem fine_1 (S : HSt) (k : Int64) : (f_X11_fine S 0 k).1 = k := rfl
theorem fine_2 (S : HSt) (k : Int64) : (f_X11_fine S 0 k).2 = sI S 0 10 0 := rfl
theorem finding_2 (S : HSt) (k : Int32) : (f_X12_finding S 64 k).2 = sI S 64 1 k := rfl
theorem pr_1 {α β : Type} (a : α) (b : β) : (pr a b).1 = a := rfl
theorem pr_2 {α β : Type} (a : α) (b : β) : (pr a b).2 = b := rfl
theorem k_as : K_as Inv0 := by
  intro n S a b hn hI
  have hp : ∀ T : HSt, f_X12_in T b.toInt64 (0 : Int64) (6 : Int64) = f_X11_within S b 0 6 := fun T => by
    rw [show (0 : Int64) = (0 : Int32).toInt64 from rfl, show (6 : Int64) = (6 : Int32).toInt64 from rfl, in_within T S]
  have f1 := v_X11_as S 0 a b
  have f2 := v_X12_as (f_X11_as S 0 a b).2 64 a b
  have hW : gI (f_X11_as S 0 a b).2 68 = gI S 68 := fr_addr f1 68 (by decide)
  have hst := hI.2.2.1.1
  refine ⟨⟨p_has S 19 _ _, fun _ _ => p_isA S 19 _ _⟩, ?_, ?_⟩
  · intro S1 s1 h1 h2 S4 s4
    rcases act_case hI a with ⟨-, h3⟩ | ⟨i, kd, hi, rfl, -⟩
    · exact absurd (h3 S1 (by rw [← s1]; exact hW)) h1
    · exact (deed_at S4 hi (k := 0) (by decide)).2
  · have key : (f_X11_as S 0 a b).1 = (f_X12_as (f_X11_as S 0 a b).2 64 a b).1 ∧ gI (f_X12_as (f_X11_as S 0 a b).2 64 a b).2 0 10 = gI (f_X12_as (f_X11_as S 0 a b).2 64 a b).2 64 1 := by
      have g64 : gI (f_X11_as S 0 a b).2 64 = gI S 64 := fr_addr f1 64 (by decide)
      generalize hU : (f_X11_as S 0 a b).2 = U at hW g64
      have hU0 : gI U 0 10 = gI (f_X11_as S 0 a b).2 0 10 := by rw [hU]
      unfold f_X12_as
      rw [bd_def, hp]
      unfold f_X11_as at hU0 ⊢
      rcases act_case hI a with ⟨h1, h2⟩ | ⟨i, kd, hi, rfl, hA, k1, k2, k3, k4, h1, h2⟩
      · rw [if_pos h1] at hU0 ⊢
        rw [if_pos (h2 (sI U 64 0 0) hW)]
        exact ⟨rfl, hU0.trans (hst.trans (by rw [← g64]; rfl))⟩
      · rw [if_neg h1] at hU0 ⊢
        rw [if_neg (h2 (sI U 64 0 0) hW)]
        by_cases c1 : f_X11_within S b 0 6 = 0
        · rw [if_pos c1] at hU0 ⊢
          rw [if_pos c1]
          exact ⟨rfl, hU0.trans (hst.trans (by rw [← g64]; rfl))⟩
        · rw [if_neg c1] at hU0 ⊢
          rw [if_neg c1]
          simp only [bd_def] at hU0 ⊢
          have hd : f_X12_deed (sI (sI U 64 0 0) 64 1 0) 64 (nI i) (0 : Int32) = nI kd := by
            rw [← k3, ← hW]
            exact (deed_at (sI (sI U 64 0 0) 64 1 0) hi (k := 0) (by decide)).1
          rw [hd]
          have ho := isA_isOf S (sI (sI U 64 0 0) 64 1 0) 19 (nI i) b k4 k1 k2
          rw [ho] at hU0 ⊢
          by_cases c2 : f_X12_isOf (sI (sI U 64 0 0) 64 1 0) (nI kd) b = 0
          · rw [if_pos c2, if_pos c2] at hU0
            rw [if_pos c2, if_pos c2, if_pos c2, if_pos c2]
            rw [pr_1, pr_1, pr_2, finding_2]
            rw [pr_2, found_2] at hU0
            exact ⟨found_eq _ _ _, hU0⟩
          · rw [if_neg c2, if_neg c2] at hU0
            rw [if_neg c2, if_neg c2, if_neg c2, if_neg c2]
            rw [pr_1, pr_1, pr_2, fine_1]
            rw [pr_2, fine_2] at hU0
            exact ⟨rfl, hU0⟩
    exact ⟨key.1, (inv_stat f1 f2 (by decide) (by decide) key.2 hI).mono (Nat.le_succ n)⟩
