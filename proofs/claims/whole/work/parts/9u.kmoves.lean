-- needs: 9t.plan
/-! ===== moves: both sides ===== -/
theorem RW.of {S T : HSt} {v : Int × List Nat} (h1 : gI T 52 = gI S 52) (h2 : gI T 53 = gI S 53) (h3 : gI T 46 = gI S 46) (h : RW S 0 v) : RW T 0 v := by
  obtain ⟨⟨a1, a2⟩, a3⟩ := h
  exact ⟨⟨by rw [h1]; exact a1, fun i hi => by rw [show 46 + 0 = 46 from rfl, h3]; exact a2 i hi⟩, by rw [h2]; exact a3⟩
theorem IPlan.of {n : Nat} {S T : HSt} (h18 : gI T 18 3 = gI S 18 3) (h6 : gI T 43 6 = gI S 43 6) (h7 : gI T 43 7 = gI S 43 7) (h46 : gI T 46 = gI S 46) (h52 : gI T 52 = gI S 52) (h53 : gI T 53 = gI S 53) (h56 : gI T 56 = gI S 56) (h68 : gI T 68 = gI S 68) (r18 : gI T 64 18 = gI S 64 18) (r19 : gI T 64 19 = gI S 64 19) (h : IPlan n S) : IPlan n T := by
  have e1 : ropB T = ropB S := ropB_cg h68 r18 r19
  have e2 : nBs T = nBs S := by unfold nBs; rw [h68]
  have e3 : pL T = pL S := by unfold pL; rw [h56]
  unfold IPlan at h ⊢
  rw [h18, h6, h7, e1, e2, e3]
  refine ⟨h.1, ?_⟩
  rcases h.2 with q | ⟨m, a1, a2, a3, a4, a5⟩
  · exact Or.inl q
  · exact Or.inr ⟨m, a1, a2, a3, a4, fun q => (a5 q).of h52 h53 h46⟩
theorem IPlan.mono {n m : Nat} {S : HSt} (hnm : n ≤ m) (h : IPlan n S) : IPlan m S := ⟨⟨h.1.1, by have := h.1.2; omega⟩, h.2⟩
theorem fr_plan {n : Nat} {W : List (Nat × Nat)} {S T : HSt} (hW : W.all (fun q => !(decide (q = (18, 3)) || decide (q = (18, 1000)) || decide (q = (43, 6)) || decide (q = (43, 7)) || decide (q = (43, 1000)) || decide (q.1 = 46) || decide (q.1 = 52) || decide (q.1 = 53) || decide (q.1 = 56) || decide (q.1 = 68) || decide (q = (64, 18)) || decide (q = (64, 19)) || decide (q = (64, 1000)))) = true) (h : Fr W S T) (hI : IPlan n S) : IPlan n T := by
  have hq : ∀ q ∈ W, ¬ (q = (18, 3) ∨ q = (18, 1000) ∨ q = (43, 6) ∨ q = (43, 7) ∨ q = (43, 1000) ∨ q.1 = 46 ∨ q.1 = 52 ∨ q.1 = 53 ∨ q.1 = 56 ∨ q.1 = 68 ∨ q = (64, 18) ∨ q = (64, 19) ∨ q = (64, 1000)) := fun q hq => by
    have := List.all_eq_true.mp hW q hq
    simp at this
    intro z
    rcases z with z | z | z | z | z | z | z | z | z | z | z | z | z
    · subst z; simp at this
    · subst z; simp at this
    · subst z; simp at this
    · subst z; simp at this
    · subst z; simp at this
    all_goals first | (subst z; simp at this) | (simp [z] at this)
  have two : ∀ a j, (a, j) ∉ W → (a, 1000) ∉ W → gI T a j = gI S a j := fun a j h1 h2 => h a j h1 h2
  have row : ∀ a, (a = 46 ∨ a = 52 ∨ a = 53 ∨ a = 56 ∨ a = 68) → gI T a = gI S a := fun a ha => fr_addr h a (fun q hqW e => hq q hqW (by rcases ha with r | r | r | r | r <;> subst r <;> simp [e]))
  exact hI.of (two 18 3 (fun z => hq _ z (by simp)) (fun z => hq _ z (by simp))) (two 43 6 (fun z => hq _ z (by simp)) (fun z => hq _ z (by simp))) (two 43 7 (fun z => hq _ z (by simp)) (fun z => hq _ z (by simp))) (row 46 (by simp)) (row 52 (by simp)) (row 53 (by simp)) (row 56 (by simp)) (row 68 (by simp)) (two 64 18 (fun z => hq _ z (by simp)) (fun z => hq _ z (by simp))) (two 64 19 (fun z => hq _ z (by simp)) (fun z => hq _ z (by simp)))
theorem same43 {S U : HSt} (h : ∀ y, y ≠ 43 → ¬ (46 ≤ y ∧ y ≤ 61) → gI U y = gI S y) : Same S U := by
  refine same_of_fr (W := [(43, 1000), (46, 1000), (47, 1000), (48, 1000), (49, 1000), (50, 1000), (51, 1000), (52, 1000), (53, 1000), (54, 1000), (55, 1000), (56, 1000), (57, 1000), (58, 1000), (59, 1000), (60, 1000), (61, 1000)]) (by decide) (fun a j _ h2 => ?_)
  rw [h a (fun e => h2 (by rw [e]; simp)) (fun e => h2 (by
    have : a = 46 ∨ a = 47 ∨ a = 48 ∨ a = 49 ∨ a = 50 ∨ a = 51 ∨ a = 52 ∨ a = 53 ∨ a = 54 ∨ a = 55 ∨ a = 56 ∨ a = 57 ∨ a = 58 ∨ a = 59 ∨ a = 60 ∨ a = 61 := by omega
    rcases this with r | r | r | r | r | r | r | r | r | r | r | r | r | r | r | r <;> rw [r] <;> simp))]
theorem i64_eq {x : Int32} {y : Int32} (h : x.toInt = y.toInt) : x.toInt64 = y.toInt64 := by rw [ti_eq.mpr h]
theorem k_mv {n : Nat} {S : HSt} {a1 a2 : Int32} (hn : n < 512) (hI : Inv0 n S) (hP : IPlan n S) (hC : CS S) : p_X11_moves S 0 a1 a2 ∧ p_X12_moves (f_X11_moves S 0 a1 a2).2 64 a1 a2 ∧ (f_X11_moves S 0 a1 a2).1 = (f_X12_moves (f_X11_moves S 0 a1 a2).2 64 a1 a2).1 ∧ Inv0 (n + 1) (f_X12_moves (f_X11_moves S 0 a1 a2).2 64 a1 a2).2 ∧ IPlan (n + 1) (f_X12_moves (f_X11_moves S 0 a1 a2).2 64 a1 a2).2 := by
  obtain ⟨-, hth, hbz, -⟩ := hI.2.2.2.2.1
  have hin : ∀ T, f_X12_in T a1.toInt64 (1 : Int64) (5 : Int64) = f_X11_within S a1 1 5 := fun T => by
    rw [show (1 : Int64) = (1 : Int32).toInt64 from rfl, show (5 : Int64) = (5 : Int32).toInt64 from rfl, in_within T S]
  have fin : ∀ U, Same S U → IPlan n U → Inv0 (n + 1) (f_X12_moves U 64 a1 a2).2 ∧ IPlan (n + 1) (f_X12_moves U 64 a1 a2).2 := fun U h1 h2 =>
    ⟨((hI.same h1).same (same_of_fr (by decide) (v_X12_moves U 64 a1 a2))).mono (Nat.le_succ n), (fr_plan (by decide) (v_X12_moves U 64 a1 a2) h2).mono (Nat.le_succ n)⟩
  have sS : Same S S := same_of_fr (W := []) (by decide) (fun _ _ _ _ => rfl)
  by_cases c0 : f_X11_within S a1 1 5 = 0
  · have e : f_X11_moves S 0 a1 a2 = pr (-9000000000000000001) S := by unfold f_X11_moves; rw [if_pos c0]
    rw [e, pr_1, pr_2]
    refine ⟨⟨fun q => absurd c0 q, fun q => absurd c0 q⟩, ⟨fun T _ q => absurd ((hin T).trans c0) q, fun T _ q => absurd ((hin T).trans c0) q⟩, ?_, fin S sS hP⟩
    unfold f_X12_moves
    rw [bd_def, if_pos ((hin _).trans c0), pr_1]
  · by_cases c1 : (-1 : Int32) ≤ a2
    · by_cases c2 : gI S 18 2 = 0
      · have e : f_X11_moves S 0 a1 a2 = pr (-9000000000000000002) S := by unfold f_X11_moves; rw [if_neg c0, if_pos c1, if_pos c2]
        rw [e, pr_1, pr_2]
        have t7 : ∀ T, sI S 64 0 0 = T → gI T 64 7 = 0 := fun T eT => by rw [← eT, gs_o (by decide), ← hth]; exact c2
        refine ⟨⟨fun _ _ q => absurd c2 q, fun _ _ q => absurd c2 q⟩, ⟨fun T eT _ _ q => absurd (t7 T eT) q, fun T eT _ _ q => absurd (t7 T eT) q⟩, ?_, fin S sS hP⟩
        unfold f_X12_moves
        rw [bd_def, if_neg (fun q => c0 ((hin _).symm.trans q)), if_pos c1, if_pos (t7 _ rfl), pr_1]
      · have ht : ¬ gI S 64 7 = 0 := by rw [← hth]; exact c2
        have w := Classical.not_not.mp (fun q => c0 ((within_iff S).mpr q))
        rw [ti1, show (5 : Int32).toInt = 5 from rfl] at w
        obtain ⟨m, hm, rfl⟩ := nI_of_bw (x := a1) (n := 6) (by omega) (by omega) (by omega)
        rw [nI_ti (by omega)] at w
        have h1 : 1 ≤ m := by omega
        have h5 : m ≤ 5 := by omega
        obtain ⟨r1, r2, r3, r4, r5⟩ := row_at hI hP hC hn ht h1 h5
        obtain ⟨hE, hL⟩ := ev_of hI ht
        have hb := hE.2.1.1.2.2.1
        rw [(ropB_at S).1] at hb
        have hc : (gI (ropB S) 68 2).toInt = (nBs S : Nat) := by
          rw [(ropB_at S).1]
          unfold nBs
          rw [Int.toNat_of_nonneg hb.1]
        have hlen := bs6_len (ropB S) (6 + 2 * nBs S) m (gI S 71, 0)
        have e : f_X11_moves S 0 (nI m) a2 = pr (if a2 = -1 then (f_X2_seekRow S 43 18 (nI m)).1.toInt64 else (f_X2_moveAt (f_X2_seekRow S 43 18 (nI m)).2 43 a2).toInt64) (f_X2_seekRow S 43 18 (nI m)).2 := by
          unfold f_X11_moves
          simp only [bd_def]
          rw [if_neg c0, if_pos c1, if_neg c2]
        rw [e, pr_1, pr_2]
        generalize hR : f_X2_seekRow S 43 18 (nI m) = R at r2 r3 r4 r5
        have hmod := rows_m (S := S) (B := ropB S) (U := sI R.2 64 0 0) (N := n) (n := m) h5 (by omega) hE hc (by rw [gs_ne (by decide), r4 68 (by decide) (by omega), (ropB_at S).1]) (by rw [gs_o (by decide), r4 64 (by decide) (by omega), (ropB_at S).2.1]) (by rw [gs_o (by decide), r4 64 (by decide) (by omega), (ropB_at S).2.2]) (L := gI S 71) (fun j _ => by rw [gs_ne (by decide), r4 71 (by decide) (by omega)]) hL
        obtain ⟨pm, mb⟩ := hmod
        have t7 : ¬ gI (sI R.2 64 0 0) 64 7 = 0 := by rw [gs_o (by decide), r4 64 (by decide) (by omega)]; exact ht
        generalize bs6 (ropB S) (6 + 2 * nBs S) m (gI S 71, 0) = V at r3 hlen mb
        obtain ⟨b1, b2, b3, b4⟩ := mb
        have e38 : gI (f_X12_seekRows (sI R.2 64 0 0) 64 (nI m)) 64 38 = nI V.2.length := b1
        obtain ⟨⟨c52, c46⟩, c53⟩ := r3
        have c1' : -1 ≤ a2.toInt := by rw [ti_le, show (-1 : Int32).toInt = -1 from rfl] at c1; exact c1
        have na : ¬ a2 = -1 → 0 ≤ a2.toInt := fun q => by
          have : ¬ a2.toInt = -1 := fun z => q (ti_eq.mpr z)
          omega
        refine ⟨⟨fun _ _ _ => r1, fun _ _ _ r er x ex q => ?_⟩, ⟨fun T eT _ _ _ => by rw [← eT]; exact pm, fun T eT _ _ _ r er q1 q2 => ?_⟩, ?_, fin R.2 (same43 r4) r5⟩
        · rw [hR] at er
          rw [← er]
          intro h1' h2'
          have z0 : (0 : Int32).toNatClampNeg = 0 := rfl
          rw [z0, c52, ti_le, nI_ti (by omega)] at h2'
          have := na q
          exact vp_in_iff.mpr ⟨by omega, by omega⟩
        · rw [← er, ← eT, e38, ti_le, nI_ti (by omega)] at q2
          have := na q1
          exact vp_in_iff.mpr ⟨by omega, by omega⟩
        · have em : (f_X12_moves R.2 64 (nI m) a2).1 = (if a2 = -1 then (gI (f_X12_seekRows (sI R.2 64 0 0) 64 (nI m)) 64 39).toInt64 else (if gI (f_X12_seekRows (sI R.2 64 0 0) 64 (nI m)) 64 38 ≤ a2 then (-1000000 : Int64) else (gI (f_X12_seekRows (sI R.2 64 0 0) 64 (nI m)) 76 a2.toNatClampNeg).toInt64)) := by
            unfold f_X12_moves
            simp only [bd_def]
            rw [if_neg (fun q => c0 ((hin _).symm.trans q)), if_pos c1, if_neg t7, pr_1]
          rw [em]
          by_cases q : a2 = -1
          · rw [if_pos q, if_pos q]
            exact i64_eq (by rw [r2, c53, b3])
          · rw [if_neg q, if_neg q, e38]
            have := na q
            have ea : f_X2_moveAt R.2 43 a2 = if nI V.2.length ≤ a2 then (-1000000 : Int32) else gI R.2 46 a2.toNatClampNeg := by
              show (if a2 < 0 then (-1000000 : Int32) else if gI R.2 52 0 ≤ a2 then (-1000000 : Int32) else gI R.2 46 a2.toNatClampNeg) = _
              rw [if_neg (by rw [ti_lt, ti0]; omega), c52]
            rw [ea]
            by_cases q2 : nI V.2.length ≤ a2
            · rw [if_pos q2, if_pos q2]; decide
            · rw [if_neg q2, if_neg q2]
              rw [ti_le, nI_ti (by omega)] at q2
              have hi : a2.toNatClampNeg < V.2.length := by rw [ti_cl]; omega
              rw [b4 _ hi]
              rw [show gI R.2 46 a2.toNatClampNeg = nI (V.2.getD a2.toNatClampNeg 0) from c46 _ hi]
    · have e : f_X11_moves S 0 a1 a2 = pr (-9000000000000000001) S := by unfold f_X11_moves; rw [if_neg c0, if_neg c1]
      rw [e, pr_1, pr_2]
      refine ⟨⟨fun _ q => absurd q c1, fun _ q => absurd q c1⟩, ⟨fun T _ _ q => absurd q c1, fun T _ _ q => absurd q c1⟩, ?_, fin S sS hP⟩
      unfold f_X12_moves
      rw [bd_def, if_neg (fun q => c0 ((hin _).symm.trans q)), if_neg c1, pr_1]
