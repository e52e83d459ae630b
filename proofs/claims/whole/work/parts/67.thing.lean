-- needs: 66.nums
/-! ===== way: a thing ===== -/
theorem tb2' : ∀ s, s < 6 → (tbF 2).getD s 0 = nI (rom_ s) := by decide
theorem full_at (S : HSt) (o : Nat) {s : Nat} (hs : s < 6) : (f_X10_isFull S o (nI s) = 0 ↔ (gI S (o + 1) s).toInt < rom_ s) ∧ p_X10_isFull S o (nI s) := by
  have h1 : ¬ nI s < 0 := nI_pos (by omega)
  have h2 : ¬ (6 : Int32) ≤ nI s := nI_ge (a := s) (b := 6) hs (by omega)
  have h37 := fr_le s hs
  refine ⟨?_, fun _ _ => vp_in_nI hs (by decide), fun _ _ => vp_in_nI hs (by decide)⟩
  show (if nI s < 0 then (1 : Int32) else if (6 : Int32) ≤ nI s then 1 else if gI S (o + 1) (nI s).toNatClampNeg < (tbF 2).getD (nI s).toNatClampNeg 0 then 0 else 1) = 0 ↔ _
  rw [if_neg h1, if_neg h2, nI_clamp' (by omega), tb2' s hs]
  by_cases c : gI S (o + 1) s < nI (rom_ s)
  · rw [if_pos c]
    rw [ti_lt, nI_ti (by omega)] at c
    exact ⟨fun _ => c, fun _ => rfl⟩
  · rw [if_neg c]
    rw [ti_lt, nI_ti (by omega)] at c
    exact ⟨fun q => absurd q one_ne, fun q => absurd q c⟩
theorem add_at {S : HSt} {s i : Nat} (hs : s < 6) (hi : i < rom_ s) (h : gI S 16 s = nI i) : f_X10_add S 15 (nI s) = sI S 16 s (nI (i + 1)) ∧ p_X10_add S 15 (nI s) := by
  have h37 := fr_le s hs
  obtain ⟨f1, f2⟩ := full_at S 15 hs
  have z : f_X10_isFull S 15 (nI s) = 0 := f1.mpr (by rw [show 15 + 1 = 16 from rfl, h, nI_ti (by omega)]; omega)
  refine ⟨?_, f2, fun _ => vp_in_nI hs (by decide), fun _ => vp_in_nI hs (by decide)⟩
  unfold f_X10_add
  simp only [bd_def]
  rw [if_pos z, show 15 + 1 = 16 from rfl, nI_clamp' (by omega), h, nI_succ]
theorem many15 (S : HSt) {s : Nat} (hs : s < 6) : f_X10_howMany S 15 (nI s) = gI S 16 s := many_at S 15 hs
theorem ends_at {N kd b e : Nat} {S T : HSt} (hT : TP N S T) (hX : NX N S T kd b e) (h0 : gI T 64 16 = 0) {s : Nat} (hs : s < 6) : p_X12_ends T 64 (nI s) ∧ (kd = 3 → f_X12_ends T 64 (nI s) = sI (f_X12_next T 64) 69 s (gI T 69 s + 1)) ∧ (kd ≠ 3 → f_X12_ends T 64 (nI s) = sI (sI (sI T 64 16 1) 64 17 (nI b)) 69 s (gI T 69 s + 0)) := by
  obtain ⟨⟨s3, s4, s5⟩, ⟨t12, t13, t14, t15⟩, ⟨hbe, heN, hkd⟩, -, -⟩ := hX
  have fn := v_X12_next T 64
  have n16 : gI (f_X12_next T 64) 64 16 = 0 := by rw [fn 64 16 (by decide) (by decide), h0]
  obtain ⟨-, pn, -⟩ := next_R hT s5 t12 heN
  have b2 : ¬ gI (sI (sI T 64 16 1) 64 17 (nI b)) 64 16 = 0 := by rw [gs_o (by decide), gs_eq, if_pos rfl]; decide
  have hm : f_X12_must T 64 0 = sI (sI T 64 16 1) 64 17 (nI b) := by rw [must_0 h0, t14]
  refine ⟨⟨fun _ x ex => ?_, fun _ _ => vp_in_nI (by omega) (by omega), fun _ _ _ _ => vp_in_nI (by omega) (by omega)⟩, fun ck => ?_, fun ck => ?_⟩
  · intro S3 e3 q
    by_cases ck : gI T 64 13 = 4
    · rw [if_pos ck] at ex
      rw [← ex, if_neg one_ne] at e3
      rw [← e3]; exact pn
    · rw [if_neg ck] at ex
      rw [← ex, if_pos rfl, bd_def, bad_0 h0, t14] at e3
      rw [← e3] at q
      exact absurd q b2
  · subst ck
    have t13' : gI T 64 13 = 4 := t13
    unfold f_X12_ends
    simp only [bd_def]
    rw [if_pos h0, if_pos t13', must_1 h0, if_pos n16, nI_clamp' (by omega), fr_addr fn 69 (by decide)]
  · have t13n : ¬ gI T 64 13 = 4 := by
      rw [t13]
      have hc : kd = 0 ∨ kd = 1 ∨ kd = 2 ∨ kd = 4 := by omega
      rcases hc with rfl | rfl | rfl | rfl <;> decide
    unfold f_X12_ends
    simp only [bd_def]
    rw [if_pos h0, if_neg t13n, hm, if_neg b2, nI_clamp' (by omega), gs_ne (show (69 : Nat) ≠ 64 by decide), gs_ne (show (69 : Nat) ≠ 64 by decide)]
theorem ends_f {T : HSt} (h : 0 < (gI T 64 16).toInt) {s : Nat} (hs : s < 6) : p_X12_ends T 64 (nI s) ∧ f_X12_ends T 64 (nI s) = sI T 69 s (gI T 69 s + 0) := by
  have z : ¬ gI T 64 16 = 0 := fun q => by rw [q, ti0] at h; omega
  refine ⟨⟨fun q => absurd q z, fun _ _ => vp_in_nI (by omega) (by omega), fun _ _ _ _ => vp_in_nI (by omega) (by omega)⟩, ?_⟩
  unfold f_X12_ends
  simp only [bd_def]
  rw [if_neg z, if_neg z, nI_clamp' (by omega)]
theorem FE.ends {S T : HSt} (h : FE S T) (s : Nat) (v : Int32) : FE S (sI T 69 s v) := by
  obtain ⟨c, c1, c2, c3, c4, c5⟩ := h
  exact ⟨c, c1, c2, c3, by rw [gs_ne (by decide)]; exact c4, by rw [gs_ne (by decide)]; exact c5⟩
/-- a thing on both sides: the class's readThing, the model's numbers (behind its begin, T1) and end -/
theorem thing {N at' w s i first K : Nat} {S T1 : HSt} {lc hc : Nat → Int} {lo hi : Nat → HSt → Int32} (hw : w < 10) (hs : s < 6) (hi' : i < rom_ s) (hfst : first = if s = 5 then 1 else 0) (hfk : first + K ≤ 5) (hatK : at' + K ≤ 172) (hat6 : 6 ≤ at') (hK : (tbF 3).getD w 0 = nI K) (hci : gI S 16 s = nI i) (hct : gI T1 69 s = nI i) (hw5 : s = 5 → 5 ≤ w)
    (pcn : p_X4_next S 13) (hP0 : PR N at' ((fst_ s + i) * 5 + first) (f_X4_next S 13) T1 lc hc 0 (f_X4_next S 13) T1)
    (hlo : ∀ k, k < K → ∀ S' T', PR N at' ((fst_ s + i) * 5 + first) (f_X4_next S 13) T1 lc hc k S' T' → (f_X4_lowOf S' 13 (nI w) (nI k) (nI i) = lo k T' ∧ p_X4_lowOf S' 13 (nI w) (nI k) (nI i)) ∧ (f_X4_highOf S' 13 (nI w) (nI k) = hi k T' ∧ p_X4_highOf S' 13 (nI w) (nI k)) ∧ lc k ≤ (lo k T').toInt ∧ (hi k T').toInt ≤ hc k) : p_X4_readThing S 13 (nI w) (nI s) ∧ pIter at' lo hi K 0 T1 ∧ p_X12_ends (iterN at' lo hi K 0 T1) 64 (nI s) ∧ (((f_X4_readThing S 13 (nI w) (nI s)).1 = 0 ∧ FE (f_X4_readThing S 13 (nI w) (nI s)).2 (f_X12_ends (iterN at' lo hi K 0 T1) 64 (nI s))) ∨ ((f_X4_readThing S 13 (nI w) (nI s)).1 = 1 ∧ TP N (f_X4_readThing S 13 (nI w) (nI s)).2 (f_X12_ends (iterN at' lo hi K 0 T1) 64 (nI s)) ∧ (∃ kd b e, NX N (f_X4_readThing S 13 (nI w) (nI s)).2 (f_X12_ends (iterN at' lo hi K 0 T1) 64 (nI s)) kd b e) ∧ gI (f_X12_ends (iterN at' lo hi K 0 T1) 64 (nI s)) 64 16 = 0 ∧ (∀ j, j < K → gI (f_X4_readThing S 13 (nI w) (nI s)).2 17 ((fst_ s + i) * 5 + first + j) = gI (f_X12_ends (iterN at' lo hi K 0 T1) 64 (nI s)) 69 (at' + j) ∧ bw (gI (f_X12_ends (iterN at' lo hi K 0 T1) 64 (nI s)) 69 (at' + j)) (lc j) (hc j)) ∧ (∀ x, ¬ ((fst_ s + i) * 5 + first ≤ x ∧ x < (fst_ s + i) * 5 + first + K) → gI (f_X4_readThing S 13 (nI w) (nI s)).2 17 x = if s = 5 ∧ x = (17 + i) * 5 then nI (w - 3) else gI S 17 x) ∧ (∀ x, ¬ (at' ≤ x ∧ x < at' + K) → gI (f_X12_ends (iterN at' lo hi K 0 T1) 64 (nI s)) 69 x = if x = s then nI (i + 1) else gI T1 69 x) ∧ (∀ x, gI (f_X4_readThing S 13 (nI w) (nI s)).2 16 x = if x = s then nI (i + 1) else gI S 16 x))) := by
  have h37 := fr_le s hs
  have fcn := v_X4_next S 13
  have emany : f_X10_howMany S 15 (nI s) = nI i := (many15 S hs).trans hci
  have efirst : (if nI s = (5 : Int32) then (1 : Int32) else 0) = nI first := by
    rw [hfst]
    have zs : nI s = (5 : Int32) ↔ s = 5 := by
      rw [show (5 : Int32) = nI 5 from rfl, ti_eq, nI_ti (by omega), nI_ti (by omega)]; omega
    by_cases q : s = 5
    · rw [if_pos (zs.mpr q), if_pos q]; rfl
    · rw [if_neg (fun z => q (zs.mp z)), if_neg q]; rfl
  obtain ⟨l1, l2, l3⟩ := nums hw hs hi' hfk hatK hK hlo K 0 1000 (f_X4_next S 13) T1 (by omega) (by omega) hP0
  rw [show nI 0 = (0 : Int32) from rfl] at l1 l3
  generalize hA : L_X4_readThing_28 1000 (f_X4_next S 13) (nI w) (nI s) (nI i) (nI first) 0 = A at l3
  generalize hM : iterN at' lo hi K 0 T1 = M at l3
  have hR : f_X4_readThing S 13 (nI w) (nI s) = (if A.1 = 1 then pr A.2.1 A.2.2.2.2.2.2.2 else (if gI A.2.2.2.2.2.2.2 13 3 = 3 then pr 1 (f_X4_next (f_X10_add (if A.2.2.2.1 = 5 then f_X10_put A.2.2.2.2.2.2.2 15 5 A.2.2.2.2.1 0 (A.2.2.1 - 5 + 2) else A.2.2.2.2.2.2.2) 15 A.2.2.2.1) 13) else pr (f_X4_fail A.2.2.2.2.2.2.2 13 1).1 (f_X4_fail A.2.2.2.2.2.2.2 13 1).2)) := by
    unfold f_X4_readThing
    simp only [bd_def]
    rw [emany, efirst, hA]
  rcases l3 with ⟨q1, q2, q3, q4⟩ | ⟨q1, ⟨q2, q3, q4⟩, q5⟩
  · obtain ⟨e1, e2⟩ := ends_f q4 hs
    refine ⟨⟨p_many _ _ _, fun _ _ _ _ => pcn, fun x ex x3 ex3 r er => ?_, fun x ex x3 ex3 r er r5 er5 q => ?_, fun x ex x3 ex3 r er r5 er5 q => ?_, fun x ex x3 ex3 r er r5 er5 q => ?_, fun x ex x3 ex3 r er r5 er5 q => ?_⟩, l2, e1, Or.inl ?_⟩
    · rw [← ex, ← ex3, ← er, emany, efirst]; exact l1
    · rw [← ex, ← ex3, ← er, emany, efirst, hA] at er5; rw [← er5] at q; exact absurd q1 q
    · rw [← ex, ← ex3, ← er, emany, efirst, hA] at er5; rw [← er5] at q; exact absurd q1 q
    · rw [← ex, ← ex3, ← er, emany, efirst, hA] at er5; rw [← er5] at q; exact absurd q1 q
    · rw [← ex, ← ex3, ← er, emany, efirst, hA] at er5; rw [← er5] at q; exact absurd q1 q
    · rw [hR, if_pos q1, pr_1, pr_2, q2, e2]
      exact ⟨rfl, q3.ends s _⟩
  · obtain ⟨hT, ⟨kd, b, e, hX⟩, h0, hj, hx, hy, h16⟩ := q5
    obtain ⟨e1, e2, e3⟩ := ends_at hT hX h0 hs
    have hX' := hX
    obtain ⟨⟨s3, s4, s5⟩, ⟨t12, t13, t14, t15⟩, ⟨hbe, heN, hkd⟩, -, -⟩ := hX'
    generalize hA2 : A.2.2.2.2.2.2.2 = A2 at hT hX hj hx h16 s3 s4 s5 hR
    rw [q2, q3, q4] at hR
    -- behind the sign
    have zs : nI s = (5 : Int32) ↔ s = 5 := by
      rw [show (5 : Int32) = nI 5 from rfl, ti_eq, nI_ti (by omega), nI_ti (by omega)]; omega
    have a16 : gI A2 16 s = nI i := by rw [h16, fr_addr fcn 16 (by decide)]; exact hci
    obtain ⟨B, hB⟩ : ∃ B, (if nI s = (5 : Int32) then f_X10_put A2 15 5 (nI i) 0 (nI w - 5 + 2) else A2) = B := ⟨_, rfl⟩
    have hBv : (∀ x, gI B 17 x = if s = 5 ∧ x = (17 + i) * 5 then nI (w - 3) else gI A2 17 x) ∧ (∀ x, x ≠ 17 → gI B x = gI A2 x) ∧ (nI s = (5 : Int32) → p_X10_put A2 15 5 (nI i) 0 (nI w - 5 + 2)) := by
      by_cases c5 : s = 5
      · subst c5
        have hw5' := hw5 rfl
        have ew : nI w - (5 : Int32) + 2 = nI (w - 3) := by
          have t5 : (5 : Int32).toInt = 5 := rfl
          have t2 : (2 : Int32).toInt = 2 := rfl
          have e5 : (nI w - (5 : Int32)).toInt = (w : Int) - 5 := by rw [ti_sub (by rw [nI_ti (by omega), t5]; omega) (by rw [nI_ti (by omega), t5]; omega), nI_ti (by omega), t5]
          rw [ti_eq, ti_add (by rw [e5, t2]; omega) (by rw [e5, t2]; omega), e5, t2, nI_ti (by omega)]
          omega
        rw [if_pos (zs.mpr rfl), ew] at hB
        have hp : f_X10_put A2 15 5 (nI i) 0 (nI (w - 3)) = sI A2 17 ((17 + i) * 5) (nI (w - 3)) := put_at A2 15 (s := 5) (i := i) (f := 0) (by decide) hi' (by decide) _
        rw [hp] at hB
        refine ⟨fun x => ?_, fun x hx => ?_, fun _ => ?_⟩
        · rw [← hB, gs_eq]
          by_cases q : x = (17 + i) * 5
          · rw [if_pos q, if_pos ⟨rfl, q⟩]
          · rw [if_neg q, if_neg (fun z => q z.2)]
        · rw [← hB, gs_ne hx]
        · rw [ew]
          exact p_put A2 15 (s := 5) (i := i) (f := 0) (by decide) hi' (by decide) _
      · rw [if_neg (fun q => c5 (zs.mp q))] at hB
        rw [← hB]
        exact ⟨fun x => by rw [if_neg (fun z => c5 z.1)], fun x _ => rfl, fun q => absurd (zs.mp q) c5⟩
    obtain ⟨bv, bo, bp⟩ := hBv
    obtain ⟨ad1, ad2⟩ := add_at (S := B) hs hi' (by rw [bo 16 (by decide)]; exact a16)
    obtain ⟨D, hD⟩ : ∃ D, sI B 16 s (nI (i + 1)) = D := ⟨_, rfl⟩
    have hTD : TP N D M := by
      refine hT.of ?_ ?_ rfl rfl
      · rw [← hD, gs_ne (by decide), bo 13 (by decide)]
      · rw [← hD, gs_ne (by decide), bo 14 (by decide)]
    obtain ⟨x1, x2, x3, kd2, b2, e2', x4⟩ := next_R hTD (p := e) (by rw [← hD, gs_ne (by decide), bo 13 (by decide), s5]) t12 heN
    have z13 : gI A2 13 3 = 3 ↔ kd = 3 := by
      rw [s3, show (3 : Int32) = nI 3 from rfl, ti_eq, nI_ti (by omega), nI_ti (by omega)]; omega
    have pT : p_X4_readThing S 13 (nI w) (nI s) := by
      refine ⟨p_many _ _ _, fun _ _ _ _ => pcn, fun x ex x3 ex3 r er => ?_, fun x ex x3 ex3 r er r5 er5 _ y1 y2 => ?_, fun x ex x3 ex3 r er r5 er5 _ y1 S10 e10 => ?_, fun x ex x3 ex3 r er r5 er5 _ y1 S10 e10 r11 e11 => ?_, fun x ex x3 ex3 r er r5 er5 _ y1 r13 e13 => ?_⟩
      · rw [← ex, ← ex3, ← er, emany, efirst]; exact l1
      · rw [← ex, ← ex3, ← er, emany, efirst, hA] at er5
        rw [← er5, q3] at y2
        rw [← er5, q2, q4, hA2]
        exact bp y2
      · rw [← ex, ← ex3, ← er, emany, efirst, hA] at er5
        rw [← er5, q2, q3, q4, hA2, bd_def, hB] at e10
        rw [← e10, ← er5, q3]; exact ad2
      · rw [← ex, ← ex3, ← er, emany, efirst, hA] at er5
        rw [← er5, q2, q3, q4, hA2, bd_def, hB] at e10
        rw [← e10, ← er5, q3, ad1, hD] at e11
        rw [← e11]; exact x1
      · rw [← e13]; exact Or.inl rfl
    refine ⟨pT, l2, e1, ?_⟩
    by_cases ck : kd = 3
    · right
      have hR2 : f_X4_readThing S 13 (nI w) (nI s) = pr 1 (f_X4_next D 13) := by
        rw [hR, if_neg q1, if_pos (z13.mpr ck), hB, ad1, hD]
      have eE := e2 ck
      have m69s : gI M 69 s = nI i := by rw [hy s (by omega)]; exact hct
      rw [m69s, show nI i + (1 : Int32) = nI (i + 1) from (nI_succ i).symm] at eE
      have fD := v_X4_next D 13
      have fM := v_X12_next M 64
      have dv : ∀ x, gI D 17 x = gI B 17 x := fun x => by rw [← hD, gs_ne (by decide)]
      have m69 : ∀ x, gI (f_X12_next M 64) 69 x = gI M 69 x := fun x => congrFun (fr_addr fM 69 (by decide)) x
      rw [hR2, pr_1, pr_2, eE]
      have hbt : bt (sI (f_X12_next M 64) 69 s (nI (i + 1))) = bt (f_X12_next M 64) := bt_of (by rw [gs_ne (by decide)])
      refine ⟨rfl, x3.of rfl rfl (by rw [gs_ne (show (64 : Nat) ≠ 69 by decide)]) (by rw [gs_ne (show (70 : Nat) ≠ 69 by decide)]), ⟨kd2, b2, e2', ?_⟩, ?_, fun j hjK => ?_, fun x hxx => ?_, fun x hxx => ?_, fun x => ?_⟩
      · unfold NX at x4 ⊢
        rw [hbt, gs_ne (show (64 : Nat) ≠ 69 by decide)]
        exact x4
      · rw [gs_ne (by decide), fM 64 16 (by decide) (by decide), h0]
      · have hne : ¬ (s = 5 ∧ (fst_ s + i) * 5 + first + j = (17 + i) * 5) := fun z => by
          obtain ⟨z1, z2⟩ := z
          rw [z1, hfst, if_pos z1, show fst_ 5 = 17 from rfl] at z2
          omega
        rw [fr_addr fD 17 (by decide), dv, bv, gs_eq, if_neg hne, if_neg (show ¬ at' + j = s by omega), m69]
        exact hj j hjK
      · rw [fr_addr fD 17 (by decide), dv, bv]
        by_cases q : s = 5 ∧ x = (17 + i) * 5
        · rw [if_pos q, if_pos q]
        · rw [if_neg q, if_neg q, hx x hxx, fr_addr fcn 17 (by decide)]
      · rw [gs_eq, m69]
        by_cases q : x = s
        · rw [if_pos q, if_pos q]
        · rw [if_neg q, if_neg q]; exact hy x hxx
      · rw [fr_addr fD 16 (by decide), ← hD, gs_eq]
        by_cases q : x = s
        · rw [if_pos q, if_pos q]
        · rw [if_neg q, if_neg q, bo 16 (by decide), h16, fr_addr fcn 16 (by decide)]
    · left
      rw [hR, if_neg q1, if_neg (fun z => ck (z13.mp z)), pr_1, pr_2, e3 ck]
      refine ⟨rfl, FE.ends ⟨1, by omega, by omega, ?_, ?_, ?_⟩ _ _⟩
      · show gI (sI (sI A2 13 7 1) 13 8 (gI (sI A2 13 7 1) 13 4)) 13 7 = _
        rw [gs_o (by decide), gs_eq, if_pos rfl]; rfl
      · rw [gs_o (by decide), gs_eq, if_pos rfl]; rfl
      · show gI (sI (sI A2 13 7 1) 13 8 (gI (sI A2 13 7 1) 13 4)) 13 8 = _
        rw [gs_eq, if_pos rfl, gs_o (by decide), s4, gs_eq, if_pos rfl]
