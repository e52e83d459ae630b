noncomputable def F_X12_in (S : HSt) (a1 : Int64) (a2 : Int64) (a3 : Int64) : Int32 × HSt := bd ((if (lg_cmp a1 a2) < 0 then (0 : Int32) else (if 0 < (lg_cmp a1 a3) then (0 : Int32) else (1 : Int32)))) fun x3 => pr (x3) (S)
noncomputable def f_X12_in (S : HSt) (a1 : Int64) (a2 : Int64) (a3 : Int64) : Int32 := (F_X12_in S a1 a2 a3).1
set_option maxRecDepth 100000 in
theorem t_X12_in (G : GG) (l : Launch) {S : HSt} (a1 : Int64) (a2 : Int64) (a3 : Int64)  : AM G l yX12_in cX12_in 6 (some .boolean) (rmD 0 0 0) 0 0 [.long a1, .long a2, .long a3] S (FP (some (.int (f_X12_in S a1 a2 a3))) (S)) := by
  refine AM.mk (by decide) (Nat.le_of_ble_eq_true rfl) ?_
  intro p e s m below meth c hC hSt _
  refine aw_lload_n hC 0 dX12_in_0 rfl rfl ?_
  refine aw_lload_n hC 1 dX12_in_1 rfl rfl ?_
  refine aw_lcmp hC dX12_in_2 ?_
  refine aw_cut (S' := S) (pc' := 18) (lv' := [(0, .long a1), (2, .long a2), (4, .long a3)]) (st' := [.int (if (lg_cmp a1 a2) < 0 then (0 : Int32) else (if 0 < (lg_cmp a1 a3) then (0 : Int32) else (1 : Int32)))]) ?_ (fun Jc1 => ?_)
  · generalize ex3 : (if (lg_cmp a1 a2) < 0 then (0 : Int32) else (if 0 < (lg_cmp a1 a3) then (0 : Int32) else (1 : Int32))) = x3
    refine aw_zret hC dX12_in_18 (Nat.le_refl _) (Nat.le_refl _) (Bz.n (ex3 ▸ (Bz.ite (Or.inl rfl) (Bz.ite (Or.inl rfl) (Or.inr rfl))))) ?_
    exact FP.pI ((bd_eq ex3).trans (rfl))
  · refine aw_if_lt hC 17 dX12_in_3 (by decide) (fun c1 => ?_) (fun c1 => ?_)
    · refine aw_iconst (v := 0) hC dX12_in_17 (by decide) ?_
      simp only [bd_def, if_pos c1] at Jc1 ⊢
      exact Jc1
    · refine aw_lload_n hC 0 dX12_in_6 rfl rfl ?_
      refine aw_lload hC 2 dX12_in_7 rfl ?_
      refine aw_lcmp hC dX12_in_9 ?_
      refine aw_if_gt hC 17 dX12_in_10 (by decide) (fun c2 => ?_) (fun c2 => ?_)
      · refine aw_iconst (v := 0) hC dX12_in_17 (by decide) ?_
        simp only [bd_def, if_neg c1, if_pos c2] at Jc1 ⊢
        exact Jc1
      · refine aw_iconst (v := 1) hC dX12_in_13 (by decide) ?_
        refine aw_goto hC 18 dX12_in_14 (by decide) ?_
        simp only [bd_def, if_neg c1, if_neg c2] at Jc1 ⊢
        exact Jc1
theorem b_X12_in (S : HSt) (a1 : Int64) (a2 : Int64) (a3 : Int64) : Bz (f_X12_in S a1 a2 a3) := by
  unfold f_X12_in F_X12_in
  (try dsimp only [bd])
  (repeat' split) <;> first | exact Or.inl rfl | exact Or.inr rfl
noncomputable def F_X12_isRow (S : HSt) (a1 : Int32) : Int32 × HSt := pr ((f_X12_in S a1.toInt64 (0 : Int64) (7 : Int64))) (S)
noncomputable def f_X12_isRow (S : HSt) (a1 : Int32) : Int32 := (F_X12_isRow S a1).1
set_option maxRecDepth 100000 in
theorem t_X12_isRow (G : GG) (l : Launch) {S : HSt} (a1 : Int32)  : AM G l yX12_isRow cX12_isRow 1 (some .boolean) (rmD 1 0 0) 0 0 [.int a1] S (FP (some (.int (f_X12_isRow S a1))) (S)) := by
  refine AM.mk (by decide) (Nat.le_of_ble_eq_true rfl) ?_
  intro p e s m below meth c hC hSt _
  refine aw_iload_n hC 0 dX12_isRow_0 rfl rfl ?_
  refine aw_i2l hC dX12_isRow_1 ?_
  refine aw_lconst (v := 0) hC dX12_isRow_2 (by decide) ?_
  refine aw_ldc2 (v := 7) hC w_950 dX12_isRow_3 ?_
  refine aw_cS3r hC hSt (t_X12_in G l  _ _ _) w_945 w_951 w_952 w_953 rfl rfl (by decide +kernel) ⟨Nat.le_of_ble_eq_true rfl, Nat.le_of_ble_eq_true rfl⟩ (Nat.le_of_ble_eq_true rfl) dX12_isRow_6 ⟨Nat.zero_le _, Nat.zero_le _⟩ ?_
  refine aw_zret hC dX12_isRow_9 (Nat.le_refl _) (Nat.le_refl _) (Bz.n (b_X12_in _ _ _ _)) ?_
  exact FP.pI (rfl)
theorem b_X12_isRow (S : HSt) (a1 : Int32) : Bz (f_X12_isRow S a1) := by
  unfold f_X12_isRow F_X12_isRow
  (try dsimp only [bd])
  (repeat' split) <;> first | exact Or.inl rfl | exact Or.inr rfl | exact b_X12_in _ _ _ _
noncomputable def f_X12_finding (S : HSt) (_o : Nat) (a1 : Int32) : Int64 × HSt := bd ((sI S 64 1 a1)) fun S1 => pr (((-9000000000000000010 : Int64) - a1.toInt64)) (S1)
set_option maxRecDepth 100000 in
theorem t_X12_finding (G : GG) (l : Launch) {S : HSt} (hM : MS S) (a1 : Int32)  : AM G l yX12_finding cX12_finding 2 (some .long) (rmD 0 0 0) 0 0 [.ref 64, .int a1] S (FP (some (.long (f_X12_finding S 64 a1).1)) ((f_X12_finding S 64 a1).2)) := by
  refine AM.mk (by decide) (Nat.le_of_ble_eq_true rfl) ?_
  intro p e s m below meth c hC hSt _
  refine aw_aload_n hC 0 dX12_finding_0 rfl rfl ?_
  refine aw_iload_n hC 1 dX12_finding_1 rfl rfl ?_
  refine aw_putI hC hSt 1 (ms_lt 64 (by decide) hM) (ms_k 64 12 0 (by decide) hM) rfl (by decide) w_947 rfl rfl rfl rfl dX12_finding_2 ?_
  generalize eS1 : (sI S 64 1 a1) = S1
  have hM : MS S1 := MS.of (by rw [← eS1]; exact shp_sI _ _ _ _) hM
  refine aw_ldc2 (v := -9000000000000000010) hC w_948 dX12_finding_5 ?_
  refine aw_iload_n hC 1 dX12_finding_8 rfl rfl ?_
  refine aw_i2l hC dX12_finding_9 ?_
  refine aw_lsub hC dX12_finding_10 ?_
  refine aw_lret hC dX12_finding_11 (Nat.le_refl _) (Nat.le_refl _) ?_
  exact FP.qJ ((bd_eq eS1).trans (rfl))
theorem q_X12_finding (S : HSt) (_o : Nat) (a1 : Int32) : shp ((f_X12_finding S _o a1).2) = shp S := by
  unfold f_X12_finding
  repeat' (first | with_reducible refine shpr1 ?_ | with_reducible rfl | with_reducible refine (shp_sI _ _ _ _).trans ?_ | with_reducible refine (shp_sJ _ _ _ _).trans ?_ | with_reducible refine shi ?_ ?_ | with_reducible refine shb (fun _ _ => ?_) | with_reducible refine shiP (fun q : Int64 × HSt => q.2) ?_ ?_ | with_reducible refine shbP (fun q : Int64 × HSt => q.2) (fun _ _ => ?_) | (subst_vars; with_reducible rfl) | (subst_vars; with_reducible refine (shp_sI _ _ _ _).trans ?_) | (subst_vars; with_reducible refine (shp_sJ _ _ _ _).trans ?_) | (subst_vars; with_reducible refine shi ?_ ?_) | (subst_vars; with_reducible refine shb (fun _ _ => ?_)))
theorem v_X12_finding (S : HSt) (_o : Nat) (a1 : Int32) : Fr [(64, 1)] S ((f_X12_finding S _o a1).2) := by
  unfold f_X12_finding
  repeat' (first | with_reducible refine frpr1 ?_ | with_reducible exact Fr.refl _ _ | with_reducible refine Fr.lP (fun q : Int64 × HSt => q.2) (fun _ _ => ?_) | with_reducible refine Fr.iteP (fun q : Int64 × HSt => q.2) ?_ ?_ | with_reducible refine Fr.l1 (fun _ _ => ?_) | with_reducible refine Fr.ite ?_ ?_ | with_reducible refine Fr.sE (by assumption) (by first | decide | simp only [List.mem_cons, List.not_mem_nil, or_false, true_or, or_true, eq_self_iff_true]) ?_ | with_reducible refine Fr.jE (by assumption) ?_ | with_reducible refine Fr.rE (by assumption) (by first | decide | simp only [List.mem_cons, List.not_mem_nil, or_false, true_or, or_true, eq_self_iff_true]) ?_ | with_reducible refine Fr.iE (by assumption) ?_ ?_)
theorem w_X12_finding (S : HSt) (_o : Nat) (a1 : Int32) (r : Int64 × HSt) (e : f_X12_finding S _o a1 = r) : Fr [(64, 1)] S r.2 := by
  rw [← e]
  exact v_X12_finding S _o a1
noncomputable def L_X12_row_66 : Nat → HSt → Int32 → Int32 → Int32 → Int32 → Int32 × Int32 × Int32 × Int32 × HSt
  | 0, S, v1, v2, v3, v4 => (v1, v2, v3, v4, S)
  | n + 1, S, v1, v2, v3, v4 =>
    if (40 : Int32) ≤ v4 then ((pr (v1) (pr (v2) (pr (v3) (pr (v4) (S)))))) else (bd ((sI S 67 (((40 : Int32) * v1) + v4).toNatClampNeg (0 : Int32))) fun S1010 => L_X12_row_66 n S1010 v1 v2 v3 (v4 + (1 : Int32)))
def T_X12_row_66 : Nat → HSt → Int32 → Int32 → Int32 → Int32 → Prop
  | 0, _, _, _, _, _ => False
  | n + 1, S, v1, v2, v3, v4 => ((¬ (40 : Int32) ≤ v4) → vp_in (((40 : Int32) * v1) + v4) 320) ∧ ((¬ (40 : Int32) ≤ v4) → ∀ S1010 : HSt, (sI S 67 (((40 : Int32) * v1) + v4).toNatClampNeg (0 : Int32)) = S1010 → T_X12_row_66 n S1010 v1 v2 v3 (v4 + (1 : Int32)))
theorem qL_X12_row_66 : ∀ (n : Nat) (S : HSt) (v1 : Int32) (v2 : Int32) (v3 : Int32) (v4 : Int32), shp (L_X12_row_66 n S v1 v2 v3 v4).2.2.2.2 = shp S := by
  intro n
  induction n with
  | zero => intros; rfl
  | succ n ih =>
    intro S v1 v2 v3 v4
    unfold L_X12_row_66
    repeat' (first | with_reducible refine shpr4 ?_ | with_reducible rfl | with_reducible refine (ih _ _ _ _ _).trans ?_ | with_reducible refine (q_X12_finding _ _ _).trans ?_ | with_reducible refine (shp_sI _ _ _ _).trans ?_ | with_reducible refine (shp_sJ _ _ _ _).trans ?_ | with_reducible refine shi ?_ ?_ | with_reducible refine shb (fun _ _ => ?_) | with_reducible refine shiP (fun q : Int32 × Int32 × Int32 × Int32 × HSt => q.2.2.2.2) ?_ ?_ | with_reducible refine shbP (fun q : Int32 × Int32 × Int32 × Int32 × HSt => q.2.2.2.2) (fun _ _ => ?_) | (subst_vars; with_reducible rfl) | (subst_vars; with_reducible refine (ih _ _ _ _ _).trans ?_) | (subst_vars; with_reducible refine (q_X12_finding _ _ _).trans ?_) | (subst_vars; with_reducible refine (shp_sI _ _ _ _).trans ?_) | (subst_vars; with_reducible refine (shp_sJ _ _ _ _).trans ?_) | (subst_vars; with_reducible refine shi ?_ ?_) | (subst_vars; with_reducible refine shb (fun _ _ => ?_)))
theorem vL_X12_row_66 : ∀ (n : Nat) (S : HSt) (v1 : Int32) (v2 : Int32) (v3 : Int32) (v4 : Int32), Fr [(67, 1000)] S (L_X12_row_66 n S v1 v2 v3 v4).2.2.2.2 := by
  intro n
  induction n with
  | zero => intros; exact Fr.refl _ _
  | succ n ih =>
    intro S v1 v2 v3 v4
    unfold L_X12_row_66
    repeat' (first | with_reducible refine frpr4 ?_ | with_reducible exact Fr.refl _ _ | with_reducible refine Fr.lP (fun q : Int32 × Int32 × Int32 × Int32 × HSt => q.2.2.2.2) (fun _ _ => ?_) | with_reducible refine Fr.iteP (fun q : Int32 × Int32 × Int32 × Int32 × HSt => q.2.2.2.2) ?_ ?_ | with_reducible refine Fr.l1 (fun _ _ => ?_) | with_reducible refine Fr.ite ?_ ?_ | with_reducible refine Fr.sE (by assumption) (by first | decide | simp only [List.mem_cons, List.not_mem_nil, or_false, true_or, or_true, eq_self_iff_true]) ?_ | with_reducible refine Fr.jE (by assumption) ?_ | with_reducible refine Fr.rE (by assumption) (by first | decide | simp only [List.mem_cons, List.not_mem_nil, or_false, true_or, or_true, eq_self_iff_true]) ?_ | with_reducible refine Fr.iE (by assumption) ?_ ?_ | with_reducible refine Fr.tr (ih _ _ _ _ _) (by first | decide | simp only [List.mem_cons, List.not_mem_nil, or_false, forall_eq_or_imp, forall_eq, true_or, or_true, and_self, eq_self_iff_true]) ?_ | with_reducible refine Fr.tr (w_X12_finding _ _ _ _ (by assumption)) (by first | decide | simp only [List.mem_cons, List.not_mem_nil, or_false, forall_eq_or_imp, forall_eq, true_or, or_true, and_self, eq_self_iff_true]) ?_)
theorem wL_X12_row_66 (n : Nat) (S : HSt) (v1 : Int32) (v2 : Int32) (v3 : Int32) (v4 : Int32) (r : Int32 × Int32 × Int32 × Int32 × HSt) (e : L_X12_row_66 n S v1 v2 v3 v4 = r) : Fr [(67, 1000)] S r.2.2.2.2 := by
  rw [← e]
  exact vL_X12_row_66 n S v1 v2 v3 v4
set_option maxRecDepth 100000 in
theorem l_X12_row_66 {p : Program} {l : Launch} {e : Env} {s : State} {m : MethodId} {args : Array Value} {below : List Frame} {meth : Method} {c : Code} {G : GG} {Q : State → Prop} (hC : ACx p s m args meth c cX12_row RX12 5 (some .long)) (hSt : St G s)  : ∀ (n : Nat) (S : HSt) (v1 : Int32) (v2 : Int32) (v3 : Int32) (v4 : Int32), MS S → T_X12_row_66 n S v1 v2 v3 v4 → AW p l e (rmD 2 0 0) s m args below meth c G 5 Q (L_X12_row_66 n S v1 v2 v3 v4).2.2.2.2 0 0 92 [(0, .ref 64), (1, .int (L_X12_row_66 n S v1 v2 v3 v4).1), (2, .int (L_X12_row_66 n S v1 v2 v3 v4).2.1), (3, .int (L_X12_row_66 n S v1 v2 v3 v4).2.2.1), (4, .int (L_X12_row_66 n S v1 v2 v3 v4).2.2.2.1)] [] → AW p l e (rmD 2 0 0) s m args below meth c G 5 Q S 0 0 66 [(0, .ref 64), (1, .int v1), (2, .int v2), (3, .int v3), (4, .int v4)] [] := by
  intro n
  induction n with
  | zero => intro S v1 v2 v3 v4 _ hT; exact hT.elim
  | succ n ih =>
    intro S v1 v2 v3 v4 hM hT hk
    unfold T_X12_row_66 at hT
    obtain ⟨h0, h1⟩ := hT
    refine aw_iload hC 4 dX12_row_66 rfl ?_
    refine aw_bipush (v := 40) hC dX12_row_68 (by decide) ?_
    refine aw_icmp_ge hC 92 dX12_row_70 (by decide) (fun c1009 => ?_) (fun c1009 => ?_)
    · refine aw_sub [0, 1, 2, 3, 4] rfl ?_
      have E : L_X12_row_66 (n + 1) S v1 v2 v3 v4 = _ := (if_pos c1009).trans (rfl)
      rw [E] at hk
      exact hk
    · refine aw_aload_n hC 0 dX12_row_73 rfl rfl ?_
      refine aw_getP (b := 67) hC hSt 4 (ms_lt 64 (by decide) hM) (ms_k 64 12 0 (by decide) hM) rfl (by decide) w_919 rfl (ms_p 4 67 (by decide) hM) dX12_row_74 ?_
      refine aw_bipush (v := 40) hC dX12_row_77 (by decide) ?_
      refine aw_iload_n hC 1 dX12_row_79 rfl rfl ?_
      refine aw_imul hC dX12_row_80 ?_
      refine aw_iload hC 4 dX12_row_81 rfl ?_
      refine aw_iadd hC dX12_row_83 ?_
      refine aw_iconst (v := 0) hC dX12_row_84 (by decide) ?_
      refine aw_iast hC hSt (ms_lt 67 (by decide) hM) (ms_k 67 14 320 (by decide) hM) (vp_len (n := 320) (ms_l 67 14 320 (by decide) hM) (h0 c1009)) dX12_row_85 ?_
      generalize eS1010 : (sI S 67 (((40 : Int32) * v1) + v4).toNatClampNeg (0 : Int32)) = S1010
      have hM : MS S1010 := MS.of (by rw [← eS1010]; exact shp_sI _ _ _ _) hM
      refine aw_iinc (v := (v4 + (1 : Int32))) hC 4 [(4, .int _), (0, .ref 64), (1, .int _), (2, .int _), (3, .int _)] dX12_row_86 rfl rfl (by decide) rfl ?_
      refine aw_goto hC 66 dX12_row_89 (by decide) ?_
      refine aw_sub [1, 2, 3, 4, 0] rfl ?_
      have hTn := (h1 c1009 S1010 eS1010)
      have hMn : MS S1010 := hM
      have E : L_X12_row_66 (n + 1) S v1 v2 v3 v4 = _ := (if_neg c1009).trans ((bd_eq eS1010).trans (rfl))
      rw [E] at hk
      exact ih _ _ _ _ _ hMn hTn hk
noncomputable def f_X12_row (S : HSt) (_o : Nat) (a1 : Int32) (a2 : Int32) (a3 : Int32) : Int64 × HSt := bd ((sI S 64 0 (0 : Int32))) fun S1 => if (f_X12_isRow S1 a1) = 0 then (pr ((-9000000000000000001 : Int64)) (S1)) else (if (f_X12_in S1 a2.toInt64 (0 : Int64) (2 : Int64)) = 0 then (pr ((-9000000000000000001 : Int64)) (S1)) else (if a3 ≤ (40 : Int32) then (bd ((sI S1 64 1 (0 : Int32))) fun S5 => if 0 ≤ a3 then (bd ((sI S5 65 a1.toNatClampNeg a2)) fun S7 => bd ((sI S7 66 a1.toNatClampNeg a3)) fun S8 => bd (L_X12_row_66 1000 S8 a1 a2 a3 (0 : Int32)) fun r9 => pr (r9.2.2.1.toInt64) (r9.2.2.2.2)) else (bd (f_X12_finding S5 64 (4 : Int32)) fun r10 => pr (r10.1) (r10.2))) else (pr ((-9000000000000000001 : Int64)) (S1))))
def p_X12_row (S : HSt) (_o : Nat) (a1 : Int32) (a2 : Int32) (a3 : Int32) : Prop := (∀ S1 : HSt, (sI S 64 0 (0 : Int32)) = S1 → (¬ (f_X12_isRow S1 a1) = 0) → (¬ (f_X12_in S1 a2.toInt64 (0 : Int64) (2 : Int64)) = 0) → (a3 ≤ (40 : Int32)) → ∀ S5 : HSt, (sI S1 64 1 (0 : Int32)) = S5 → (0 ≤ a3) → vp_in a1 8) ∧ (∀ S1 : HSt, (sI S 64 0 (0 : Int32)) = S1 → (¬ (f_X12_isRow S1 a1) = 0) → (¬ (f_X12_in S1 a2.toInt64 (0 : Int64) (2 : Int64)) = 0) → (a3 ≤ (40 : Int32)) → ∀ S5 : HSt, (sI S1 64 1 (0 : Int32)) = S5 → (0 ≤ a3) → ∀ S7 : HSt, (sI S5 65 a1.toNatClampNeg a2) = S7 → vp_in a1 8) ∧ (∀ S1 : HSt, (sI S 64 0 (0 : Int32)) = S1 → (¬ (f_X12_isRow S1 a1) = 0) → (¬ (f_X12_in S1 a2.toInt64 (0 : Int64) (2 : Int64)) = 0) → (a3 ≤ (40 : Int32)) → ∀ S5 : HSt, (sI S1 64 1 (0 : Int32)) = S5 → (0 ≤ a3) → ∀ S7 : HSt, (sI S5 65 a1.toNatClampNeg a2) = S7 → ∀ S8 : HSt, (sI S7 66 a1.toNatClampNeg a3) = S8 → T_X12_row_66 1000 S8 a1 a2 a3 (0 : Int32))
set_option maxRecDepth 100000 in
theorem t_X12_row (G : GG) (l : Launch) {S : HSt} (hM : MS S) (a1 : Int32) (a2 : Int32) (a3 : Int32) (hp : p_X12_row S 64 a1 a2 a3) : AM G l yX12_row cX12_row 5 (some .long) (rmD 2 0 0) 0 0 [.ref 64, .int a1, .int a2, .int a3] S (FP (some (.long (f_X12_row S 64 a1 a2 a3).1)) ((f_X12_row S 64 a1 a2 a3).2)) := by
  obtain ⟨h0, h1, h2⟩ := hp
  refine AM.mk (by decide) (Nat.le_of_ble_eq_true rfl) ?_
  intro p e s m below meth c hC hSt _
  refine aw_aload_n hC 0 dX12_row_0 rfl rfl ?_
  refine aw_iconst (v := 0) hC dX12_row_1 (by decide) ?_
  refine aw_putI hC hSt 0 (ms_lt 64 (by decide) hM) (ms_k 64 12 0 (by decide) hM) rfl (by decide) w_955 rfl rfl rfl rfl dX12_row_2 ?_
  generalize eS1 : (sI S 64 0 (0 : Int32)) = S1
  have hM : MS S1 := MS.of (by rw [← eS1]; exact shp_sI _ _ _ _) hM
  refine aw_iload_n hC 1 dX12_row_5 rfl rfl ?_
  refine aw_cS1r hC hSt (t_X12_isRow G l  _) w_949 w_958 w_959 w_953 rfl rfl (by decide +kernel) ⟨Nat.le_of_ble_eq_true rfl, Nat.le_of_ble_eq_true rfl⟩ (Nat.le_of_ble_eq_true rfl) dX12_row_6 ⟨Nat.zero_le _, Nat.zero_le _⟩ ?_
  refine aw_if_eq hC 30 dX12_row_9 (by decide) (fun c2 => ?_) (fun c2 => ?_)
  · refine aw_ldc2 (v := -9000000000000000001) hC w_957 dX12_row_30 ?_
    refine aw_lret hC dX12_row_33 (Nat.le_refl _) (Nat.le_refl _) ?_
    exact FP.qJ ((bd_eq eS1).trans ((if_pos c2).trans (rfl)))
  · refine aw_iload_n hC 2 dX12_row_12 rfl rfl ?_
    refine aw_i2l hC dX12_row_13 ?_
    refine aw_lconst (v := 0) hC dX12_row_14 (by decide) ?_
    refine aw_ldc2 (v := 2) hC w_956 dX12_row_15 ?_
    refine aw_cS3r hC hSt (t_X12_in G l  _ _ _) w_945 w_951 w_952 w_953 rfl rfl (by decide +kernel) ⟨Nat.le_of_ble_eq_true rfl, Nat.le_of_ble_eq_true rfl⟩ (Nat.le_of_ble_eq_true rfl) dX12_row_18 ⟨Nat.zero_le _, Nat.zero_le _⟩ ?_
    refine aw_if_eq hC 30 dX12_row_21 (by decide) (fun c3 => ?_) (fun c3 => ?_)
    · refine aw_ldc2 (v := -9000000000000000001) hC w_957 dX12_row_30 ?_
      refine aw_lret hC dX12_row_33 (Nat.le_refl _) (Nat.le_refl _) ?_
      exact FP.qJ ((bd_eq eS1).trans ((if_neg c2).trans ((if_pos c3).trans (rfl))))
    · refine aw_iload_n hC 3 dX12_row_24 rfl rfl ?_
      refine aw_bipush (v := 40) hC dX12_row_25 (by decide) ?_
      refine aw_icmp_le hC 34 dX12_row_27 (by decide) (fun c4 => ?_) (fun c4 => ?_)
      · refine aw_aload_n hC 0 dX12_row_34 rfl rfl ?_
        refine aw_iconst (v := 0) hC dX12_row_35 (by decide) ?_
        refine aw_putI hC hSt 1 (ms_lt 64 (by decide) hM) (ms_k 64 12 0 (by decide) hM) rfl (by decide) w_947 rfl rfl rfl rfl dX12_row_36 ?_
        generalize eS5 : (sI S1 64 1 (0 : Int32)) = S5
        have hM : MS S5 := MS.of (by rw [← eS5]; exact shp_sI _ _ _ _) hM
        refine aw_iload_n hC 3 dX12_row_39 rfl rfl ?_
        refine aw_if_ge hC 49 dX12_row_40 (by decide) (fun c6 => ?_) (fun c6 => ?_)
        · refine aw_aload_n hC 0 dX12_row_49 rfl rfl ?_
          refine aw_getP (b := 65) hC hSt 2 (ms_lt 64 (by decide) hM) (ms_k 64 12 0 (by decide) hM) rfl (by decide) w_917 rfl (ms_p 2 65 (by decide) hM) dX12_row_50 ?_
          refine aw_iload_n hC 1 dX12_row_53 rfl rfl ?_
          refine aw_iload_n hC 2 dX12_row_54 rfl rfl ?_
          refine aw_iast hC hSt (ms_lt 65 (by decide) hM) (ms_k 65 14 8 (by decide) hM) (vp_len (n := 8) (ms_l 65 14 8 (by decide) hM) (h0 S1 eS1 c2 c3 c4 S5 eS5 c6)) dX12_row_55 ?_
          generalize eS7 : (sI S5 65 a1.toNatClampNeg a2) = S7
          have hM : MS S7 := MS.of (by rw [← eS7]; exact shp_sI _ _ _ _) hM
          refine aw_aload_n hC 0 dX12_row_56 rfl rfl ?_
          refine aw_getP (b := 66) hC hSt 3 (ms_lt 64 (by decide) hM) (ms_k 64 12 0 (by decide) hM) rfl (by decide) w_918 rfl (ms_p 3 66 (by decide) hM) dX12_row_57 ?_
          refine aw_iload_n hC 1 dX12_row_60 rfl rfl ?_
          refine aw_iload_n hC 3 dX12_row_61 rfl rfl ?_
          refine aw_iast hC hSt (ms_lt 66 (by decide) hM) (ms_k 66 14 8 (by decide) hM) (vp_len (n := 8) (ms_l 66 14 8 (by decide) hM) (h1 S1 eS1 c2 c3 c4 S5 eS5 c6 S7 eS7)) dX12_row_62 ?_
          generalize eS8 : (sI S7 66 a1.toNatClampNeg a3) = S8
          have hM : MS S8 := MS.of (by rw [← eS8]; exact shp_sI _ _ _ _) hM
          refine aw_iconst (v := 0) hC dX12_row_63 (by decide) ?_
          refine aw_istore hC [(4, .int _), (0, .ref 64), (1, .int _), (2, .int _), (3, .int _)] dX12_row_64 (by decide) rfl ?_
          refine aw_sub [1, 2, 3, 4, 0] rfl ?_
          refine l_X12_row_66 hC hSt 1000 _ _ _ _ _ hM (h2 S1 eS1 c2 c3 c4 S5 eS5 c6 S7 eS7 S8 eS8) ?_
          generalize er9 : L_X12_row_66 1000 S8 a1 a2 a3 (0 : Int32) = r9
          have hM : MS r9.2.2.2.2 := MS.of (by rw [← er9]; exact qL_X12_row_66 _ _ _ _ _ _) hM
          refine aw_iload_n hC 3 dX12_row_92 rfl rfl ?_
          refine aw_i2l hC dX12_row_93 ?_
          refine aw_lret hC dX12_row_94 (Nat.le_refl _) (Nat.le_refl _) ?_
          exact FP.qJ ((bd_eq eS1).trans ((if_neg c2).trans ((if_neg c3).trans ((if_pos c4).trans ((bd_eq eS5).trans ((if_pos c6).trans ((bd_eq eS7).trans ((bd_eq eS8).trans ((bd_eq er9).trans (rfl))))))))))
        · refine aw_aload_n hC 0 dX12_row_43 rfl rfl ?_
          refine aw_iconst (v := 4) hC dX12_row_44 (by decide) ?_
          refine aw_cV1r hC hSt (t_X12_finding G l hM _) w_946 w_960 w_961 w_962 w_953 rfl rfl (by decide +kernel) ⟨Nat.le_of_ble_eq_true rfl, Nat.le_of_ble_eq_true rfl⟩ (ms_lt 64 (by decide) hM) (ms_k 64 12 0 (by decide) hM) rfl (Nat.le_of_ble_eq_true rfl) dX12_row_45 ⟨Nat.zero_le _, Nat.zero_le _⟩ ?_
          generalize er10 : f_X12_finding S5 64 (4 : Int32) = r10
          have hM : MS r10.2 := MS.of (by rw [← er10]; exact q_X12_finding _ _ _) hM
          refine aw_lret hC dX12_row_48 (Nat.le_refl _) (Nat.le_refl _) ?_
          exact FP.qJ ((bd_eq eS1).trans ((if_neg c2).trans ((if_neg c3).trans ((if_pos c4).trans ((bd_eq eS5).trans ((if_neg c6).trans ((bd_eq er10).trans (rfl))))))))
      · refine aw_ldc2 (v := -9000000000000000001) hC w_957 dX12_row_30 ?_
        refine aw_lret hC dX12_row_33 (Nat.le_refl _) (Nat.le_refl _) ?_
        exact FP.qJ ((bd_eq eS1).trans ((if_neg c2).trans ((if_neg c3).trans ((if_neg c4).trans (rfl)))))
theorem q_X12_row (S : HSt) (_o : Nat) (a1 : Int32) (a2 : Int32) (a3 : Int32) : shp ((f_X12_row S _o a1 a2 a3).2) = shp S := by
  unfold f_X12_row
  repeat' (first | with_reducible refine shpr1 ?_ | with_reducible rfl | with_reducible refine (q_X12_finding _ _ _).trans ?_ | with_reducible refine (qL_X12_row_66 _ _ _ _ _ _).trans ?_ | with_reducible refine (shp_sI _ _ _ _).trans ?_ | with_reducible refine (shp_sJ _ _ _ _).trans ?_ | with_reducible refine shi ?_ ?_ | with_reducible refine shb (fun _ _ => ?_) | with_reducible refine shiP (fun q : Int64 × HSt => q.2) ?_ ?_ | with_reducible refine shbP (fun q : Int64 × HSt => q.2) (fun _ _ => ?_) | (subst_vars; with_reducible rfl) | (subst_vars; with_reducible refine (q_X12_finding _ _ _).trans ?_) | (subst_vars; with_reducible refine (qL_X12_row_66 _ _ _ _ _ _).trans ?_) | (subst_vars; with_reducible refine (shp_sI _ _ _ _).trans ?_) | (subst_vars; with_reducible refine (shp_sJ _ _ _ _).trans ?_) | (subst_vars; with_reducible refine shi ?_ ?_) | (subst_vars; with_reducible refine shb (fun _ _ => ?_)))
theorem v_X12_row (S : HSt) (_o : Nat) (a1 : Int32) (a2 : Int32) (a3 : Int32) : Fr [(64, 0), (64, 1), (65, 1000), (66, 1000), (67, 1000)] S ((f_X12_row S _o a1 a2 a3).2) := by
  unfold f_X12_row
  repeat' (first | with_reducible refine frpr1 ?_ | with_reducible exact Fr.refl _ _ | with_reducible refine Fr.lP (fun q : Int64 × HSt => q.2) (fun _ _ => ?_) | with_reducible refine Fr.iteP (fun q : Int64 × HSt => q.2) ?_ ?_ | with_reducible refine Fr.l1 (fun _ _ => ?_) | with_reducible refine Fr.ite ?_ ?_ | with_reducible refine Fr.sE (by assumption) (by first | decide | simp only [List.mem_cons, List.not_mem_nil, or_false, true_or, or_true, eq_self_iff_true]) ?_ | with_reducible refine Fr.jE (by assumption) ?_ | with_reducible refine Fr.rE (by assumption) (by first | decide | simp only [List.mem_cons, List.not_mem_nil, or_false, true_or, or_true, eq_self_iff_true]) ?_ | with_reducible refine Fr.iE (by assumption) ?_ ?_ | with_reducible refine Fr.tr (w_X12_finding _ _ _ _ (by assumption)) (by first | decide | simp only [List.mem_cons, List.not_mem_nil, or_false, forall_eq_or_imp, forall_eq, true_or, or_true, and_self, eq_self_iff_true]) ?_ | with_reducible refine Fr.tr (wL_X12_row_66 _ _ _ _ _ _ _ (by assumption)) (by first | decide | simp only [List.mem_cons, List.not_mem_nil, or_false, forall_eq_or_imp, forall_eq, true_or, or_true, and_self, eq_self_iff_true]) ?_)
theorem w_X12_row (S : HSt) (_o : Nat) (a1 : Int32) (a2 : Int32) (a3 : Int32) (r : Int64 × HSt) (e : f_X12_row S _o a1 a2 a3 = r) : Fr [(64, 0), (64, 1), (65, 1000), (66, 1000), (67, 1000)] S r.2 := by
  rw [← e]
  exact v_X12_row S _o a1 a2 a3
noncomputable def f_X12_set (S : HSt) (_o : Nat) (a1 : Int32) (a2 : Int32) (a3 : Int32) : Int64 × HSt := bd ((sI S 64 0 (0 : Int32))) fun S1 => if (f_X12_isRow S1 a1) = 0 then (pr ((-9000000000000000001 : Int64)) (S1)) else (bd ((sI S1 64 1 (0 : Int32))) fun S3 => if 0 ≤ (gI S3 65 a1.toNatClampNeg) then (if (f_X12_in S3 a2.toInt64 (0 : Int64) ((gI S3 66 a1.toNatClampNeg) - (1 : Int32)).toInt64) = 0 then (bd (f_X12_finding S3 64 (2 : Int32)) fun r10 => pr (r10.1) (r10.2)) else (bd ((if (gI S3 65 a1.toNatClampNeg) = 0 then a3.toInt8.toInt32 else (if (gI S3 65 a1.toNatClampNeg) = (1 : Int32) then a3.toInt16.toInt32 else a3))) fun x8 => bd ((sI S3 67 (((40 : Int32) * a1) + a2).toNatClampNeg x8)) fun S9 => pr ((gI S9 67 (((40 : Int32) * a1) + a2).toNatClampNeg).toInt64) (S9))) else (bd (f_X12_finding S3 64 (1 : Int32)) fun r11 => pr (r11.1) (r11.2)))
def p_X12_set (S : HSt) (_o : Nat) (a1 : Int32) (a2 : Int32) (a3 : Int32) : Prop := (∀ S1 : HSt, (sI S 64 0 (0 : Int32)) = S1 → (¬ (f_X12_isRow S1 a1) = 0) → ∀ S3 : HSt, (sI S1 64 1 (0 : Int32)) = S3 → vp_in a1 8) ∧ (∀ S1 : HSt, (sI S 64 0 (0 : Int32)) = S1 → (¬ (f_X12_isRow S1 a1) = 0) → ∀ S3 : HSt, (sI S1 64 1 (0 : Int32)) = S3 → (0 ≤ (gI S3 65 a1.toNatClampNeg)) → vp_in a1 8) ∧ (∀ S1 : HSt, (sI S 64 0 (0 : Int32)) = S1 → (¬ (f_X12_isRow S1 a1) = 0) → ∀ S3 : HSt, (sI S1 64 1 (0 : Int32)) = S3 → (0 ≤ (gI S3 65 a1.toNatClampNeg)) → (¬ (f_X12_in S3 a2.toInt64 (0 : Int64) ((gI S3 66 a1.toNatClampNeg) - (1 : Int32)).toInt64) = 0) → vp_in a1 8) ∧ (∀ S1 : HSt, (sI S 64 0 (0 : Int32)) = S1 → (¬ (f_X12_isRow S1 a1) = 0) → ∀ S3 : HSt, (sI S1 64 1 (0 : Int32)) = S3 → (0 ≤ (gI S3 65 a1.toNatClampNeg)) → (¬ (f_X12_in S3 a2.toInt64 (0 : Int64) ((gI S3 66 a1.toNatClampNeg) - (1 : Int32)).toInt64) = 0) → (¬ (gI S3 65 a1.toNatClampNeg) = 0) → vp_in a1 8) ∧ (∀ S1 : HSt, (sI S 64 0 (0 : Int32)) = S1 → (¬ (f_X12_isRow S1 a1) = 0) → ∀ S3 : HSt, (sI S1 64 1 (0 : Int32)) = S3 → (0 ≤ (gI S3 65 a1.toNatClampNeg)) → (¬ (f_X12_in S3 a2.toInt64 (0 : Int64) ((gI S3 66 a1.toNatClampNeg) - (1 : Int32)).toInt64) = 0) → ∀ x8 : Int32, (if (gI S3 65 a1.toNatClampNeg) = 0 then a3.toInt8.toInt32 else (if (gI S3 65 a1.toNatClampNeg) = (1 : Int32) then a3.toInt16.toInt32 else a3)) = x8 → vp_in (((40 : Int32) * a1) + a2) 320) ∧ (∀ S1 : HSt, (sI S 64 0 (0 : Int32)) = S1 → (¬ (f_X12_isRow S1 a1) = 0) → ∀ S3 : HSt, (sI S1 64 1 (0 : Int32)) = S3 → (0 ≤ (gI S3 65 a1.toNatClampNeg)) → (¬ (f_X12_in S3 a2.toInt64 (0 : Int64) ((gI S3 66 a1.toNatClampNeg) - (1 : Int32)).toInt64) = 0) → ∀ x8 : Int32, (if (gI S3 65 a1.toNatClampNeg) = 0 then a3.toInt8.toInt32 else (if (gI S3 65 a1.toNatClampNeg) = (1 : Int32) then a3.toInt16.toInt32 else a3)) = x8 → ∀ S9 : HSt, (sI S3 67 (((40 : Int32) * a1) + a2).toNatClampNeg x8) = S9 → vp_in (((40 : Int32) * a1) + a2) 320)
set_option maxRecDepth 100000 in
theorem t_X12_set (G : GG) (l : Launch) {S : HSt} (hM : MS S) (a1 : Int32) (a2 : Int32) (a3 : Int32) (hp : p_X12_set S 64 a1 a2 a3) : AM G l yX12_set cX12_set 4 (some .long) (rmD 2 0 0) 0 0 [.ref 64, .int a1, .int a2, .int a3] S (FP (some (.long (f_X12_set S 64 a1 a2 a3).1)) ((f_X12_set S 64 a1 a2 a3).2)) := by
  obtain ⟨h0, h1, h2, h3, h4, h5⟩ := hp
  refine AM.mk (by decide) (Nat.le_of_ble_eq_true rfl) ?_
  intro p e s m below meth c hC hSt _
  refine aw_aload_n hC 0 dX12_set_0 rfl rfl ?_
  refine aw_iconst (v := 0) hC dX12_set_1 (by decide) ?_
  refine aw_putI hC hSt 0 (ms_lt 64 (by decide) hM) (ms_k 64 12 0 (by decide) hM) rfl (by decide) w_955 rfl rfl rfl rfl dX12_set_2 ?_
  generalize eS1 : (sI S 64 0 (0 : Int32)) = S1
  have hM : MS S1 := MS.of (by rw [← eS1]; exact shp_sI _ _ _ _) hM
  refine aw_iload_n hC 1 dX12_set_5 rfl rfl ?_
  refine aw_cS1r hC hSt (t_X12_isRow G l  _) w_949 w_958 w_959 w_953 rfl rfl (by decide +kernel) ⟨Nat.le_of_ble_eq_true rfl, Nat.le_of_ble_eq_true rfl⟩ (Nat.le_of_ble_eq_true rfl) dX12_set_6 ⟨Nat.zero_le _, Nat.zero_le _⟩ ?_
  refine aw_if_ne hC 16 dX12_set_9 (by decide) (fun c2 => ?_) (fun c2 => ?_)
  · refine aw_aload_n hC 0 dX12_set_16 rfl rfl ?_
    refine aw_iconst (v := 0) hC dX12_set_17 (by decide) ?_
    refine aw_putI hC hSt 1 (ms_lt 64 (by decide) hM) (ms_k 64 12 0 (by decide) hM) rfl (by decide) w_947 rfl rfl rfl rfl dX12_set_18 ?_
    generalize eS3 : (sI S1 64 1 (0 : Int32)) = S3
    have hM : MS S3 := MS.of (by rw [← eS3]; exact shp_sI _ _ _ _) hM
    refine aw_aload_n hC 0 dX12_set_21 rfl rfl ?_
    refine aw_getP (b := 65) hC hSt 2 (ms_lt 64 (by decide) hM) (ms_k 64 12 0 (by decide) hM) rfl (by decide) w_917 rfl (ms_p 2 65 (by decide) hM) dX12_set_22 ?_
    refine aw_iload_n hC 1 dX12_set_25 rfl rfl ?_
    refine aw_iald hC hSt (ms_lt 65 (by decide) hM) (ms_k 65 14 8 (by decide) hM) (vp_len (n := 8) (ms_l 65 14 8 (by decide) hM) (h0 S1 eS1 c2 S3 eS3)) dX12_set_26 ?_
    refine aw_if_ge hC 36 dX12_set_27 (by decide) (fun c4 => ?_) (fun c4 => ?_)
    · refine aw_iload_n hC 2 dX12_set_36 rfl rfl ?_
      refine aw_i2l hC dX12_set_37 ?_
      refine aw_lconst (v := 0) hC dX12_set_38 (by decide) ?_
      refine aw_aload_n hC 0 dX12_set_39 rfl rfl ?_
      refine aw_getP (b := 66) hC hSt 3 (ms_lt 64 (by decide) hM) (ms_k 64 12 0 (by decide) hM) rfl (by decide) w_918 rfl (ms_p 3 66 (by decide) hM) dX12_set_40 ?_
      refine aw_iload_n hC 1 dX12_set_43 rfl rfl ?_
      refine aw_iald hC hSt (ms_lt 66 (by decide) hM) (ms_k 66 14 8 (by decide) hM) (vp_len (n := 8) (ms_l 66 14 8 (by decide) hM) (h1 S1 eS1 c2 S3 eS3 c4)) dX12_set_44 ?_
      refine aw_iconst (v := 1) hC dX12_set_45 (by decide) ?_
      refine aw_isub hC dX12_set_46 ?_
      refine aw_i2l hC dX12_set_47 ?_
      refine aw_cS3r hC hSt (t_X12_in G l  _ _ _) w_945 w_951 w_952 w_953 rfl rfl (by decide +kernel) ⟨Nat.le_of_ble_eq_true rfl, Nat.le_of_ble_eq_true rfl⟩ (Nat.le_of_ble_eq_true rfl) dX12_set_48 ⟨Nat.zero_le _, Nat.zero_le _⟩ ?_
      refine aw_if_ne hC 60 dX12_set_51 (by decide) (fun c5 => ?_) (fun c5 => ?_)
      · refine aw_aload_n hC 0 dX12_set_60 rfl rfl ?_
        refine aw_getP (b := 67) hC hSt 4 (ms_lt 64 (by decide) hM) (ms_k 64 12 0 (by decide) hM) rfl (by decide) w_919 rfl (ms_p 4 67 (by decide) hM) dX12_set_61 ?_
        refine aw_bipush (v := 40) hC dX12_set_64 (by decide) ?_
        refine aw_iload_n hC 1 dX12_set_66 rfl rfl ?_
        refine aw_imul hC dX12_set_67 ?_
        refine aw_iload_n hC 2 dX12_set_68 rfl rfl ?_
        refine aw_iadd hC dX12_set_69 ?_
        refine aw_aload_n hC 0 dX12_set_70 rfl rfl ?_
        refine aw_getP (b := 65) hC hSt 2 (ms_lt 64 (by decide) hM) (ms_k 64 12 0 (by decide) hM) rfl (by decide) w_917 rfl (ms_p 2 65 (by decide) hM) dX12_set_71 ?_
        refine aw_iload_n hC 1 dX12_set_74 rfl rfl ?_
        refine aw_iald hC hSt (ms_lt 65 (by decide) hM) (ms_k 65 14 8 (by decide) hM) (vp_len (n := 8) (ms_l 65 14 8 (by decide) hM) (h2 S1 eS1 c2 S3 eS3 c4 c5)) dX12_set_75 ?_
        refine aw_cut (S' := S3) (pc' := 100) (lv' := [(0, .ref 64), (1, .int a1), (2, .int a2), (3, .int a3)]) (st' := [.int (if (gI S3 65 a1.toNatClampNeg) = 0 then a3.toInt8.toInt32 else (if (gI S3 65 a1.toNatClampNeg) = (1 : Int32) then a3.toInt16.toInt32 else a3)), .int (((40 : Int32) * a1) + a2), .ref 67]) ?_ (fun Jc6 => ?_)
        · generalize ex8 : (if (gI S3 65 a1.toNatClampNeg) = 0 then a3.toInt8.toInt32 else (if (gI S3 65 a1.toNatClampNeg) = (1 : Int32) then a3.toInt16.toInt32 else a3)) = x8
          refine aw_iast hC hSt (ms_lt 67 (by decide) hM) (ms_k 67 14 320 (by decide) hM) (vp_len (n := 320) (ms_l 67 14 320 (by decide) hM) (h4 S1 eS1 c2 S3 eS3 c4 c5 x8 ex8)) dX12_set_100 ?_
          generalize eS9 : (sI S3 67 (((40 : Int32) * a1) + a2).toNatClampNeg x8) = S9
          have hM : MS S9 := MS.of (by rw [← eS9]; exact shp_sI _ _ _ _) hM
          refine aw_aload_n hC 0 dX12_set_101 rfl rfl ?_
          refine aw_getP (b := 67) hC hSt 4 (ms_lt 64 (by decide) hM) (ms_k 64 12 0 (by decide) hM) rfl (by decide) w_919 rfl (ms_p 4 67 (by decide) hM) dX12_set_102 ?_
          refine aw_bipush (v := 40) hC dX12_set_105 (by decide) ?_
          refine aw_iload_n hC 1 dX12_set_107 rfl rfl ?_
          refine aw_imul hC dX12_set_108 ?_
          refine aw_iload_n hC 2 dX12_set_109 rfl rfl ?_
          refine aw_iadd hC dX12_set_110 ?_
          refine aw_iald hC hSt (ms_lt 67 (by decide) hM) (ms_k 67 14 320 (by decide) hM) (vp_len (n := 320) (ms_l 67 14 320 (by decide) hM) (h5 S1 eS1 c2 S3 eS3 c4 c5 x8 ex8 S9 eS9)) dX12_set_111 ?_
          refine aw_i2l hC dX12_set_112 ?_
          refine aw_lret hC dX12_set_113 (Nat.le_refl _) (Nat.le_refl _) ?_
          exact FP.qJ ((bd_eq eS1).trans ((if_neg c2).trans ((bd_eq eS3).trans ((if_pos c4).trans ((if_neg c5).trans ((bd_eq ex8).trans ((bd_eq eS9).trans (rfl))))))))
        · refine aw_if_ne hC 84 dX12_set_76 (by decide) (fun c6 => ?_) (fun c6 => ?_)
          · refine aw_aload_n hC 0 dX12_set_84 rfl rfl ?_
            refine aw_getP (b := 65) hC hSt 2 (ms_lt 64 (by decide) hM) (ms_k 64 12 0 (by decide) hM) rfl (by decide) w_917 rfl (ms_p 2 65 (by decide) hM) dX12_set_85 ?_
            refine aw_iload_n hC 1 dX12_set_88 rfl rfl ?_
            refine aw_iald hC hSt (ms_lt 65 (by decide) hM) (ms_k 65 14 8 (by decide) hM) (vp_len (n := 8) (ms_l 65 14 8 (by decide) hM) (h3 S1 eS1 c2 S3 eS3 c4 c5 c6)) dX12_set_89 ?_
            refine aw_iconst (v := 1) hC dX12_set_90 (by decide) ?_
            refine aw_icmp_ne hC 99 dX12_set_91 (by decide) (fun c7 => ?_) (fun c7 => ?_)
            · refine aw_iload_n hC 3 dX12_set_99 rfl rfl ?_
              simp only [bd_def, if_neg c6, if_neg c7] at Jc6 ⊢
              exact Jc6
            · refine aw_iload_n hC 3 dX12_set_94 rfl rfl ?_
              refine aw_i2s hC dX12_set_95 ?_
              refine aw_goto hC 100 dX12_set_96 (by decide) ?_
              simp only [bd_def, if_neg c6, if_pos c7] at Jc6 ⊢
              exact Jc6
          · refine aw_iload_n hC 3 dX12_set_79 rfl rfl ?_
            refine aw_i2b hC dX12_set_80 ?_
            refine aw_goto hC 100 dX12_set_81 (by decide) ?_
            simp only [bd_def, if_pos c6] at Jc6 ⊢
            exact Jc6
      · refine aw_aload_n hC 0 dX12_set_54 rfl rfl ?_
        refine aw_iconst (v := 2) hC dX12_set_55 (by decide) ?_
        refine aw_cV1r hC hSt (t_X12_finding G l hM _) w_946 w_960 w_961 w_962 w_953 rfl rfl (by decide +kernel) ⟨Nat.le_of_ble_eq_true rfl, Nat.le_of_ble_eq_true rfl⟩ (ms_lt 64 (by decide) hM) (ms_k 64 12 0 (by decide) hM) rfl (Nat.le_of_ble_eq_true rfl) dX12_set_56 ⟨Nat.zero_le _, Nat.zero_le _⟩ ?_
        generalize er10 : f_X12_finding S3 64 (2 : Int32) = r10
        have hM : MS r10.2 := MS.of (by rw [← er10]; exact q_X12_finding _ _ _) hM
        refine aw_lret hC dX12_set_59 (Nat.le_refl _) (Nat.le_refl _) ?_
        exact FP.qJ ((bd_eq eS1).trans ((if_neg c2).trans ((bd_eq eS3).trans ((if_pos c4).trans ((if_pos c5).trans ((bd_eq er10).trans (rfl)))))))
    · refine aw_aload_n hC 0 dX12_set_30 rfl rfl ?_
      refine aw_iconst (v := 1) hC dX12_set_31 (by decide) ?_
      refine aw_cV1r hC hSt (t_X12_finding G l hM _) w_946 w_960 w_961 w_962 w_953 rfl rfl (by decide +kernel) ⟨Nat.le_of_ble_eq_true rfl, Nat.le_of_ble_eq_true rfl⟩ (ms_lt 64 (by decide) hM) (ms_k 64 12 0 (by decide) hM) rfl (Nat.le_of_ble_eq_true rfl) dX12_set_32 ⟨Nat.zero_le _, Nat.zero_le _⟩ ?_
      generalize er11 : f_X12_finding S3 64 (1 : Int32) = r11
      have hM : MS r11.2 := MS.of (by rw [← er11]; exact q_X12_finding _ _ _) hM
      refine aw_lret hC dX12_set_35 (Nat.le_refl _) (Nat.le_refl _) ?_
      exact FP.qJ ((bd_eq eS1).trans ((if_neg c2).trans ((bd_eq eS3).trans ((if_neg c4).trans ((bd_eq er11).trans (rfl))))))
  · refine aw_ldc2 (v := -9000000000000000001) hC w_957 dX12_set_12 ?_
    refine aw_lret hC dX12_set_15 (Nat.le_refl _) (Nat.le_refl _) ?_
    exact FP.qJ ((bd_eq eS1).trans ((if_pos c2).trans (rfl)))
theorem q_X12_set (S : HSt) (_o : Nat) (a1 : Int32) (a2 : Int32) (a3 : Int32) : shp ((f_X12_set S _o a1 a2 a3).2) = shp S := by
  unfold f_X12_set
  repeat' (first | with_reducible refine shpr1 ?_ | with_reducible rfl | with_reducible refine (q_X12_finding _ _ _).trans ?_ | with_reducible refine (shp_sI _ _ _ _).trans ?_ | with_reducible refine (shp_sJ _ _ _ _).trans ?_ | with_reducible refine shi ?_ ?_ | with_reducible refine shb (fun _ _ => ?_) | with_reducible refine shiP (fun q : Int64 × HSt => q.2) ?_ ?_ | with_reducible refine shbP (fun q : Int64 × HSt => q.2) (fun _ _ => ?_) | (subst_vars; with_reducible rfl) | (subst_vars; with_reducible refine (q_X12_finding _ _ _).trans ?_) | (subst_vars; with_reducible refine (shp_sI _ _ _ _).trans ?_) | (subst_vars; with_reducible refine (shp_sJ _ _ _ _).trans ?_) | (subst_vars; with_reducible refine shi ?_ ?_) | (subst_vars; with_reducible refine shb (fun _ _ => ?_)))
theorem v_X12_set (S : HSt) (_o : Nat) (a1 : Int32) (a2 : Int32) (a3 : Int32) : Fr [(64, 0), (64, 1), (67, 1000)] S ((f_X12_set S _o a1 a2 a3).2) := by
  unfold f_X12_set
  repeat' (first | with_reducible refine frpr1 ?_ | with_reducible exact Fr.refl _ _ | with_reducible refine Fr.lP (fun q : Int64 × HSt => q.2) (fun _ _ => ?_) | with_reducible refine Fr.iteP (fun q : Int64 × HSt => q.2) ?_ ?_ | with_reducible refine Fr.l1 (fun _ _ => ?_) | with_reducible refine Fr.ite ?_ ?_ | with_reducible refine Fr.sE (by assumption) (by first | decide | simp only [List.mem_cons, List.not_mem_nil, or_false, true_or, or_true, eq_self_iff_true]) ?_ | with_reducible refine Fr.jE (by assumption) ?_ | with_reducible refine Fr.rE (by assumption) (by first | decide | simp only [List.mem_cons, List.not_mem_nil, or_false, true_or, or_true, eq_self_iff_true]) ?_ | with_reducible refine Fr.iE (by assumption) ?_ ?_ | with_reducible refine Fr.tr (w_X12_finding _ _ _ _ (by assumption)) (by first | decide | simp only [List.mem_cons, List.not_mem_nil, or_false, forall_eq_or_imp, forall_eq, true_or, or_true, and_self, eq_self_iff_true]) ?_)
theorem w_X12_set (S : HSt) (_o : Nat) (a1 : Int32) (a2 : Int32) (a3 : Int32) (r : Int64 × HSt) (e : f_X12_set S _o a1 a2 a3 = r) : Fr [(64, 0), (64, 1), (67, 1000)] S r.2 := by
  rw [← e]
  exact v_X12_set S _o a1 a2 a3
noncomputable def L_X12_copy_144 : Nat → HSt → Int32 → Int32 → Int32 → Int32 → Int32 → Int32 → Int32 → Int32 × Int32 × Int32 × Int32 × Int32 × Int32 × Int32 × HSt
  | 0, S, v1, v2, v3, v4, v5, v6, v7 => (v1, v2, v3, v4, v5, v6, v7, S)
  | n + 1, S, v1, v2, v3, v4, v5, v6, v7 =>
    if v5 ≤ v7 then ((pr (v1) (pr (v2) (pr (v3) (pr (v4) (pr (v5) (pr (v6) (pr (v7) (S))))))))) else (bd ((if v6 = 0 then ((v5 - (1 : Int32)) - v7) else v7)) fun x1022 => bd ((sI S 67 ((((40 : Int32) * v3) + v4) + x1022).toNatClampNeg (gI S 67 ((((40 : Int32) * v1) + v2) + x1022).toNatClampNeg))) fun S1023 => L_X12_copy_144 n S1023 v1 v2 v3 v4 v5 v6 (v7 + (1 : Int32)))
def T_X12_copy_144 : Nat → HSt → Int32 → Int32 → Int32 → Int32 → Int32 → Int32 → Int32 → Prop
  | 0, _, _, _, _, _, _, _, _ => False
  | n + 1, S, v1, v2, v3, v4, v5, v6, v7 => ((¬ v5 ≤ v7) → ∀ x1022 : Int32, (if v6 = 0 then ((v5 - (1 : Int32)) - v7) else v7) = x1022 → vp_in ((((40 : Int32) * v1) + v2) + x1022) 320) ∧ ((¬ v5 ≤ v7) → ∀ x1022 : Int32, (if v6 = 0 then ((v5 - (1 : Int32)) - v7) else v7) = x1022 → vp_in ((((40 : Int32) * v3) + v4) + x1022) 320) ∧ ((¬ v5 ≤ v7) → ∀ x1022 : Int32, (if v6 = 0 then ((v5 - (1 : Int32)) - v7) else v7) = x1022 → ∀ S1023 : HSt, (sI S 67 ((((40 : Int32) * v3) + v4) + x1022).toNatClampNeg (gI S 67 ((((40 : Int32) * v1) + v2) + x1022).toNatClampNeg)) = S1023 → T_X12_copy_144 n S1023 v1 v2 v3 v4 v5 v6 (v7 + (1 : Int32)))
theorem qL_X12_copy_144 : ∀ (n : Nat) (S : HSt) (v1 : Int32) (v2 : Int32) (v3 : Int32) (v4 : Int32) (v5 : Int32) (v6 : Int32) (v7 : Int32), shp (L_X12_copy_144 n S v1 v2 v3 v4 v5 v6 v7).2.2.2.2.2.2.2 = shp S := by
  intro n
  induction n with
  | zero => intros; rfl
  | succ n ih =>
    intro S v1 v2 v3 v4 v5 v6 v7
    unfold L_X12_copy_144
    repeat' (first | with_reducible refine shpr7 ?_ | with_reducible rfl | with_reducible refine (ih _ _ _ _ _ _ _ _).trans ?_ | with_reducible refine (q_X12_finding _ _ _).trans ?_ | with_reducible refine (shp_sI _ _ _ _).trans ?_ | with_reducible refine (shp_sJ _ _ _ _).trans ?_ | with_reducible refine shi ?_ ?_ | with_reducible refine shb (fun _ _ => ?_) | with_reducible refine shiP (fun q : Int32 × Int32 × Int32 × Int32 × Int32 × Int32 × Int32 × HSt => q.2.2.2.2.2.2.2) ?_ ?_ | with_reducible refine shbP (fun q : Int32 × Int32 × Int32 × Int32 × Int32 × Int32 × Int32 × HSt => q.2.2.2.2.2.2.2) (fun _ _ => ?_) | (subst_vars; with_reducible rfl) | (subst_vars; with_reducible refine (ih _ _ _ _ _ _ _ _).trans ?_) | (subst_vars; with_reducible refine (q_X12_finding _ _ _).trans ?_) | (subst_vars; with_reducible refine (shp_sI _ _ _ _).trans ?_) | (subst_vars; with_reducible refine (shp_sJ _ _ _ _).trans ?_) | (subst_vars; with_reducible refine shi ?_ ?_) | (subst_vars; with_reducible refine shb (fun _ _ => ?_)))
theorem vL_X12_copy_144 : ∀ (n : Nat) (S : HSt) (v1 : Int32) (v2 : Int32) (v3 : Int32) (v4 : Int32) (v5 : Int32) (v6 : Int32) (v7 : Int32), Fr [(67, 1000)] S (L_X12_copy_144 n S v1 v2 v3 v4 v5 v6 v7).2.2.2.2.2.2.2 := by
  intro n
  induction n with
  | zero => intros; exact Fr.refl _ _
  | succ n ih =>
    intro S v1 v2 v3 v4 v5 v6 v7
    unfold L_X12_copy_144
    repeat' (first | with_reducible refine frpr7 ?_ | with_reducible exact Fr.refl _ _ | with_reducible refine Fr.lP (fun q : Int32 × Int32 × Int32 × Int32 × Int32 × Int32 × Int32 × HSt => q.2.2.2.2.2.2.2) (fun _ _ => ?_) | with_reducible refine Fr.iteP (fun q : Int32 × Int32 × Int32 × Int32 × Int32 × Int32 × Int32 × HSt => q.2.2.2.2.2.2.2) ?_ ?_ | with_reducible refine Fr.l1 (fun _ _ => ?_) | with_reducible refine Fr.ite ?_ ?_ | with_reducible refine Fr.sE (by assumption) (by first | decide | simp only [List.mem_cons, List.not_mem_nil, or_false, true_or, or_true, eq_self_iff_true]) ?_ | with_reducible refine Fr.jE (by assumption) ?_ | with_reducible refine Fr.rE (by assumption) (by first | decide | simp only [List.mem_cons, List.not_mem_nil, or_false, true_or, or_true, eq_self_iff_true]) ?_ | with_reducible refine Fr.iE (by assumption) ?_ ?_ | with_reducible refine Fr.tr (ih _ _ _ _ _ _ _ _) (by first | decide | simp only [List.mem_cons, List.not_mem_nil, or_false, forall_eq_or_imp, forall_eq, true_or, or_true, and_self, eq_self_iff_true]) ?_ | with_reducible refine Fr.tr (w_X12_finding _ _ _ _ (by assumption)) (by first | decide | simp only [List.mem_cons, List.not_mem_nil, or_false, forall_eq_or_imp, forall_eq, true_or, or_true, and_self, eq_self_iff_true]) ?_)
theorem wL_X12_copy_144 (n : Nat) (S : HSt) (v1 : Int32) (v2 : Int32) (v3 : Int32) (v4 : Int32) (v5 : Int32) (v6 : Int32) (v7 : Int32) (r : Int32 × Int32 × Int32 × Int32 × Int32 × Int32 × Int32 × HSt) (e : L_X12_copy_144 n S v1 v2 v3 v4 v5 v6 v7 = r) : Fr [(67, 1000)] S r.2.2.2.2.2.2.2 := by
  rw [← e]
  exact vL_X12_copy_144 n S v1 v2 v3 v4 v5 v6 v7
set_option maxRecDepth 100000 in
theorem l_X12_copy_144 {p : Program} {l : Launch} {e : Env} {s : State} {m : MethodId} {args : Array Value} {below : List Frame} {meth : Method} {c : Code} {G : GG} {Q : State → Prop} (hC : ACx p s m args meth c cX12_copy RX12 9 (some .long)) (hSt : St G s)  : ∀ (n : Nat) (S : HSt) (v1 : Int32) (v2 : Int32) (v3 : Int32) (v4 : Int32) (v5 : Int32) (v6 : Int32) (v7 : Int32), MS S → T_X12_copy_144 n S v1 v2 v3 v4 v5 v6 v7 → AW p l e (rmD 2 0 0) s m args below meth c G 9 Q (L_X12_copy_144 n S v1 v2 v3 v4 v5 v6 v7).2.2.2.2.2.2.2 0 0 205 [(0, .ref 64), (1, .int (L_X12_copy_144 n S v1 v2 v3 v4 v5 v6 v7).1), (2, .int (L_X12_copy_144 n S v1 v2 v3 v4 v5 v6 v7).2.1), (3, .int (L_X12_copy_144 n S v1 v2 v3 v4 v5 v6 v7).2.2.1), (4, .int (L_X12_copy_144 n S v1 v2 v3 v4 v5 v6 v7).2.2.2.1), (5, .int (L_X12_copy_144 n S v1 v2 v3 v4 v5 v6 v7).2.2.2.2.1), (6, .int (L_X12_copy_144 n S v1 v2 v3 v4 v5 v6 v7).2.2.2.2.2.1), (7, .int (L_X12_copy_144 n S v1 v2 v3 v4 v5 v6 v7).2.2.2.2.2.2.1)] [] → AW p l e (rmD 2 0 0) s m args below meth c G 9 Q S 0 0 144 [(0, .ref 64), (1, .int v1), (2, .int v2), (3, .int v3), (4, .int v4), (5, .int v5), (6, .int v6), (7, .int v7)] [] := by
  intro n
  induction n with
  | zero => intro S v1 v2 v3 v4 v5 v6 v7 _ hT; exact hT.elim
  | succ n ih =>
    intro S v1 v2 v3 v4 v5 v6 v7 hM hT hk
    unfold T_X12_copy_144 at hT
    obtain ⟨h0, h1, h2⟩ := hT
    refine aw_iload hC 7 dX12_copy_144 rfl ?_
    refine aw_iload hC 5 dX12_copy_146 rfl ?_
    refine aw_icmp_ge hC 205 dX12_copy_148 (by decide) (fun c1020 => ?_) (fun c1020 => ?_)
    · refine aw_sub [0, 1, 2, 3, 4, 5, 6, 7] rfl ?_
      have E : L_X12_copy_144 (n + 1) S v1 v2 v3 v4 v5 v6 v7 = _ := (if_pos c1020).trans (rfl)
      rw [E] at hk
      exact hk
    · refine aw_iload hC 6 dX12_copy_151 rfl ?_
      refine aw_cut (S' := S) (pc' := 168) (lv' := [(0, .ref 64), (1, .int v1), (2, .int v2), (3, .int v3), (4, .int v4), (5, .int v5), (6, .int v6), (7, .int v7)]) (st' := [.int (if v6 = 0 then ((v5 - (1 : Int32)) - v7) else v7)]) ?_ (fun Jc1021 => ?_)
      · generalize ex1022 : (if v6 = 0 then ((v5 - (1 : Int32)) - v7) else v7) = x1022
        refine aw_istore hC [(8, .int _), (0, .ref 64), (1, .int _), (2, .int _), (3, .int _), (4, .int _), (5, .int _), (6, .int _), (7, .int _)] dX12_copy_168 (by decide) rfl ?_
        refine aw_aload_n hC 1 dX12_copy_170 rfl rfl ?_
        refine aw_getP (b := 67) hC hSt 4 (ms_lt 64 (by decide) hM) (ms_k 64 12 0 (by decide) hM) rfl (by decide) w_919 rfl (ms_p 4 67 (by decide) hM) dX12_copy_171 ?_
        refine aw_bipush (v := 40) hC dX12_copy_174 (by decide) ?_
        refine aw_iload_n hC 4 dX12_copy_176 rfl rfl ?_
        refine aw_imul hC dX12_copy_177 ?_
        refine aw_iload hC 5 dX12_copy_178 rfl ?_
        refine aw_iadd hC dX12_copy_180 ?_
        refine aw_iload hC 0 dX12_copy_181 rfl ?_
        refine aw_iadd hC dX12_copy_183 ?_
        refine aw_aload_n hC 1 dX12_copy_184 rfl rfl ?_
        refine aw_getP (b := 67) hC hSt 4 (ms_lt 64 (by decide) hM) (ms_k 64 12 0 (by decide) hM) rfl (by decide) w_919 rfl (ms_p 4 67 (by decide) hM) dX12_copy_185 ?_
        refine aw_bipush (v := 40) hC dX12_copy_188 (by decide) ?_
        refine aw_iload_n hC 2 dX12_copy_190 rfl rfl ?_
        refine aw_imul hC dX12_copy_191 ?_
        refine aw_iload_n hC 3 dX12_copy_192 rfl rfl ?_
        refine aw_iadd hC dX12_copy_193 ?_
        refine aw_iload hC 0 dX12_copy_194 rfl ?_
        refine aw_iadd hC dX12_copy_196 ?_
        refine aw_iald hC hSt (ms_lt 67 (by decide) hM) (ms_k 67 14 320 (by decide) hM) (vp_len (n := 320) (ms_l 67 14 320 (by decide) hM) (h0 c1020 x1022 ex1022)) dX12_copy_197 ?_
        refine aw_iast hC hSt (ms_lt 67 (by decide) hM) (ms_k 67 14 320 (by decide) hM) (vp_len (n := 320) (ms_l 67 14 320 (by decide) hM) (h1 c1020 x1022 ex1022)) dX12_copy_198 ?_
        generalize eS1023 : (sI S 67 ((((40 : Int32) * v3) + v4) + x1022).toNatClampNeg (gI S 67 ((((40 : Int32) * v1) + v2) + x1022).toNatClampNeg)) = S1023
        have hM : MS S1023 := MS.of (by rw [← eS1023]; exact shp_sI _ _ _ _) hM
        refine aw_iinc (v := (v7 + (1 : Int32))) hC 8 [(7, .int _), (8, .int _), (0, .ref 64), (1, .int _), (2, .int _), (3, .int _), (4, .int _), (5, .int _), (6, .int _)] dX12_copy_199 rfl rfl (by decide) rfl ?_
        refine aw_goto hC 144 dX12_copy_202 (by decide) ?_
        refine aw_sub [2, 3, 4, 5, 6, 7, 8, 0] rfl ?_
        have hTn := (h2 c1020 x1022 ex1022 S1023 eS1023)
        have hMn : MS S1023 := hM
        have E : L_X12_copy_144 (n + 1) S v1 v2 v3 v4 v5 v6 v7 = _ := (if_neg c1020).trans ((bd_eq ex1022).trans ((bd_eq eS1023).trans (rfl)))
        rw [E] at hk
        exact ih _ _ _ _ _ _ _ _ hMn hTn hk
      · refine aw_if_eq hC 161 dX12_copy_153 (by decide) (fun c1021 => ?_) (fun c1021 => ?_)
        · refine aw_iload hC 5 dX12_copy_161 rfl ?_
          refine aw_iconst (v := 1) hC dX12_copy_163 (by decide) ?_
          refine aw_isub hC dX12_copy_164 ?_
          refine aw_iload hC 7 dX12_copy_165 rfl ?_
          refine aw_isub hC dX12_copy_167 ?_
          simp only [bd_def, if_pos c1021] at Jc1021 ⊢
          exact Jc1021
        · refine aw_iload hC 7 dX12_copy_156 rfl ?_
          refine aw_goto hC 168 dX12_copy_158 (by decide) ?_
          simp only [bd_def, if_neg c1021] at Jc1021 ⊢
          exact Jc1021
noncomputable def f_X12_copy (S : HSt) (_o : Nat) (a1 : Int32) (a2 : Int32) (a3 : Int32) (a4 : Int32) (a5 : Int32) : Int64 × HSt := bd ((sI S 64 0 (0 : Int32))) fun S1 => if (f_X12_isRow S1 a1) = 0 then (pr ((-9000000000000000001 : Int64)) (S1)) else (if (f_X12_isRow S1 a3) = 0 then (pr ((-9000000000000000001 : Int64)) (S1)) else (bd ((sI S1 64 1 (0 : Int32))) fun S4 => if (gI S4 65 a1.toNatClampNeg) < 0 then (bd (f_X12_finding S4 64 (1 : Int32)) fun r6 => pr (r6.1) (r6.2)) else (if 0 ≤ (gI S4 65 a3.toNatClampNeg) then (if (gI S4 65 a1.toNatClampNeg) = (gI S4 65 a3.toNatClampNeg) then (if a2 < 0 then (bd (f_X12_finding S4 64 (2 : Int32)) fun r10 => pr (r10.1) (r10.2)) else (if a4 < 0 then (bd (f_X12_finding S4 64 (2 : Int32)) fun r12 => pr (r12.1) (r12.2)) else (if a5 < 0 then (bd (f_X12_finding S4 64 (2 : Int32)) fun r14 => pr (r14.1) (r14.2)) else (if 0 < (lg_cmp (a2.toInt64 + a5.toInt64) (gI S4 66 a1.toNatClampNeg).toInt64) then (bd (f_X12_finding S4 64 (2 : Int32)) fun r16 => pr (r16.1) (r16.2)) else (if (lg_cmp (a4.toInt64 + a5.toInt64) (gI S4 66 a3.toNatClampNeg).toInt64) ≤ 0 then (bd ((if a2 < a4 then (0 : Int32) else (1 : Int32))) fun x19 => bd (L_X12_copy_144 1000 S4 a1 a2 a3 a4 a5 x19 (0 : Int32)) fun r20 => pr (r20.2.2.2.2.1.toInt64) (r20.2.2.2.2.2.2.2)) else (bd (f_X12_finding S4 64 (2 : Int32)) fun r21 => pr (r21.1) (r21.2))))))) else (bd (f_X12_finding S4 64 (5 : Int32)) fun r22 => pr (r22.1) (r22.2))) else (bd (f_X12_finding S4 64 (1 : Int32)) fun r23 => pr (r23.1) (r23.2)))))
def p_X12_copy (S : HSt) (_o : Nat) (a1 : Int32) (a2 : Int32) (a3 : Int32) (a4 : Int32) (a5 : Int32) : Prop := (∀ S1 : HSt, (sI S 64 0 (0 : Int32)) = S1 → (¬ (f_X12_isRow S1 a1) = 0) → (¬ (f_X12_isRow S1 a3) = 0) → ∀ S4 : HSt, (sI S1 64 1 (0 : Int32)) = S4 → vp_in a1 8) ∧ (∀ S1 : HSt, (sI S 64 0 (0 : Int32)) = S1 → (¬ (f_X12_isRow S1 a1) = 0) → (¬ (f_X12_isRow S1 a3) = 0) → ∀ S4 : HSt, (sI S1 64 1 (0 : Int32)) = S4 → (¬ (gI S4 65 a1.toNatClampNeg) < 0) → vp_in a3 8) ∧ (∀ S1 : HSt, (sI S 64 0 (0 : Int32)) = S1 → (¬ (f_X12_isRow S1 a1) = 0) → (¬ (f_X12_isRow S1 a3) = 0) → ∀ S4 : HSt, (sI S1 64 1 (0 : Int32)) = S4 → (¬ (gI S4 65 a1.toNatClampNeg) < 0) → (0 ≤ (gI S4 65 a3.toNatClampNeg)) → vp_in a1 8) ∧ (∀ S1 : HSt, (sI S 64 0 (0 : Int32)) = S1 → (¬ (f_X12_isRow S1 a1) = 0) → (¬ (f_X12_isRow S1 a3) = 0) → ∀ S4 : HSt, (sI S1 64 1 (0 : Int32)) = S4 → (¬ (gI S4 65 a1.toNatClampNeg) < 0) → (0 ≤ (gI S4 65 a3.toNatClampNeg)) → vp_in a3 8) ∧ (∀ S1 : HSt, (sI S 64 0 (0 : Int32)) = S1 → (¬ (f_X12_isRow S1 a1) = 0) → (¬ (f_X12_isRow S1 a3) = 0) → ∀ S4 : HSt, (sI S1 64 1 (0 : Int32)) = S4 → (¬ (gI S4 65 a1.toNatClampNeg) < 0) → (0 ≤ (gI S4 65 a3.toNatClampNeg)) → ((gI S4 65 a1.toNatClampNeg) = (gI S4 65 a3.toNatClampNeg)) → (¬ a2 < 0) → (¬ a4 < 0) → (¬ a5 < 0) → vp_in a1 8) ∧ (∀ S1 : HSt, (sI S 64 0 (0 : Int32)) = S1 → (¬ (f_X12_isRow S1 a1) = 0) → (¬ (f_X12_isRow S1 a3) = 0) → ∀ S4 : HSt, (sI S1 64 1 (0 : Int32)) = S4 → (¬ (gI S4 65 a1.toNatClampNeg) < 0) → (0 ≤ (gI S4 65 a3.toNatClampNeg)) → ((gI S4 65 a1.toNatClampNeg) = (gI S4 65 a3.toNatClampNeg)) → (¬ a2 < 0) → (¬ a4 < 0) → (¬ a5 < 0) → (¬ 0 < (lg_cmp (a2.toInt64 + a5.toInt64) (gI S4 66 a1.toNatClampNeg).toInt64)) → vp_in a3 8) ∧ (∀ S1 : HSt, (sI S 64 0 (0 : Int32)) = S1 → (¬ (f_X12_isRow S1 a1) = 0) → (¬ (f_X12_isRow S1 a3) = 0) → ∀ S4 : HSt, (sI S1 64 1 (0 : Int32)) = S4 → (¬ (gI S4 65 a1.toNatClampNeg) < 0) → (0 ≤ (gI S4 65 a3.toNatClampNeg)) → ((gI S4 65 a1.toNatClampNeg) = (gI S4 65 a3.toNatClampNeg)) → (¬ a2 < 0) → (¬ a4 < 0) → (¬ a5 < 0) → (¬ 0 < (lg_cmp (a2.toInt64 + a5.toInt64) (gI S4 66 a1.toNatClampNeg).toInt64)) → ((lg_cmp (a4.toInt64 + a5.toInt64) (gI S4 66 a3.toNatClampNeg).toInt64) ≤ 0) → ∀ x19 : Int32, (if a2 < a4 then (0 : Int32) else (1 : Int32)) = x19 → T_X12_copy_144 1000 S4 a1 a2 a3 a4 a5 x19 (0 : Int32))
set_option maxRecDepth 100000 in
theorem t_X12_copy (G : GG) (l : Launch) {S : HSt} (hM : MS S) (a1 : Int32) (a2 : Int32) (a3 : Int32) (a4 : Int32) (a5 : Int32) (hp : p_X12_copy S 64 a1 a2 a3 a4 a5) : AM G l yX12_copy cX12_copy 9 (some .long) (rmD 2 0 0) 0 0 [.ref 64, .int a1, .int a2, .int a3, .int a4, .int a5] S (FP (some (.long (f_X12_copy S 64 a1 a2 a3 a4 a5).1)) ((f_X12_copy S 64 a1 a2 a3 a4 a5).2)) := by
  obtain ⟨h0, h1, h2, h3, h4, h5, h6⟩ := hp
  refine AM.mk (by decide) (Nat.le_of_ble_eq_true rfl) ?_
  intro p e s m below meth c hC hSt _
  refine aw_aload_n hC 0 dX12_copy_0 rfl rfl ?_
  refine aw_iconst (v := 0) hC dX12_copy_1 (by decide) ?_
  refine aw_putI hC hSt 0 (ms_lt 64 (by decide) hM) (ms_k 64 12 0 (by decide) hM) rfl (by decide) w_955 rfl rfl rfl rfl dX12_copy_2 ?_
  generalize eS1 : (sI S 64 0 (0 : Int32)) = S1
  have hM : MS S1 := MS.of (by rw [← eS1]; exact shp_sI _ _ _ _) hM
  refine aw_iload_n hC 1 dX12_copy_5 rfl rfl ?_
  refine aw_cS1r hC hSt (t_X12_isRow G l  _) w_949 w_958 w_959 w_953 rfl rfl (by decide +kernel) ⟨Nat.le_of_ble_eq_true rfl, Nat.le_of_ble_eq_true rfl⟩ (Nat.le_of_ble_eq_true rfl) dX12_copy_6 ⟨Nat.zero_le _, Nat.zero_le _⟩ ?_
  refine aw_if_eq hC 19 dX12_copy_9 (by decide) (fun c2 => ?_) (fun c2 => ?_)
  · refine aw_ldc2 (v := -9000000000000000001) hC w_957 dX12_copy_19 ?_
    refine aw_lret hC dX12_copy_22 (Nat.le_refl _) (Nat.le_refl _) ?_
    exact FP.qJ ((bd_eq eS1).trans ((if_pos c2).trans (rfl)))
  · refine aw_iload_n hC 3 dX12_copy_12 rfl rfl ?_
    refine aw_cS1r hC hSt (t_X12_isRow G l  _) w_949 w_958 w_959 w_953 rfl rfl (by decide +kernel) ⟨Nat.le_of_ble_eq_true rfl, Nat.le_of_ble_eq_true rfl⟩ (Nat.le_of_ble_eq_true rfl) dX12_copy_13 ⟨Nat.zero_le _, Nat.zero_le _⟩ ?_
    refine aw_if_ne hC 23 dX12_copy_16 (by decide) (fun c3 => ?_) (fun c3 => ?_)
    · refine aw_aload_n hC 0 dX12_copy_23 rfl rfl ?_
      refine aw_iconst (v := 0) hC dX12_copy_24 (by decide) ?_
      refine aw_putI hC hSt 1 (ms_lt 64 (by decide) hM) (ms_k 64 12 0 (by decide) hM) rfl (by decide) w_947 rfl rfl rfl rfl dX12_copy_25 ?_
      generalize eS4 : (sI S1 64 1 (0 : Int32)) = S4
      have hM : MS S4 := MS.of (by rw [← eS4]; exact shp_sI _ _ _ _) hM
      refine aw_aload_n hC 0 dX12_copy_28 rfl rfl ?_
      refine aw_getP (b := 65) hC hSt 2 (ms_lt 64 (by decide) hM) (ms_k 64 12 0 (by decide) hM) rfl (by decide) w_917 rfl (ms_p 2 65 (by decide) hM) dX12_copy_29 ?_
      refine aw_iload_n hC 1 dX12_copy_32 rfl rfl ?_
      refine aw_iald hC hSt (ms_lt 65 (by decide) hM) (ms_k 65 14 8 (by decide) hM) (vp_len (n := 8) (ms_l 65 14 8 (by decide) hM) (h0 S1 eS1 c2 c3 S4 eS4)) dX12_copy_33 ?_
      refine aw_if_lt hC 46 dX12_copy_34 (by decide) (fun c5 => ?_) (fun c5 => ?_)
      · refine aw_aload_n hC 0 dX12_copy_46 rfl rfl ?_
        refine aw_iconst (v := 1) hC dX12_copy_47 (by decide) ?_
        refine aw_cV1r hC hSt (t_X12_finding G l hM _) w_946 w_960 w_961 w_962 w_953 rfl rfl (by decide +kernel) ⟨Nat.le_of_ble_eq_true rfl, Nat.le_of_ble_eq_true rfl⟩ (ms_lt 64 (by decide) hM) (ms_k 64 12 0 (by decide) hM) rfl (Nat.le_of_ble_eq_true rfl) dX12_copy_48 ⟨Nat.zero_le _, Nat.zero_le _⟩ ?_
        generalize er6 : f_X12_finding S4 64 (1 : Int32) = r6
        have hM : MS r6.2 := MS.of (by rw [← er6]; exact q_X12_finding _ _ _) hM
        refine aw_lret hC dX12_copy_51 (Nat.le_refl _) (Nat.le_refl _) ?_
        exact FP.qJ ((bd_eq eS1).trans ((if_neg c2).trans ((if_neg c3).trans ((bd_eq eS4).trans ((if_pos c5).trans ((bd_eq er6).trans (rfl)))))))
      · refine aw_aload_n hC 0 dX12_copy_37 rfl rfl ?_
        refine aw_getP (b := 65) hC hSt 2 (ms_lt 64 (by decide) hM) (ms_k 64 12 0 (by decide) hM) rfl (by decide) w_917 rfl (ms_p 2 65 (by decide) hM) dX12_copy_38 ?_
        refine aw_iload_n hC 3 dX12_copy_41 rfl rfl ?_
        refine aw_iald hC hSt (ms_lt 65 (by decide) hM) (ms_k 65 14 8 (by decide) hM) (vp_len (n := 8) (ms_l 65 14 8 (by decide) hM) (h1 S1 eS1 c2 c3 S4 eS4 c5)) dX12_copy_42 ?_
        refine aw_if_ge hC 52 dX12_copy_43 (by decide) (fun c7 => ?_) (fun c7 => ?_)
        · refine aw_aload_n hC 0 dX12_copy_52 rfl rfl ?_
          refine aw_getP (b := 65) hC hSt 2 (ms_lt 64 (by decide) hM) (ms_k 64 12 0 (by decide) hM) rfl (by decide) w_917 rfl (ms_p 2 65 (by decide) hM) dX12_copy_53 ?_
          refine aw_iload_n hC 1 dX12_copy_56 rfl rfl ?_
          refine aw_iald hC hSt (ms_lt 65 (by decide) hM) (ms_k 65 14 8 (by decide) hM) (vp_len (n := 8) (ms_l 65 14 8 (by decide) hM) (h2 S1 eS1 c2 c3 S4 eS4 c5 c7)) dX12_copy_57 ?_
          refine aw_aload_n hC 0 dX12_copy_58 rfl rfl ?_
          refine aw_getP (b := 65) hC hSt 2 (ms_lt 64 (by decide) hM) (ms_k 64 12 0 (by decide) hM) rfl (by decide) w_917 rfl (ms_p 2 65 (by decide) hM) dX12_copy_59 ?_
          refine aw_iload_n hC 3 dX12_copy_62 rfl rfl ?_
          refine aw_iald hC hSt (ms_lt 65 (by decide) hM) (ms_k 65 14 8 (by decide) hM) (vp_len (n := 8) (ms_l 65 14 8 (by decide) hM) (h3 S1 eS1 c2 c3 S4 eS4 c5 c7)) dX12_copy_63 ?_
          refine aw_icmp_eq hC 73 dX12_copy_64 (by decide) (fun c8 => ?_) (fun c8 => ?_)
          · refine aw_iload_n hC 2 dX12_copy_73 rfl rfl ?_
            refine aw_if_lt hC 122 dX12_copy_74 (by decide) (fun c9 => ?_) (fun c9 => ?_)
            · refine aw_aload_n hC 0 dX12_copy_122 rfl rfl ?_
              refine aw_iconst (v := 2) hC dX12_copy_123 (by decide) ?_
              refine aw_cV1r hC hSt (t_X12_finding G l hM _) w_946 w_960 w_961 w_962 w_953 rfl rfl (by decide +kernel) ⟨Nat.le_of_ble_eq_true rfl, Nat.le_of_ble_eq_true rfl⟩ (ms_lt 64 (by decide) hM) (ms_k 64 12 0 (by decide) hM) rfl (Nat.le_of_ble_eq_true rfl) dX12_copy_124 ⟨Nat.zero_le _, Nat.zero_le _⟩ ?_
              generalize er10 : f_X12_finding S4 64 (2 : Int32) = r10
              have hM : MS r10.2 := MS.of (by rw [← er10]; exact q_X12_finding _ _ _) hM
              refine aw_lret hC dX12_copy_127 (Nat.le_refl _) (Nat.le_refl _) ?_
              exact FP.qJ ((bd_eq eS1).trans ((if_neg c2).trans ((if_neg c3).trans ((bd_eq eS4).trans ((if_neg c5).trans ((if_pos c7).trans ((if_pos c8).trans ((if_pos c9).trans ((bd_eq er10).trans (rfl))))))))))
            · refine aw_iload hC 4 dX12_copy_77 rfl ?_
              refine aw_if_lt hC 122 dX12_copy_79 (by decide) (fun c11 => ?_) (fun c11 => ?_)
              · refine aw_aload_n hC 0 dX12_copy_122 rfl rfl ?_
                refine aw_iconst (v := 2) hC dX12_copy_123 (by decide) ?_
                refine aw_cV1r hC hSt (t_X12_finding G l hM _) w_946 w_960 w_961 w_962 w_953 rfl rfl (by decide +kernel) ⟨Nat.le_of_ble_eq_true rfl, Nat.le_of_ble_eq_true rfl⟩ (ms_lt 64 (by decide) hM) (ms_k 64 12 0 (by decide) hM) rfl (Nat.le_of_ble_eq_true rfl) dX12_copy_124 ⟨Nat.zero_le _, Nat.zero_le _⟩ ?_
                generalize er12 : f_X12_finding S4 64 (2 : Int32) = r12
                have hM : MS r12.2 := MS.of (by rw [← er12]; exact q_X12_finding _ _ _) hM
                refine aw_lret hC dX12_copy_127 (Nat.le_refl _) (Nat.le_refl _) ?_
                exact FP.qJ ((bd_eq eS1).trans ((if_neg c2).trans ((if_neg c3).trans ((bd_eq eS4).trans ((if_neg c5).trans ((if_pos c7).trans ((if_pos c8).trans ((if_neg c9).trans ((if_pos c11).trans ((bd_eq er12).trans (rfl)))))))))))
              · refine aw_iload hC 5 dX12_copy_82 rfl ?_
                refine aw_if_lt hC 122 dX12_copy_84 (by decide) (fun c13 => ?_) (fun c13 => ?_)
                · refine aw_aload_n hC 0 dX12_copy_122 rfl rfl ?_
                  refine aw_iconst (v := 2) hC dX12_copy_123 (by decide) ?_
                  refine aw_cV1r hC hSt (t_X12_finding G l hM _) w_946 w_960 w_961 w_962 w_953 rfl rfl (by decide +kernel) ⟨Nat.le_of_ble_eq_true rfl, Nat.le_of_ble_eq_true rfl⟩ (ms_lt 64 (by decide) hM) (ms_k 64 12 0 (by decide) hM) rfl (Nat.le_of_ble_eq_true rfl) dX12_copy_124 ⟨Nat.zero_le _, Nat.zero_le _⟩ ?_
                  generalize er14 : f_X12_finding S4 64 (2 : Int32) = r14
                  have hM : MS r14.2 := MS.of (by rw [← er14]; exact q_X12_finding _ _ _) hM
                  refine aw_lret hC dX12_copy_127 (Nat.le_refl _) (Nat.le_refl _) ?_
                  exact FP.qJ ((bd_eq eS1).trans ((if_neg c2).trans ((if_neg c3).trans ((bd_eq eS4).trans ((if_neg c5).trans ((if_pos c7).trans ((if_pos c8).trans ((if_neg c9).trans ((if_neg c11).trans ((if_pos c13).trans ((bd_eq er14).trans (rfl))))))))))))
                · refine aw_iload_n hC 2 dX12_copy_87 rfl rfl ?_
                  refine aw_i2l hC dX12_copy_88 ?_
                  refine aw_iload hC 5 dX12_copy_89 rfl ?_
                  refine aw_i2l hC dX12_copy_91 ?_
                  refine aw_ladd hC dX12_copy_92 ?_
                  refine aw_aload_n hC 0 dX12_copy_93 rfl rfl ?_
                  refine aw_getP (b := 66) hC hSt 3 (ms_lt 64 (by decide) hM) (ms_k 64 12 0 (by decide) hM) rfl (by decide) w_918 rfl (ms_p 3 66 (by decide) hM) dX12_copy_94 ?_
                  refine aw_iload_n hC 1 dX12_copy_97 rfl rfl ?_
                  refine aw_iald hC hSt (ms_lt 66 (by decide) hM) (ms_k 66 14 8 (by decide) hM) (vp_len (n := 8) (ms_l 66 14 8 (by decide) hM) (h4 S1 eS1 c2 c3 S4 eS4 c5 c7 c8 c9 c11 c13)) dX12_copy_98 ?_
                  refine aw_i2l hC dX12_copy_99 ?_
                  refine aw_lcmp hC dX12_copy_100 ?_
                  refine aw_if_gt hC 122 dX12_copy_101 (by decide) (fun c15 => ?_) (fun c15 => ?_)
                  · refine aw_aload_n hC 0 dX12_copy_122 rfl rfl ?_
                    refine aw_iconst (v := 2) hC dX12_copy_123 (by decide) ?_
                    refine aw_cV1r hC hSt (t_X12_finding G l hM _) w_946 w_960 w_961 w_962 w_953 rfl rfl (by decide +kernel) ⟨Nat.le_of_ble_eq_true rfl, Nat.le_of_ble_eq_true rfl⟩ (ms_lt 64 (by decide) hM) (ms_k 64 12 0 (by decide) hM) rfl (Nat.le_of_ble_eq_true rfl) dX12_copy_124 ⟨Nat.zero_le _, Nat.zero_le _⟩ ?_
                    generalize er16 : f_X12_finding S4 64 (2 : Int32) = r16
                    have hM : MS r16.2 := MS.of (by rw [← er16]; exact q_X12_finding _ _ _) hM
                    refine aw_lret hC dX12_copy_127 (Nat.le_refl _) (Nat.le_refl _) ?_
                    exact FP.qJ ((bd_eq eS1).trans ((if_neg c2).trans ((if_neg c3).trans ((bd_eq eS4).trans ((if_neg c5).trans ((if_pos c7).trans ((if_pos c8).trans ((if_neg c9).trans ((if_neg c11).trans ((if_neg c13).trans ((if_pos c15).trans ((bd_eq er16).trans (rfl)))))))))))))
                  · refine aw_iload hC 4 dX12_copy_104 rfl ?_
                    refine aw_i2l hC dX12_copy_106 ?_
                    refine aw_iload hC 5 dX12_copy_107 rfl ?_
                    refine aw_i2l hC dX12_copy_109 ?_
                    refine aw_ladd hC dX12_copy_110 ?_
                    refine aw_aload_n hC 0 dX12_copy_111 rfl rfl ?_
                    refine aw_getP (b := 66) hC hSt 3 (ms_lt 64 (by decide) hM) (ms_k 64 12 0 (by decide) hM) rfl (by decide) w_918 rfl (ms_p 3 66 (by decide) hM) dX12_copy_112 ?_
                    refine aw_iload_n hC 3 dX12_copy_115 rfl rfl ?_
                    refine aw_iald hC hSt (ms_lt 66 (by decide) hM) (ms_k 66 14 8 (by decide) hM) (vp_len (n := 8) (ms_l 66 14 8 (by decide) hM) (h5 S1 eS1 c2 c3 S4 eS4 c5 c7 c8 c9 c11 c13 c15)) dX12_copy_116 ?_
                    refine aw_i2l hC dX12_copy_117 ?_
                    refine aw_lcmp hC dX12_copy_118 ?_
                    refine aw_if_le hC 128 dX12_copy_119 (by decide) (fun c17 => ?_) (fun c17 => ?_)
                    · refine aw_iload_n hC 2 dX12_copy_128 rfl rfl ?_
                      refine aw_iload hC 4 dX12_copy_129 rfl ?_
                      refine aw_cut (S' := S4) (pc' := 139) (lv' := [(0, .ref 64), (1, .int a1), (2, .int a2), (3, .int a3), (4, .int a4), (5, .int a5)]) (st' := [.int (if a2 < a4 then (0 : Int32) else (1 : Int32))]) ?_ (fun Jc18 => ?_)
                      · generalize ex19 : (if a2 < a4 then (0 : Int32) else (1 : Int32)) = x19
                        refine aw_istore hC [(6, .int _), (0, .ref 64), (1, .int _), (2, .int _), (3, .int _), (4, .int _), (5, .int _)] dX12_copy_139 (by decide) rfl ?_
                        refine aw_iconst (v := 0) hC dX12_copy_141 (by decide) ?_
                        refine aw_istore hC [(7, .int _), (6, .int _), (0, .ref 64), (1, .int _), (2, .int _), (3, .int _), (4, .int _), (5, .int _)] dX12_copy_142 (by decide) rfl ?_
                        refine aw_sub [2, 3, 4, 5, 6, 7, 1, 0] rfl ?_
                        refine l_X12_copy_144 hC hSt 1000 _ _ _ _ _ _ _ _ hM (h6 S1 eS1 c2 c3 S4 eS4 c5 c7 c8 c9 c11 c13 c15 c17 x19 ex19) ?_
                        generalize er20 : L_X12_copy_144 1000 S4 a1 a2 a3 a4 a5 x19 (0 : Int32) = r20
                        have hM : MS r20.2.2.2.2.2.2.2 := MS.of (by rw [← er20]; exact qL_X12_copy_144 _ _ _ _ _ _ _ _ _) hM
                        refine aw_iload hC 5 dX12_copy_205 rfl ?_
                        refine aw_i2l hC dX12_copy_207 ?_
                        refine aw_lret hC dX12_copy_208 (Nat.le_refl _) (Nat.le_refl _) ?_
                        exact FP.qJ ((bd_eq eS1).trans ((if_neg c2).trans ((if_neg c3).trans ((bd_eq eS4).trans ((if_neg c5).trans ((if_pos c7).trans ((if_pos c8).trans ((if_neg c9).trans ((if_neg c11).trans ((if_neg c13).trans ((if_neg c15).trans ((if_pos c17).trans ((bd_eq ex19).trans ((bd_eq er20).trans (rfl)))))))))))))))
                      · refine aw_icmp_lt hC 138 dX12_copy_131 (by decide) (fun c18 => ?_) (fun c18 => ?_)
                        · refine aw_iconst (v := 0) hC dX12_copy_138 (by decide) ?_
                          simp only [bd_def, if_pos c18] at Jc18 ⊢
                          exact Jc18
                        · refine aw_iconst (v := 1) hC dX12_copy_134 (by decide) ?_
                          refine aw_goto hC 139 dX12_copy_135 (by decide) ?_
                          simp only [bd_def, if_neg c18] at Jc18 ⊢
                          exact Jc18
                    · refine aw_aload_n hC 0 dX12_copy_122 rfl rfl ?_
                      refine aw_iconst (v := 2) hC dX12_copy_123 (by decide) ?_
                      refine aw_cV1r hC hSt (t_X12_finding G l hM _) w_946 w_960 w_961 w_962 w_953 rfl rfl (by decide +kernel) ⟨Nat.le_of_ble_eq_true rfl, Nat.le_of_ble_eq_true rfl⟩ (ms_lt 64 (by decide) hM) (ms_k 64 12 0 (by decide) hM) rfl (Nat.le_of_ble_eq_true rfl) dX12_copy_124 ⟨Nat.zero_le _, Nat.zero_le _⟩ ?_
                      generalize er21 : f_X12_finding S4 64 (2 : Int32) = r21
                      have hM : MS r21.2 := MS.of (by rw [← er21]; exact q_X12_finding _ _ _) hM
                      refine aw_lret hC dX12_copy_127 (Nat.le_refl _) (Nat.le_refl _) ?_
                      exact FP.qJ ((bd_eq eS1).trans ((if_neg c2).trans ((if_neg c3).trans ((bd_eq eS4).trans ((if_neg c5).trans ((if_pos c7).trans ((if_pos c8).trans ((if_neg c9).trans ((if_neg c11).trans ((if_neg c13).trans ((if_neg c15).trans ((if_neg c17).trans ((bd_eq er21).trans (rfl))))))))))))))
          · refine aw_aload_n hC 0 dX12_copy_67 rfl rfl ?_
            refine aw_iconst (v := 5) hC dX12_copy_68 (by decide) ?_
            refine aw_cV1r hC hSt (t_X12_finding G l hM _) w_946 w_960 w_961 w_962 w_953 rfl rfl (by decide +kernel) ⟨Nat.le_of_ble_eq_true rfl, Nat.le_of_ble_eq_true rfl⟩ (ms_lt 64 (by decide) hM) (ms_k 64 12 0 (by decide) hM) rfl (Nat.le_of_ble_eq_true rfl) dX12_copy_69 ⟨Nat.zero_le _, Nat.zero_le _⟩ ?_
            generalize er22 : f_X12_finding S4 64 (5 : Int32) = r22
            have hM : MS r22.2 := MS.of (by rw [← er22]; exact q_X12_finding _ _ _) hM
            refine aw_lret hC dX12_copy_72 (Nat.le_refl _) (Nat.le_refl _) ?_
            exact FP.qJ ((bd_eq eS1).trans ((if_neg c2).trans ((if_neg c3).trans ((bd_eq eS4).trans ((if_neg c5).trans ((if_pos c7).trans ((if_neg c8).trans ((bd_eq er22).trans (rfl)))))))))
        · refine aw_aload_n hC 0 dX12_copy_46 rfl rfl ?_
          refine aw_iconst (v := 1) hC dX12_copy_47 (by decide) ?_
          refine aw_cV1r hC hSt (t_X12_finding G l hM _) w_946 w_960 w_961 w_962 w_953 rfl rfl (by decide +kernel) ⟨Nat.le_of_ble_eq_true rfl, Nat.le_of_ble_eq_true rfl⟩ (ms_lt 64 (by decide) hM) (ms_k 64 12 0 (by decide) hM) rfl (Nat.le_of_ble_eq_true rfl) dX12_copy_48 ⟨Nat.zero_le _, Nat.zero_le _⟩ ?_
          generalize er23 : f_X12_finding S4 64 (1 : Int32) = r23
          have hM : MS r23.2 := MS.of (by rw [← er23]; exact q_X12_finding _ _ _) hM
          refine aw_lret hC dX12_copy_51 (Nat.le_refl _) (Nat.le_refl _) ?_
          exact FP.qJ ((bd_eq eS1).trans ((if_neg c2).trans ((if_neg c3).trans ((bd_eq eS4).trans ((if_neg c5).trans ((if_neg c7).trans ((bd_eq er23).trans (rfl))))))))
    · refine aw_ldc2 (v := -9000000000000000001) hC w_957 dX12_copy_19 ?_
      refine aw_lret hC dX12_copy_22 (Nat.le_refl _) (Nat.le_refl _) ?_
      exact FP.qJ ((bd_eq eS1).trans ((if_neg c2).trans ((if_pos c3).trans (rfl))))
theorem q_X12_copy (S : HSt) (_o : Nat) (a1 : Int32) (a2 : Int32) (a3 : Int32) (a4 : Int32) (a5 : Int32) : shp ((f_X12_copy S _o a1 a2 a3 a4 a5).2) = shp S := by
  unfold f_X12_copy
  repeat' (first | with_reducible refine shpr1 ?_ | with_reducible rfl | with_reducible refine (q_X12_finding _ _ _).trans ?_ | with_reducible refine (qL_X12_copy_144 _ _ _ _ _ _ _ _ _).trans ?_ | with_reducible refine (shp_sI _ _ _ _).trans ?_ | with_reducible refine (shp_sJ _ _ _ _).trans ?_ | with_reducible refine shi ?_ ?_ | with_reducible refine shb (fun _ _ => ?_) | with_reducible refine shiP (fun q : Int64 × HSt => q.2) ?_ ?_ | with_reducible refine shbP (fun q : Int64 × HSt => q.2) (fun _ _ => ?_) | (subst_vars; with_reducible rfl) | (subst_vars; with_reducible refine (q_X12_finding _ _ _).trans ?_) | (subst_vars; with_reducible refine (qL_X12_copy_144 _ _ _ _ _ _ _ _ _).trans ?_) | (subst_vars; with_reducible refine (shp_sI _ _ _ _).trans ?_) | (subst_vars; with_reducible refine (shp_sJ _ _ _ _).trans ?_) | (subst_vars; with_reducible refine shi ?_ ?_) | (subst_vars; with_reducible refine shb (fun _ _ => ?_)))
theorem v_X12_copy (S : HSt) (_o : Nat) (a1 : Int32) (a2 : Int32) (a3 : Int32) (a4 : Int32) (a5 : Int32) : Fr [(64, 0), (64, 1), (67, 1000)] S ((f_X12_copy S _o a1 a2 a3 a4 a5).2) := by
  unfold f_X12_copy
  repeat' (first | with_reducible refine frpr1 ?_ | with_reducible exact Fr.refl _ _ | with_reducible refine Fr.lP (fun q : Int64 × HSt => q.2) (fun _ _ => ?_) | with_reducible refine Fr.iteP (fun q : Int64 × HSt => q.2) ?_ ?_ | with_reducible refine Fr.l1 (fun _ _ => ?_) | with_reducible refine Fr.ite ?_ ?_ | with_reducible refine Fr.sE (by assumption) (by first | decide | simp only [List.mem_cons, List.not_mem_nil, or_false, true_or, or_true, eq_self_iff_true]) ?_ | with_reducible refine Fr.jE (by assumption) ?_ | with_reducible refine Fr.rE (by assumption) (by first | decide | simp only [List.mem_cons, List.not_mem_nil, or_false, true_or, or_true, eq_self_iff_true]) ?_ | with_reducible refine Fr.iE (by assumption) ?_ ?_ | with_reducible refine Fr.tr (w_X12_finding _ _ _ _ (by assumption)) (by first | decide | simp only [List.mem_cons, List.not_mem_nil, or_false, forall_eq_or_imp, forall_eq, true_or, or_true, and_self, eq_self_iff_true]) ?_ | with_reducible refine Fr.tr (wL_X12_copy_144 _ _ _ _ _ _ _ _ _ _ (by assumption)) (by first | decide | simp only [List.mem_cons, List.not_mem_nil, or_false, forall_eq_or_imp, forall_eq, true_or, or_true, and_self, eq_self_iff_true]) ?_)
theorem w_X12_copy (S : HSt) (_o : Nat) (a1 : Int32) (a2 : Int32) (a3 : Int32) (a4 : Int32) (a5 : Int32) (r : Int64 × HSt) (e : f_X12_copy S _o a1 a2 a3 a4 a5 = r) : Fr [(64, 0), (64, 1), (67, 1000)] S r.2 := by
  rw [← e]
  exact v_X12_copy S _o a1 a2 a3 a4 a5
noncomputable def f_X12_drop (S : HSt) (_o : Nat) (a1 : Int32) : Int64 × HSt := bd ((sI S 64 0 (0 : Int32))) fun S1 => if (f_X12_isRow S1 a1) = 0 then (pr ((-9000000000000000001 : Int64)) (S1)) else (bd ((sI S1 64 1 (0 : Int32))) fun S3 => if 0 ≤ (gI S3 65 a1.toNatClampNeg) then (bd ((sI S3 65 a1.toNatClampNeg (-1 : Int32))) fun S5 => pr ((gI S5 66 a1.toNatClampNeg).toInt64) (S5)) else (bd (f_X12_finding S3 64 (1 : Int32)) fun r6 => pr (r6.1) (r6.2)))
def p_X12_drop (S : HSt) (_o : Nat) (a1 : Int32) : Prop := (∀ S1 : HSt, (sI S 64 0 (0 : Int32)) = S1 → (¬ (f_X12_isRow S1 a1) = 0) → ∀ S3 : HSt, (sI S1 64 1 (0 : Int32)) = S3 → vp_in a1 8) ∧ (∀ S1 : HSt, (sI S 64 0 (0 : Int32)) = S1 → (¬ (f_X12_isRow S1 a1) = 0) → ∀ S3 : HSt, (sI S1 64 1 (0 : Int32)) = S3 → (0 ≤ (gI S3 65 a1.toNatClampNeg)) → vp_in a1 8) ∧ (∀ S1 : HSt, (sI S 64 0 (0 : Int32)) = S1 → (¬ (f_X12_isRow S1 a1) = 0) → ∀ S3 : HSt, (sI S1 64 1 (0 : Int32)) = S3 → (0 ≤ (gI S3 65 a1.toNatClampNeg)) → ∀ S5 : HSt, (sI S3 65 a1.toNatClampNeg (-1 : Int32)) = S5 → vp_in a1 8)
set_option maxRecDepth 100000 in
theorem t_X12_drop (G : GG) (l : Launch) {S : HSt} (hM : MS S) (a1 : Int32) (hp : p_X12_drop S 64 a1) : AM G l yX12_drop cX12_drop 2 (some .long) (rmD 2 0 0) 0 0 [.ref 64, .int a1] S (FP (some (.long (f_X12_drop S 64 a1).1)) ((f_X12_drop S 64 a1).2)) := by
  obtain ⟨h0, h1, h2⟩ := hp
  refine AM.mk (by decide) (Nat.le_of_ble_eq_true rfl) ?_
  intro p e s m below meth c hC hSt _
  refine aw_aload_n hC 0 dX12_drop_0 rfl rfl ?_
  refine aw_iconst (v := 0) hC dX12_drop_1 (by decide) ?_
  refine aw_putI hC hSt 0 (ms_lt 64 (by decide) hM) (ms_k 64 12 0 (by decide) hM) rfl (by decide) w_955 rfl rfl rfl rfl dX12_drop_2 ?_
  generalize eS1 : (sI S 64 0 (0 : Int32)) = S1
  have hM : MS S1 := MS.of (by rw [← eS1]; exact shp_sI _ _ _ _) hM
  refine aw_iload_n hC 1 dX12_drop_5 rfl rfl ?_
  refine aw_cS1r hC hSt (t_X12_isRow G l  _) w_949 w_958 w_959 w_953 rfl rfl (by decide +kernel) ⟨Nat.le_of_ble_eq_true rfl, Nat.le_of_ble_eq_true rfl⟩ (Nat.le_of_ble_eq_true rfl) dX12_drop_6 ⟨Nat.zero_le _, Nat.zero_le _⟩ ?_
  refine aw_if_ne hC 16 dX12_drop_9 (by decide) (fun c2 => ?_) (fun c2 => ?_)
  · refine aw_aload_n hC 0 dX12_drop_16 rfl rfl ?_
    refine aw_iconst (v := 0) hC dX12_drop_17 (by decide) ?_
    refine aw_putI hC hSt 1 (ms_lt 64 (by decide) hM) (ms_k 64 12 0 (by decide) hM) rfl (by decide) w_947 rfl rfl rfl rfl dX12_drop_18 ?_
    generalize eS3 : (sI S1 64 1 (0 : Int32)) = S3
    have hM : MS S3 := MS.of (by rw [← eS3]; exact shp_sI _ _ _ _) hM
    refine aw_aload_n hC 0 dX12_drop_21 rfl rfl ?_
    refine aw_getP (b := 65) hC hSt 2 (ms_lt 64 (by decide) hM) (ms_k 64 12 0 (by decide) hM) rfl (by decide) w_917 rfl (ms_p 2 65 (by decide) hM) dX12_drop_22 ?_
    refine aw_iload_n hC 1 dX12_drop_25 rfl rfl ?_
    refine aw_iald hC hSt (ms_lt 65 (by decide) hM) (ms_k 65 14 8 (by decide) hM) (vp_len (n := 8) (ms_l 65 14 8 (by decide) hM) (h0 S1 eS1 c2 S3 eS3)) dX12_drop_26 ?_
    refine aw_if_ge hC 36 dX12_drop_27 (by decide) (fun c4 => ?_) (fun c4 => ?_)
    · refine aw_aload_n hC 0 dX12_drop_36 rfl rfl ?_
      refine aw_getP (b := 65) hC hSt 2 (ms_lt 64 (by decide) hM) (ms_k 64 12 0 (by decide) hM) rfl (by decide) w_917 rfl (ms_p 2 65 (by decide) hM) dX12_drop_37 ?_
      refine aw_iload_n hC 1 dX12_drop_40 rfl rfl ?_
      refine aw_iconst (v := -1) hC dX12_drop_41 (by decide) ?_
      refine aw_iast hC hSt (ms_lt 65 (by decide) hM) (ms_k 65 14 8 (by decide) hM) (vp_len (n := 8) (ms_l 65 14 8 (by decide) hM) (h1 S1 eS1 c2 S3 eS3 c4)) dX12_drop_42 ?_
      generalize eS5 : (sI S3 65 a1.toNatClampNeg (-1 : Int32)) = S5
      have hM : MS S5 := MS.of (by rw [← eS5]; exact shp_sI _ _ _ _) hM
      refine aw_aload_n hC 0 dX12_drop_43 rfl rfl ?_
      refine aw_getP (b := 66) hC hSt 3 (ms_lt 64 (by decide) hM) (ms_k 64 12 0 (by decide) hM) rfl (by decide) w_918 rfl (ms_p 3 66 (by decide) hM) dX12_drop_44 ?_
      refine aw_iload_n hC 1 dX12_drop_47 rfl rfl ?_
      refine aw_iald hC hSt (ms_lt 66 (by decide) hM) (ms_k 66 14 8 (by decide) hM) (vp_len (n := 8) (ms_l 66 14 8 (by decide) hM) (h2 S1 eS1 c2 S3 eS3 c4 S5 eS5)) dX12_drop_48 ?_
      refine aw_i2l hC dX12_drop_49 ?_
      refine aw_lret hC dX12_drop_50 (Nat.le_refl _) (Nat.le_refl _) ?_
      exact FP.qJ ((bd_eq eS1).trans ((if_neg c2).trans ((bd_eq eS3).trans ((if_pos c4).trans ((bd_eq eS5).trans (rfl))))))
    · refine aw_aload_n hC 0 dX12_drop_30 rfl rfl ?_
      refine aw_iconst (v := 1) hC dX12_drop_31 (by decide) ?_
      refine aw_cV1r hC hSt (t_X12_finding G l hM _) w_946 w_960 w_961 w_962 w_953 rfl rfl (by decide +kernel) ⟨Nat.le_of_ble_eq_true rfl, Nat.le_of_ble_eq_true rfl⟩ (ms_lt 64 (by decide) hM) (ms_k 64 12 0 (by decide) hM) rfl (Nat.le_of_ble_eq_true rfl) dX12_drop_32 ⟨Nat.zero_le _, Nat.zero_le _⟩ ?_
      generalize er6 : f_X12_finding S3 64 (1 : Int32) = r6
      have hM : MS r6.2 := MS.of (by rw [← er6]; exact q_X12_finding _ _ _) hM
      refine aw_lret hC dX12_drop_35 (Nat.le_refl _) (Nat.le_refl _) ?_
      exact FP.qJ ((bd_eq eS1).trans ((if_neg c2).trans ((bd_eq eS3).trans ((if_neg c4).trans ((bd_eq er6).trans (rfl))))))
  · refine aw_ldc2 (v := -9000000000000000001) hC w_957 dX12_drop_12 ?_
    refine aw_lret hC dX12_drop_15 (Nat.le_refl _) (Nat.le_refl _) ?_
    exact FP.qJ ((bd_eq eS1).trans ((if_pos c2).trans (rfl)))
theorem q_X12_drop (S : HSt) (_o : Nat) (a1 : Int32) : shp ((f_X12_drop S _o a1).2) = shp S := by
  unfold f_X12_drop
  repeat' (first | with_reducible refine shpr1 ?_ | with_reducible rfl | with_reducible refine (q_X12_finding _ _ _).trans ?_ | with_reducible refine (shp_sI _ _ _ _).trans ?_ | with_reducible refine (shp_sJ _ _ _ _).trans ?_ | with_reducible refine shi ?_ ?_ | with_reducible refine shb (fun _ _ => ?_) | with_reducible refine shiP (fun q : Int64 × HSt => q.2) ?_ ?_ | with_reducible refine shbP (fun q : Int64 × HSt => q.2) (fun _ _ => ?_) | (subst_vars; with_reducible rfl) | (subst_vars; with_reducible refine (q_X12_finding _ _ _).trans ?_) | (subst_vars; with_reducible refine (shp_sI _ _ _ _).trans ?_) | (subst_vars; with_reducible refine (shp_sJ _ _ _ _).trans ?_) | (subst_vars; with_reducible refine shi ?_ ?_) | (subst_vars; with_reducible refine shb (fun _ _ => ?_)))
theorem v_X12_drop (S : HSt) (_o : Nat) (a1 : Int32) : Fr [(64, 0), (64, 1), (65, 1000)] S ((f_X12_drop S _o a1).2) := by
  unfold f_X12_drop
  repeat' (first | with_reducible refine frpr1 ?_ | with_reducible exact Fr.refl _ _ | with_reducible refine Fr.lP (fun q : Int64 × HSt => q.2) (fun _ _ => ?_) | with_reducible refine Fr.iteP (fun q : Int64 × HSt => q.2) ?_ ?_ | with_reducible refine Fr.l1 (fun _ _ => ?_) | with_reducible refine Fr.ite ?_ ?_ | with_reducible refine Fr.sE (by assumption) (by first | decide | simp only [List.mem_cons, List.not_mem_nil, or_false, true_or, or_true, eq_self_iff_true]) ?_ | with_reducible refine Fr.jE (by assumption) ?_ | with_reducible refine Fr.rE (by assumption) (by first | decide | simp only [List.mem_cons, List.not_mem_nil, or_false, true_or, or_true, eq_self_iff_true]) ?_ | with_reducible refine Fr.iE (by assumption) ?_ ?_ | with_reducible refine Fr.tr (w_X12_finding _ _ _ _ (by assumption)) (by first | decide | simp only [List.mem_cons, List.not_mem_nil, or_false, forall_eq_or_imp, forall_eq, true_or, or_true, and_self, eq_self_iff_true]) ?_)
theorem w_X12_drop (S : HSt) (_o : Nat) (a1 : Int32) (r : Int64 × HSt) (e : f_X12_drop S _o a1 = r) : Fr [(64, 0), (64, 1), (65, 1000)] S r.2 := by
  rw [← e]
  exact v_X12_drop S _o a1
noncomputable def L_X12_feed_42 : Nat → HSt → Int64 → Int32 → Int32 → Int64 × Int32 × Int32 × HSt
  | 0, S, v1, v3, v4 => (v1, v3, v4, S)
  | n + 1, S, v1, v3, v4 =>
    if v4 < 0 then ((pr (v1) (pr (v3) (pr (v4) (S))))) else (bd ((sI S 70 (gI S 64 9).toNatClampNeg ((v1 >>> (((8 : Int32) * v4).toInt64 &&& 63)) &&& (255 : Int64)).toInt32)) fun S1006 => bd ((sI S1006 64 9 ((gI S1006 64 9) + (1 : Int32)))) fun S1007 => L_X12_feed_42 n S1007 v1 v3 (v4 + (-1 : Int32)))
def T_X12_feed_42 : Nat → HSt → Int64 → Int32 → Int32 → Prop
  | 0, _, _, _, _ => False
  | n + 1, S, v1, v3, v4 => ((¬ v4 < 0) → vp_in (gI S 64 9) 600) ∧ ((¬ v4 < 0) → ∀ S1006 : HSt, (sI S 70 (gI S 64 9).toNatClampNeg ((v1 >>> (((8 : Int32) * v4).toInt64 &&& 63)) &&& (255 : Int64)).toInt32) = S1006 → ∀ S1007 : HSt, (sI S1006 64 9 ((gI S1006 64 9) + (1 : Int32))) = S1007 → T_X12_feed_42 n S1007 v1 v3 (v4 + (-1 : Int32)))
theorem qL_X12_feed_42 : ∀ (n : Nat) (S : HSt) (v1 : Int64) (v3 : Int32) (v4 : Int32), shp (L_X12_feed_42 n S v1 v3 v4).2.2.2 = shp S := by
  intro n
  induction n with
  | zero => intros; rfl
  | succ n ih =>
    intro S v1 v3 v4
    unfold L_X12_feed_42
    repeat' (first | with_reducible refine shpr3 ?_ | with_reducible rfl | with_reducible refine (ih _ _ _ _).trans ?_ | with_reducible refine (shp_sI _ _ _ _).trans ?_ | with_reducible refine (shp_sJ _ _ _ _).trans ?_ | with_reducible refine shi ?_ ?_ | with_reducible refine shb (fun _ _ => ?_) | with_reducible refine shiP (fun q : Int64 × Int32 × Int32 × HSt => q.2.2.2) ?_ ?_ | with_reducible refine shbP (fun q : Int64 × Int32 × Int32 × HSt => q.2.2.2) (fun _ _ => ?_) | (subst_vars; with_reducible rfl) | (subst_vars; with_reducible refine (ih _ _ _ _).trans ?_) | (subst_vars; with_reducible refine (shp_sI _ _ _ _).trans ?_) | (subst_vars; with_reducible refine (shp_sJ _ _ _ _).trans ?_) | (subst_vars; with_reducible refine shi ?_ ?_) | (subst_vars; with_reducible refine shb (fun _ _ => ?_)))
theorem vL_X12_feed_42 : ∀ (n : Nat) (S : HSt) (v1 : Int64) (v3 : Int32) (v4 : Int32), Fr [(64, 9), (70, 1000)] S (L_X12_feed_42 n S v1 v3 v4).2.2.2 := by
  intro n
  induction n with
  | zero => intros; exact Fr.refl _ _
  | succ n ih =>
    intro S v1 v3 v4
    unfold L_X12_feed_42
    repeat' (first | with_reducible refine frpr3 ?_ | with_reducible exact Fr.refl _ _ | with_reducible refine Fr.lP (fun q : Int64 × Int32 × Int32 × HSt => q.2.2.2) (fun _ _ => ?_) | with_reducible refine Fr.iteP (fun q : Int64 × Int32 × Int32 × HSt => q.2.2.2) ?_ ?_ | with_reducible refine Fr.l1 (fun _ _ => ?_) | with_reducible refine Fr.ite ?_ ?_ | with_reducible refine Fr.sE (by assumption) (by first | decide | simp only [List.mem_cons, List.not_mem_nil, or_false, true_or, or_true, eq_self_iff_true]) ?_ | with_reducible refine Fr.jE (by assumption) ?_ | with_reducible refine Fr.rE (by assumption) (by first | decide | simp only [List.mem_cons, List.not_mem_nil, or_false, true_or, or_true, eq_self_iff_true]) ?_ | with_reducible refine Fr.iE (by assumption) ?_ ?_ | with_reducible refine Fr.tr (ih _ _ _ _) (by first | decide | simp only [List.mem_cons, List.not_mem_nil, or_false, forall_eq_or_imp, forall_eq, true_or, or_true, and_self, eq_self_iff_true]) ?_)
theorem wL_X12_feed_42 (n : Nat) (S : HSt) (v1 : Int64) (v3 : Int32) (v4 : Int32) (r : Int64 × Int32 × Int32 × HSt) (e : L_X12_feed_42 n S v1 v3 v4 = r) : Fr [(64, 9), (70, 1000)] S r.2.2.2 := by
  rw [← e]
  exact vL_X12_feed_42 n S v1 v3 v4
set_option maxRecDepth 100000 in
theorem l_X12_feed_42 {p : Program} {l : Launch} {e : Env} {s : State} {m : MethodId} {args : Array Value} {below : List Frame} {meth : Method} {c : Code} {G : GG} {Q : State → Prop} (hC : ACx p s m args meth c cX12_feed RX12 5 (some .long)) (hSt : St G s)  : ∀ (n : Nat) (S : HSt) (v1 : Int64) (v3 : Int32) (v4 : Int32), MS S → T_X12_feed_42 n S v1 v3 v4 → AW p l e (rmD 1 0 0) s m args below meth c G 5 Q (L_X12_feed_42 n S v1 v3 v4).2.2.2 0 0 84 [(0, .ref 64), (1, .long (L_X12_feed_42 n S v1 v3 v4).1), (3, .int (L_X12_feed_42 n S v1 v3 v4).2.1), (4, .int (L_X12_feed_42 n S v1 v3 v4).2.2.1)] [] → AW p l e (rmD 1 0 0) s m args below meth c G 5 Q S 0 0 42 [(0, .ref 64), (1, .long v1), (3, .int v3), (4, .int v4)] [] := by
  intro n
  induction n with
  | zero => intro S v1 v3 v4 _ hT; exact hT.elim
  | succ n ih =>
    intro S v1 v3 v4 hM hT hk
    unfold T_X12_feed_42 at hT
    obtain ⟨h0, h1⟩ := hT
    refine aw_iload hC 3 dX12_feed_42 rfl ?_
    refine aw_if_lt hC 84 dX12_feed_44 (by decide) (fun c1005 => ?_) (fun c1005 => ?_)
    · refine aw_sub [0, 1, 2, 3] rfl ?_
      have E : L_X12_feed_42 (n + 1) S v1 v3 v4 = _ := (if_pos c1005).trans (rfl)
      rw [E] at hk
      exact hk
    · refine aw_aload_n hC 0 dX12_feed_47 rfl rfl ?_
      refine aw_getP (b := 70) hC hSt 8 (ms_lt 64 (by decide) hM) (ms_k 64 12 0 (by decide) hM) rfl (by decide) w_922 rfl (ms_p 8 70 (by decide) hM) dX12_feed_48 ?_
      refine aw_aload_n hC 0 dX12_feed_51 rfl rfl ?_
      refine aw_getI hC hSt 9 (ms_lt 64 (by decide) hM) (ms_k 64 12 0 (by decide) hM) rfl (by decide) w_968 rfl dX12_feed_52 ?_
      refine aw_lload_n hC 1 dX12_feed_55 rfl rfl ?_
      refine aw_bipush (v := 8) hC dX12_feed_56 (by decide) ?_
      refine aw_iload hC 3 dX12_feed_58 rfl ?_
      refine aw_imul hC dX12_feed_60 ?_
      refine aw_lshr hC dX12_feed_61 ?_
      refine aw_ldc2 (v := 255) hC w_970 dX12_feed_62 ?_
      refine aw_land hC dX12_feed_65 ?_
      refine aw_l2i hC dX12_feed_66 ?_
      refine aw_iast hC hSt (ms_lt 70 (by decide) hM) (ms_k 70 14 600 (by decide) hM) (vp_len (n := 600) (ms_l 70 14 600 (by decide) hM) (h0 c1005)) dX12_feed_67 ?_
      generalize eS1006 : (sI S 70 (gI S 64 9).toNatClampNeg ((v1 >>> (((8 : Int32) * v4).toInt64 &&& 63)) &&& (255 : Int64)).toInt32) = S1006
      have hM : MS S1006 := MS.of (by rw [← eS1006]; exact shp_sI _ _ _ _) hM
      refine aw_aload_n hC 0 dX12_feed_68 rfl rfl ?_
      refine aw_dup hC dX12_feed_69 rfl ?_
      refine aw_getI hC hSt 9 (ms_lt 64 (by decide) hM) (ms_k 64 12 0 (by decide) hM) rfl (by decide) w_968 rfl dX12_feed_70 ?_
      refine aw_iconst (v := 1) hC dX12_feed_73 (by decide) ?_
      refine aw_iadd hC dX12_feed_74 ?_
      refine aw_putI hC hSt 9 (ms_lt 64 (by decide) hM) (ms_k 64 12 0 (by decide) hM) rfl (by decide) w_968 rfl rfl rfl rfl dX12_feed_75 ?_
      generalize eS1007 : (sI S1006 64 9 ((gI S1006 64 9) + (1 : Int32))) = S1007
      have hM : MS S1007 := MS.of (by rw [← eS1007]; exact shp_sI _ _ _ _) hM
      refine aw_iinc (v := (v4 + (-1 : Int32))) hC 3 [(4, .int _), (0, .ref 64), (1, .long _), (3, .int _)] dX12_feed_78 rfl rfl (by decide) rfl ?_
      refine aw_goto hC 42 dX12_feed_81 (by decide) ?_
      refine aw_sub [1, 2, 3, 0] rfl ?_
      have hTn := (h1 c1005 S1006 eS1006 S1007 eS1007)
      have hMn : MS S1007 := hM
      have E : L_X12_feed_42 (n + 1) S v1 v3 v4 = _ := (if_neg c1005).trans ((bd_eq eS1006).trans ((bd_eq eS1007).trans (rfl)))
      rw [E] at hk
      exact ih _ _ _ _ hMn hTn hk
noncomputable def f_X12_feed (S : HSt) (_o : Nat) (a1 : Int64) (a2 : Int32) : Int64 × HSt := bd ((sI S 64 0 (0 : Int32))) fun S1 => if (f_X12_in S1 a2.toInt64 (1 : Int64) (8 : Int64)) = 0 then (pr ((-9000000000000000001 : Int64)) (S1)) else (if ((gI S1 64 9) + a2) ≤ (600 : Int32) then (bd ((a2 - (1 : Int32))) fun x4 => bd (L_X12_feed_42 1000 S1 a1 a2 x4) fun r5 => pr ((gI r5.2.2.2 64 9).toInt64) (r5.2.2.2)) else (pr ((-9000000000000000003 : Int64)) (S1)))
def p_X12_feed (S : HSt) (_o : Nat) (a1 : Int64) (a2 : Int32) : Prop := (∀ S1 : HSt, (sI S 64 0 (0 : Int32)) = S1 → (¬ (f_X12_in S1 a2.toInt64 (1 : Int64) (8 : Int64)) = 0) → (((gI S1 64 9) + a2) ≤ (600 : Int32)) → ∀ x4 : Int32, (a2 - (1 : Int32)) = x4 → T_X12_feed_42 1000 S1 a1 a2 x4)
set_option maxRecDepth 100000 in
theorem t_X12_feed (G : GG) (l : Launch) {S : HSt} (hM : MS S) (a1 : Int64) (a2 : Int32) (hp : p_X12_feed S 64 a1 a2) : AM G l yX12_feed cX12_feed 5 (some .long) (rmD 1 0 0) 0 0 [.ref 64, .long a1, .int a2] S (FP (some (.long (f_X12_feed S 64 a1 a2).1)) ((f_X12_feed S 64 a1 a2).2)) := by
  have h0 := hp
  unfold p_X12_feed at h0
  refine AM.mk (by decide) (Nat.le_of_ble_eq_true rfl) ?_
  intro p e s m below meth c hC hSt _
  refine aw_aload_n hC 0 dX12_feed_0 rfl rfl ?_
  refine aw_iconst (v := 0) hC dX12_feed_1 (by decide) ?_
  refine aw_putI hC hSt 0 (ms_lt 64 (by decide) hM) (ms_k 64 12 0 (by decide) hM) rfl (by decide) w_955 rfl rfl rfl rfl dX12_feed_2 ?_
  generalize eS1 : (sI S 64 0 (0 : Int32)) = S1
  have hM : MS S1 := MS.of (by rw [← eS1]; exact shp_sI _ _ _ _) hM
  refine aw_iload_n hC 2 dX12_feed_5 rfl rfl ?_
  refine aw_i2l hC dX12_feed_6 ?_
  refine aw_lconst (v := 1) hC dX12_feed_7 (by decide) ?_
  refine aw_ldc2 (v := 8) hC w_967 dX12_feed_8 ?_
  refine aw_cS3r hC hSt (t_X12_in G l  _ _ _) w_945 w_951 w_952 w_953 rfl rfl (by decide +kernel) ⟨Nat.le_of_ble_eq_true rfl, Nat.le_of_ble_eq_true rfl⟩ (Nat.le_of_ble_eq_true rfl) dX12_feed_11 ⟨Nat.zero_le _, Nat.zero_le _⟩ ?_
  refine aw_if_ne hC 21 dX12_feed_14 (by decide) (fun c2 => ?_) (fun c2 => ?_)
  · refine aw_aload_n hC 0 dX12_feed_21 rfl rfl ?_
    refine aw_getI hC hSt 9 (ms_lt 64 (by decide) hM) (ms_k 64 12 0 (by decide) hM) rfl (by decide) w_968 rfl dX12_feed_22 ?_
    refine aw_iload_n hC 2 dX12_feed_25 rfl rfl ?_
    refine aw_iadd hC dX12_feed_26 ?_
    refine aw_sipush (v := 600) hC dX12_feed_27 (by decide) ?_
    refine aw_icmp_le hC 37 dX12_feed_30 (by decide) (fun c3 => ?_) (fun c3 => ?_)
    · refine aw_iload_n hC 2 dX12_feed_37 rfl rfl ?_
      refine aw_iconst (v := 1) hC dX12_feed_38 (by decide) ?_
      refine aw_isub hC dX12_feed_39 ?_
      refine aw_istore hC [(4, .int _), (0, .ref 64), (1, .long _), (3, .int _)] dX12_feed_40 (by decide) rfl ?_
      generalize ex4 : (a2 - (1 : Int32)) = x4
      refine aw_sub [1, 2, 3, 0] rfl ?_
      refine l_X12_feed_42 hC hSt 1000 _ _ _ _ hM (h0 S1 eS1 c2 c3 x4 ex4) ?_
      generalize er5 : L_X12_feed_42 1000 S1 a1 a2 x4 = r5
      have hM : MS r5.2.2.2 := MS.of (by rw [← er5]; exact qL_X12_feed_42 _ _ _ _ _) hM
      refine aw_aload_n hC 0 dX12_feed_84 rfl rfl ?_
      refine aw_getI hC hSt 9 (ms_lt 64 (by decide) hM) (ms_k 64 12 0 (by decide) hM) rfl (by decide) w_968 rfl dX12_feed_85 ?_
      refine aw_i2l hC dX12_feed_88 ?_
      refine aw_lret hC dX12_feed_89 (Nat.le_refl _) (Nat.le_refl _) ?_
      exact FP.qJ ((bd_eq eS1).trans ((if_neg c2).trans ((if_pos c3).trans ((bd_eq ex4).trans ((bd_eq er5).trans (rfl))))))
    · refine aw_ldc2 (v := -9000000000000000003) hC w_969 dX12_feed_33 ?_
      refine aw_lret hC dX12_feed_36 (Nat.le_refl _) (Nat.le_refl _) ?_
      exact FP.qJ ((bd_eq eS1).trans ((if_neg c2).trans ((if_neg c3).trans (rfl))))
  · refine aw_ldc2 (v := -9000000000000000001) hC w_957 dX12_feed_17 ?_
    refine aw_lret hC dX12_feed_20 (Nat.le_refl _) (Nat.le_refl _) ?_
    exact FP.qJ ((bd_eq eS1).trans ((if_pos c2).trans (rfl)))
theorem q_X12_feed (S : HSt) (_o : Nat) (a1 : Int64) (a2 : Int32) : shp ((f_X12_feed S _o a1 a2).2) = shp S := by
  unfold f_X12_feed
  repeat' (first | with_reducible refine shpr1 ?_ | with_reducible rfl | with_reducible refine (qL_X12_feed_42 _ _ _ _ _).trans ?_ | with_reducible refine (shp_sI _ _ _ _).trans ?_ | with_reducible refine (shp_sJ _ _ _ _).trans ?_ | with_reducible refine shi ?_ ?_ | with_reducible refine shb (fun _ _ => ?_) | with_reducible refine shiP (fun q : Int64 × HSt => q.2) ?_ ?_ | with_reducible refine shbP (fun q : Int64 × HSt => q.2) (fun _ _ => ?_) | (subst_vars; with_reducible rfl) | (subst_vars; with_reducible refine (qL_X12_feed_42 _ _ _ _ _).trans ?_) | (subst_vars; with_reducible refine (shp_sI _ _ _ _).trans ?_) | (subst_vars; with_reducible refine (shp_sJ _ _ _ _).trans ?_) | (subst_vars; with_reducible refine shi ?_ ?_) | (subst_vars; with_reducible refine shb (fun _ _ => ?_)))
theorem v_X12_feed (S : HSt) (_o : Nat) (a1 : Int64) (a2 : Int32) : Fr [(64, 0), (64, 9), (70, 1000)] S ((f_X12_feed S _o a1 a2).2) := by
  unfold f_X12_feed
  repeat' (first | with_reducible refine frpr1 ?_ | with_reducible exact Fr.refl _ _ | with_reducible refine Fr.lP (fun q : Int64 × HSt => q.2) (fun _ _ => ?_) | with_reducible refine Fr.iteP (fun q : Int64 × HSt => q.2) ?_ ?_ | with_reducible refine Fr.l1 (fun _ _ => ?_) | with_reducible refine Fr.ite ?_ ?_ | with_reducible refine Fr.sE (by assumption) (by first | decide | simp only [List.mem_cons, List.not_mem_nil, or_false, true_or, or_true, eq_self_iff_true]) ?_ | with_reducible refine Fr.jE (by assumption) ?_ | with_reducible refine Fr.rE (by assumption) (by first | decide | simp only [List.mem_cons, List.not_mem_nil, or_false, true_or, or_true, eq_self_iff_true]) ?_ | with_reducible refine Fr.iE (by assumption) ?_ ?_ | with_reducible refine Fr.tr (wL_X12_feed_42 _ _ _ _ _ _ (by assumption)) (by first | decide | simp only [List.mem_cons, List.not_mem_nil, or_false, forall_eq_or_imp, forall_eq, true_or, or_true, and_self, eq_self_iff_true]) ?_)
theorem w_X12_feed (S : HSt) (_o : Nat) (a1 : Int64) (a2 : Int32) (r : Int64 × HSt) (e : f_X12_feed S _o a1 a2 = r) : Fr [(64, 0), (64, 9), (70, 1000)] S r.2 := by
  rw [← e]
  exact v_X12_feed S _o a1 a2
noncomputable def F_X12_byteAt (S : HSt) (_o : Nat) (a1 : Int32) : Int32 × HSt := bd ((if (gI S 64 11) ≤ a1 then (-1000000 : Int32) else (gI S 70 a1.toNatClampNeg))) fun x2 => pr (x2) (S)
noncomputable def f_X12_byteAt (S : HSt) (_o : Nat) (a1 : Int32) : Int32 := (F_X12_byteAt S _o a1).1
def p_X12_byteAt (S : HSt) (_o : Nat) (a1 : Int32) : Prop := ((¬ (gI S 64 11) ≤ a1) → vp_in a1 600)
set_option maxRecDepth 100000 in
theorem t_X12_byteAt (G : GG) (l : Launch) {S : HSt} (hM : MS S) (a1 : Int32) (hp : p_X12_byteAt S 64 a1) : AM G l yX12_byteAt cX12_byteAt 2 (some .int) (rmD 0 0 0) 0 0 [.ref 64, .int a1] S (FP (some (.int (f_X12_byteAt S 64 a1))) (S)) := by
  have h0 := hp
  unfold p_X12_byteAt at h0
  refine AM.mk (by decide) (Nat.le_of_ble_eq_true rfl) ?_
  intro p e s m below meth c hC hSt _
  refine aw_iload_n hC 1 dX12_byteAt_0 rfl rfl ?_
  refine aw_aload_n hC 0 dX12_byteAt_1 rfl rfl ?_
  refine aw_getI hC hSt 11 (ms_lt 64 (by decide) hM) (ms_k 64 12 0 (by decide) hM) rfl (by decide) w_972 rfl dX12_byteAt_2 ?_
  refine aw_cut (S' := S) (pc' := 19) (lv' := [(0, .ref 64), (1, .int a1)]) (st' := [.int (if (gI S 64 11) ≤ a1 then (-1000000 : Int32) else (gI S 70 a1.toNatClampNeg))]) ?_ (fun Jc1 => ?_)
  · generalize ex2 : (if (gI S 64 11) ≤ a1 then (-1000000 : Int32) else (gI S 70 a1.toNatClampNeg)) = x2
    refine aw_iret hC dX12_byteAt_19 (Nat.le_refl _) (Nat.le_refl _) ?_
    exact FP.pI ((bd_eq ex2).trans (rfl))
  · refine aw_icmp_ge hC 17 dX12_byteAt_5 (by decide) (fun c1 => ?_) (fun c1 => ?_)
    · refine aw_ldc (v := -1000000) hC w_923 dX12_byteAt_17 ?_
      simp only [bd_def, if_pos c1] at Jc1 ⊢
      exact Jc1
    · refine aw_aload_n hC 0 dX12_byteAt_8 rfl rfl ?_
      refine aw_getP (b := 70) hC hSt 8 (ms_lt 64 (by decide) hM) (ms_k 64 12 0 (by decide) hM) rfl (by decide) w_922 rfl (ms_p 8 70 (by decide) hM) dX12_byteAt_9 ?_
      refine aw_iload_n hC 1 dX12_byteAt_12 rfl rfl ?_
      refine aw_iald hC hSt (ms_lt 70 (by decide) hM) (ms_k 70 14 600 (by decide) hM) (vp_len (n := 600) (ms_l 70 14 600 (by decide) hM) (h0 c1)) dX12_byteAt_13 ?_
      refine aw_goto hC 19 dX12_byteAt_14 (by decide) ?_
      simp only [bd_def, if_neg c1] at Jc1 ⊢
      exact Jc1
noncomputable def F_X12_isLetter (S : HSt) (a1 : Int32) : Int32 × HSt := bd ((if a1 < (97 : Int32) then (0 : Int32) else (if (122 : Int32) < a1 then (0 : Int32) else (1 : Int32)))) fun x3 => pr (x3) (S)
noncomputable def f_X12_isLetter (S : HSt) (a1 : Int32) : Int32 := (F_X12_isLetter S a1).1
set_option maxRecDepth 100000 in
theorem t_X12_isLetter (G : GG) (l : Launch) {S : HSt} (a1 : Int32)  : AM G l yX12_isLetter cX12_isLetter 1 (some .boolean) (rmD 0 0 0) 0 0 [.int a1] S (FP (some (.int (f_X12_isLetter S a1))) (S)) := by
  refine AM.mk (by decide) (Nat.le_of_ble_eq_true rfl) ?_
  intro p e s m below meth c hC hSt _
  refine aw_iload_n hC 0 dX12_isLetter_0 rfl rfl ?_
  refine aw_bipush (v := 97) hC dX12_isLetter_1 (by decide) ?_
  refine aw_cut (S' := S) (pc' := 17) (lv' := [(0, .int a1)]) (st' := [.int (if a1 < (97 : Int32) then (0 : Int32) else (if (122 : Int32) < a1 then (0 : Int32) else (1 : Int32)))]) ?_ (fun Jc1 => ?_)
  · generalize ex3 : (if a1 < (97 : Int32) then (0 : Int32) else (if (122 : Int32) < a1 then (0 : Int32) else (1 : Int32))) = x3
    refine aw_zret hC dX12_isLetter_17 (Nat.le_refl _) (Nat.le_refl _) (Bz.n (ex3 ▸ (Bz.ite (Or.inl rfl) (Bz.ite (Or.inl rfl) (Or.inr rfl))))) ?_
    exact FP.pI ((bd_eq ex3).trans (rfl))
  · refine aw_icmp_lt hC 16 dX12_isLetter_3 (by decide) (fun c1 => ?_) (fun c1 => ?_)
    · refine aw_iconst (v := 0) hC dX12_isLetter_16 (by decide) ?_
      simp only [bd_def, if_pos c1] at Jc1 ⊢
      exact Jc1
    · refine aw_iload_n hC 0 dX12_isLetter_6 rfl rfl ?_
      refine aw_bipush (v := 122) hC dX12_isLetter_7 (by decide) ?_
      refine aw_icmp_gt hC 16 dX12_isLetter_9 (by decide) (fun c2 => ?_) (fun c2 => ?_)
      · refine aw_iconst (v := 0) hC dX12_isLetter_16 (by decide) ?_
        simp only [bd_def, if_neg c1, if_pos c2] at Jc1 ⊢
        exact Jc1
      · refine aw_iconst (v := 1) hC dX12_isLetter_12 (by decide) ?_
        refine aw_goto hC 17 dX12_isLetter_13 (by decide) ?_
        simp only [bd_def, if_neg c1, if_neg c2] at Jc1 ⊢
        exact Jc1
theorem b_X12_isLetter (S : HSt) (a1 : Int32) : Bz (f_X12_isLetter S a1) := by
  unfold f_X12_isLetter F_X12_isLetter
  (try dsimp only [bd])
  (repeat' split) <;> first | exact Or.inl rfl | exact Or.inr rfl
noncomputable def F_X12_isFigure (S : HSt) (a1 : Int32) : Int32 × HSt := bd ((if a1 < (48 : Int32) then (0 : Int32) else (if (57 : Int32) < a1 then (0 : Int32) else (1 : Int32)))) fun x3 => pr (x3) (S)
noncomputable def f_X12_isFigure (S : HSt) (a1 : Int32) : Int32 := (F_X12_isFigure S a1).1
set_option maxRecDepth 100000 in
theorem t_X12_isFigure (G : GG) (l : Launch) {S : HSt} (a1 : Int32)  : AM G l yX12_isFigure cX12_isFigure 1 (some .boolean) (rmD 0 0 0) 0 0 [.int a1] S (FP (some (.int (f_X12_isFigure S a1))) (S)) := by
  refine AM.mk (by decide) (Nat.le_of_ble_eq_true rfl) ?_
  intro p e s m below meth c hC hSt _
  refine aw_iload_n hC 0 dX12_isFigure_0 rfl rfl ?_
  refine aw_bipush (v := 48) hC dX12_isFigure_1 (by decide) ?_
  refine aw_cut (S' := S) (pc' := 17) (lv' := [(0, .int a1)]) (st' := [.int (if a1 < (48 : Int32) then (0 : Int32) else (if (57 : Int32) < a1 then (0 : Int32) else (1 : Int32)))]) ?_ (fun Jc1 => ?_)
  · generalize ex3 : (if a1 < (48 : Int32) then (0 : Int32) else (if (57 : Int32) < a1 then (0 : Int32) else (1 : Int32))) = x3
    refine aw_zret hC dX12_isFigure_17 (Nat.le_refl _) (Nat.le_refl _) (Bz.n (ex3 ▸ (Bz.ite (Or.inl rfl) (Bz.ite (Or.inl rfl) (Or.inr rfl))))) ?_
    exact FP.pI ((bd_eq ex3).trans (rfl))
  · refine aw_icmp_lt hC 16 dX12_isFigure_3 (by decide) (fun c1 => ?_) (fun c1 => ?_)
    · refine aw_iconst (v := 0) hC dX12_isFigure_16 (by decide) ?_
      simp only [bd_def, if_pos c1] at Jc1 ⊢
      exact Jc1
    · refine aw_iload_n hC 0 dX12_isFigure_6 rfl rfl ?_
      refine aw_bipush (v := 57) hC dX12_isFigure_7 (by decide) ?_
      refine aw_icmp_gt hC 16 dX12_isFigure_9 (by decide) (fun c2 => ?_) (fun c2 => ?_)
      · refine aw_iconst (v := 0) hC dX12_isFigure_16 (by decide) ?_
        simp only [bd_def, if_neg c1, if_pos c2] at Jc1 ⊢
        exact Jc1
      · refine aw_iconst (v := 1) hC dX12_isFigure_12 (by decide) ?_
        refine aw_goto hC 17 dX12_isFigure_13 (by decide) ?_
        simp only [bd_def, if_neg c1, if_neg c2] at Jc1 ⊢
        exact Jc1
theorem b_X12_isFigure (S : HSt) (a1 : Int32) : Bz (f_X12_isFigure S a1) := by
  unfold f_X12_isFigure F_X12_isFigure
  (try dsimp only [bd])
  (repeat' split) <;> first | exact Or.inl rfl | exact Or.inr rfl
noncomputable def L_X12_next_0 : Nat → HSt → HSt
  | 0, S => (S)
  | n + 1, S =>
    if (f_X12_byteAt S 64 (gI S 64 12)) = (32 : Int32) then (bd ((sI S 64 12 ((gI S 64 12) + (1 : Int32)))) fun S1002 => L_X12_next_0 n S1002 ) else (if (f_X12_byteAt S 64 (gI S 64 12)) = (10 : Int32) then (bd ((sI S 64 12 ((gI S 64 12) + (1 : Int32)))) fun S1004 => L_X12_next_0 n S1004 ) else (S))
def T_X12_next_0 : Nat → HSt → Prop
  | 0, _ => False
  | n + 1, S => (p_X12_byteAt S 64 (gI S 64 12)) ∧ (((f_X12_byteAt S 64 (gI S 64 12)) = (32 : Int32)) → ∀ S1002 : HSt, (sI S 64 12 ((gI S 64 12) + (1 : Int32))) = S1002 → T_X12_next_0 n S1002 ) ∧ ((¬ (f_X12_byteAt S 64 (gI S 64 12)) = (32 : Int32)) → p_X12_byteAt S 64 (gI S 64 12)) ∧ ((¬ (f_X12_byteAt S 64 (gI S 64 12)) = (32 : Int32)) → ((f_X12_byteAt S 64 (gI S 64 12)) = (10 : Int32)) → ∀ S1004 : HSt, (sI S 64 12 ((gI S 64 12) + (1 : Int32))) = S1004 → T_X12_next_0 n S1004 )
theorem qL_X12_next_0 : ∀ (n : Nat) (S : HSt) , shp (L_X12_next_0 n S ) = shp S := by
  intro n
  induction n with
  | zero => intros; rfl
  | succ n ih =>
    intro S 
    unfold L_X12_next_0
    repeat' (first | with_reducible rfl | with_reducible refine (ih _).trans ?_ | with_reducible refine (shp_sI _ _ _ _).trans ?_ | with_reducible refine (shp_sJ _ _ _ _).trans ?_ | with_reducible refine shi ?_ ?_ | with_reducible refine shb (fun _ _ => ?_) | (subst_vars; with_reducible rfl) | (subst_vars; with_reducible refine (ih _).trans ?_) | (subst_vars; with_reducible refine (shp_sI _ _ _ _).trans ?_) | (subst_vars; with_reducible refine (shp_sJ _ _ _ _).trans ?_) | (subst_vars; with_reducible refine shi ?_ ?_) | (subst_vars; with_reducible refine shb (fun _ _ => ?_)))
theorem vL_X12_next_0 : ∀ (n : Nat) (S : HSt) , Fr [(64, 12)] S (L_X12_next_0 n S ) := by
  intro n
  induction n with
  | zero => intros; exact Fr.refl _ _
  | succ n ih =>
    intro S 
    unfold L_X12_next_0
    repeat' (first | with_reducible exact Fr.refl _ _ | with_reducible refine Fr.l1 (fun _ _ => ?_) | with_reducible refine Fr.ite ?_ ?_ | with_reducible refine Fr.sE (by assumption) (by first | decide | simp only [List.mem_cons, List.not_mem_nil, or_false, true_or, or_true, eq_self_iff_true]) ?_ | with_reducible refine Fr.jE (by assumption) ?_ | with_reducible refine Fr.rE (by assumption) (by first | decide | simp only [List.mem_cons, List.not_mem_nil, or_false, true_or, or_true, eq_self_iff_true]) ?_ | with_reducible refine Fr.iE (by assumption) ?_ ?_ | with_reducible refine Fr.tr (ih _) (by first | decide | simp only [List.mem_cons, List.not_mem_nil, or_false, forall_eq_or_imp, forall_eq, true_or, or_true, and_self, eq_self_iff_true]) ?_)
theorem wL_X12_next_0 (n : Nat) (S : HSt)  (r : HSt) (e : L_X12_next_0 n S  = r) : Fr [(64, 12)] S r := by
  rw [← e]
  exact vL_X12_next_0 n S 
set_option maxRecDepth 100000 in
theorem l_X12_next_0 {p : Program} {l : Launch} {e : Env} {s : State} {m : MethodId} {args : Array Value} {below : List Frame} {meth : Method} {c : Code} {G : GG} {Q : State → Prop} (hC : ACx p s m args meth c cX12_next RX12 2 none) (hSt : St G s)  : ∀ (n : Nat) (S : HSt) , MS S → T_X12_next_0 n S  → AW p l e (rmD 1 0 0) s m args below meth c G 2 Q (L_X12_next_0 n S ) 0 0 39 [(0, .ref 64)] [] → AW p l e (rmD 1 0 0) s m args below meth c G 2 Q S 0 0 0 [(0, .ref 64)] [] := by
  intro n
  induction n with
  | zero => intro S  _ hT; exact hT.elim
  | succ n ih =>
    intro S  hM hT hk
    unfold T_X12_next_0 at hT
    obtain ⟨h0, h1, h2, h3⟩ := hT
    refine aw_aload_n hC 0 dX12_next_0 rfl rfl ?_
    refine aw_aload_n hC 0 dX12_next_1 rfl rfl ?_
    refine aw_getI hC hSt 12 (ms_lt 64 (by decide) hM) (ms_k 64 12 0 (by decide) hM) rfl (by decide) w_976 rfl dX12_next_2 ?_
    refine aw_cV1r hC hSt (t_X12_byteAt G l hM _ (h0)) w_971 w_980 w_981 w_982 w_953 rfl rfl (by decide +kernel) ⟨Nat.le_of_ble_eq_true rfl, Nat.le_of_ble_eq_true rfl⟩ (ms_lt 64 (by decide) hM) (ms_k 64 12 0 (by decide) hM) rfl (Nat.le_of_ble_eq_true rfl) dX12_next_5 ⟨Nat.zero_le _, Nat.zero_le _⟩ ?_
    refine aw_bipush (v := 32) hC dX12_next_8 (by decide) ?_
    refine aw_icmp_eq hC 26 dX12_next_10 (by decide) (fun c1001 => ?_) (fun c1001 => ?_)
    · refine aw_aload_n hC 0 dX12_next_26 rfl rfl ?_
      refine aw_dup hC dX12_next_27 rfl ?_
      refine aw_getI hC hSt 12 (ms_lt 64 (by decide) hM) (ms_k 64 12 0 (by decide) hM) rfl (by decide) w_976 rfl dX12_next_28 ?_
      refine aw_iconst (v := 1) hC dX12_next_31 (by decide) ?_
      refine aw_iadd hC dX12_next_32 ?_
      refine aw_putI hC hSt 12 (ms_lt 64 (by decide) hM) (ms_k 64 12 0 (by decide) hM) rfl (by decide) w_976 rfl rfl rfl rfl dX12_next_33 ?_
      generalize eS1002 : (sI S 64 12 ((gI S 64 12) + (1 : Int32))) = S1002
      have hM : MS S1002 := MS.of (by rw [← eS1002]; exact shp_sI _ _ _ _) hM
      refine aw_goto hC 0 dX12_next_36 (by decide) ?_
      refine aw_sub [0] rfl ?_
      have hTn := (h1 c1001 S1002 eS1002)
      have hMn : MS S1002 := hM
      have E : L_X12_next_0 (n + 1) S  = _ := (if_pos c1001).trans ((bd_eq eS1002).trans (rfl))
      rw [E] at hk
      exact ih _ hMn hTn hk
    · refine aw_aload_n hC 0 dX12_next_13 rfl rfl ?_
      refine aw_aload_n hC 0 dX12_next_14 rfl rfl ?_
      refine aw_getI hC hSt 12 (ms_lt 64 (by decide) hM) (ms_k 64 12 0 (by decide) hM) rfl (by decide) w_976 rfl dX12_next_15 ?_
      refine aw_cV1r hC hSt (t_X12_byteAt G l hM _ (h2 c1001)) w_971 w_980 w_981 w_982 w_953 rfl rfl (by decide +kernel) ⟨Nat.le_of_ble_eq_true rfl, Nat.le_of_ble_eq_true rfl⟩ (ms_lt 64 (by decide) hM) (ms_k 64 12 0 (by decide) hM) rfl (Nat.le_of_ble_eq_true rfl) dX12_next_18 ⟨Nat.zero_le _, Nat.zero_le _⟩ ?_
      refine aw_bipush (v := 10) hC dX12_next_21 (by decide) ?_
      refine aw_icmp_ne hC 39 dX12_next_23 (by decide) (fun c1003 => ?_) (fun c1003 => ?_)
      · refine aw_sub [0] rfl ?_
        have E : L_X12_next_0 (n + 1) S  = _ := (if_neg c1001).trans ((if_neg c1003).trans (rfl))
        rw [E] at hk
        exact hk
      · refine aw_aload_n hC 0 dX12_next_26 rfl rfl ?_
        refine aw_dup hC dX12_next_27 rfl ?_
        refine aw_getI hC hSt 12 (ms_lt 64 (by decide) hM) (ms_k 64 12 0 (by decide) hM) rfl (by decide) w_976 rfl dX12_next_28 ?_
        refine aw_iconst (v := 1) hC dX12_next_31 (by decide) ?_
        refine aw_iadd hC dX12_next_32 ?_
        refine aw_putI hC hSt 12 (ms_lt 64 (by decide) hM) (ms_k 64 12 0 (by decide) hM) rfl (by decide) w_976 rfl rfl rfl rfl dX12_next_33 ?_
        generalize eS1004 : (sI S 64 12 ((gI S 64 12) + (1 : Int32))) = S1004
        have hM : MS S1004 := MS.of (by rw [← eS1004]; exact shp_sI _ _ _ _) hM
        refine aw_goto hC 0 dX12_next_36 (by decide) ?_
        refine aw_sub [0] rfl ?_
        have hTn := (h3 c1001 c1003 S1004 eS1004)
        have hMn : MS S1004 := hM
        have E : L_X12_next_0 (n + 1) S  = _ := (if_neg c1001).trans ((if_pos c1003).trans ((bd_eq eS1004).trans (rfl)))
        rw [E] at hk
        exact ih _ hMn hTn hk
noncomputable def L_X12_next_119 : Nat → HSt → Int32 → Int32 × HSt
  | 0, S, v1 => (v1, S)
  | n + 1, S, v1 =>
    if (f_X12_isFigure S (f_X12_byteAt S 64 (gI S 64 12))) = 0 then ((pr (v1) (S))) else (bd ((sI S 64 12 ((gI S 64 12) + (1 : Int32)))) fun S1012 => L_X12_next_119 n S1012 v1)
def T_X12_next_119 : Nat → HSt → Int32 → Prop
  | 0, _, _ => False
  | n + 1, S, v1 => (p_X12_byteAt S 64 (gI S 64 12)) ∧ ((¬ (f_X12_isFigure S (f_X12_byteAt S 64 (gI S 64 12))) = 0) → ∀ S1012 : HSt, (sI S 64 12 ((gI S 64 12) + (1 : Int32))) = S1012 → T_X12_next_119 n S1012 v1)
theorem qL_X12_next_119 : ∀ (n : Nat) (S : HSt) (v1 : Int32), shp (L_X12_next_119 n S v1).2 = shp S := by
  intro n
  induction n with
  | zero => intros; rfl
  | succ n ih =>
    intro S v1
    unfold L_X12_next_119
    repeat' (first | with_reducible refine shpr1 ?_ | with_reducible rfl | with_reducible refine (ih _ _).trans ?_ | with_reducible refine (qL_X12_next_0 _ _).trans ?_ | with_reducible refine (shp_sI _ _ _ _).trans ?_ | with_reducible refine (shp_sJ _ _ _ _).trans ?_ | with_reducible refine shi ?_ ?_ | with_reducible refine shb (fun _ _ => ?_) | with_reducible refine shiP (fun q : Int32 × HSt => q.2) ?_ ?_ | with_reducible refine shbP (fun q : Int32 × HSt => q.2) (fun _ _ => ?_) | (subst_vars; with_reducible rfl) | (subst_vars; with_reducible refine (ih _ _).trans ?_) | (subst_vars; with_reducible refine (qL_X12_next_0 _ _).trans ?_) | (subst_vars; with_reducible refine (shp_sI _ _ _ _).trans ?_) | (subst_vars; with_reducible refine (shp_sJ _ _ _ _).trans ?_) | (subst_vars; with_reducible refine shi ?_ ?_) | (subst_vars; with_reducible refine shb (fun _ _ => ?_)))
theorem vL_X12_next_119 : ∀ (n : Nat) (S : HSt) (v1 : Int32), Fr [(64, 12)] S (L_X12_next_119 n S v1).2 := by
  intro n
  induction n with
  | zero => intros; exact Fr.refl _ _
  | succ n ih =>
    intro S v1
    unfold L_X12_next_119
    repeat' (first | with_reducible refine frpr1 ?_ | with_reducible exact Fr.refl _ _ | with_reducible refine Fr.lP (fun q : Int32 × HSt => q.2) (fun _ _ => ?_) | with_reducible refine Fr.iteP (fun q : Int32 × HSt => q.2) ?_ ?_ | with_reducible refine Fr.l1 (fun _ _ => ?_) | with_reducible refine Fr.ite ?_ ?_ | with_reducible refine Fr.sE (by assumption) (by first | decide | simp only [List.mem_cons, List.not_mem_nil, or_false, true_or, or_true, eq_self_iff_true]) ?_ | with_reducible refine Fr.jE (by assumption) ?_ | with_reducible refine Fr.rE (by assumption) (by first | decide | simp only [List.mem_cons, List.not_mem_nil, or_false, true_or, or_true, eq_self_iff_true]) ?_ | with_reducible refine Fr.iE (by assumption) ?_ ?_ | with_reducible refine Fr.tr (ih _ _) (by first | decide | simp only [List.mem_cons, List.not_mem_nil, or_false, forall_eq_or_imp, forall_eq, true_or, or_true, and_self, eq_self_iff_true]) ?_ | with_reducible refine Fr.tr (wL_X12_next_0 _ _ _ (by assumption)) (by first | decide | simp only [List.mem_cons, List.not_mem_nil, or_false, forall_eq_or_imp, forall_eq, true_or, or_true, and_self, eq_self_iff_true]) ?_)
theorem wL_X12_next_119 (n : Nat) (S : HSt) (v1 : Int32) (r : Int32 × HSt) (e : L_X12_next_119 n S v1 = r) : Fr [(64, 12)] S r.2 := by
  rw [← e]
  exact vL_X12_next_119 n S v1
set_option maxRecDepth 100000 in
theorem l_X12_next_119 {p : Program} {l : Launch} {e : Env} {s : State} {m : MethodId} {args : Array Value} {below : List Frame} {meth : Method} {c : Code} {G : GG} {Q : State → Prop} (hC : ACx p s m args meth c cX12_next RX12 2 none) (hSt : St G s)  : ∀ (n : Nat) (S : HSt) (v1 : Int32), MS S → T_X12_next_119 n S v1 → AW p l e (rmD 1 0 0) s m args below meth c G 2 Q (L_X12_next_119 n S v1).2 0 0 146 [(0, .ref 64), (1, .int (L_X12_next_119 n S v1).1)] [] → AW p l e (rmD 1 0 0) s m args below meth c G 2 Q S 0 0 119 [(0, .ref 64), (1, .int v1)] [] := by
  intro n
  induction n with
  | zero => intro S v1 _ hT; exact hT.elim
  | succ n ih =>
    intro S v1 hM hT hk
    unfold T_X12_next_119 at hT
    obtain ⟨h0, h1⟩ := hT
    refine aw_aload_n hC 0 dX12_next_119 rfl rfl ?_
    refine aw_aload_n hC 0 dX12_next_120 rfl rfl ?_
    refine aw_getI hC hSt 12 (ms_lt 64 (by decide) hM) (ms_k 64 12 0 (by decide) hM) rfl (by decide) w_976 rfl dX12_next_121 ?_
    refine aw_cV1r hC hSt (t_X12_byteAt G l hM _ (h0)) w_971 w_980 w_981 w_982 w_953 rfl rfl (by decide +kernel) ⟨Nat.le_of_ble_eq_true rfl, Nat.le_of_ble_eq_true rfl⟩ (ms_lt 64 (by decide) hM) (ms_k 64 12 0 (by decide) hM) rfl (Nat.le_of_ble_eq_true rfl) dX12_next_124 ⟨Nat.zero_le _, Nat.zero_le _⟩ ?_
    refine aw_cS1r hC hSt (t_X12_isFigure G l  _) w_974 w_985 w_986 w_953 rfl rfl (by decide +kernel) ⟨Nat.le_of_ble_eq_true rfl, Nat.le_of_ble_eq_true rfl⟩ (Nat.le_of_ble_eq_true rfl) dX12_next_127 ⟨Nat.zero_le _, Nat.zero_le _⟩ ?_
    refine aw_if_eq hC 146 dX12_next_130 (by decide) (fun c1011 => ?_) (fun c1011 => ?_)
    · refine aw_sub [0, 1] rfl ?_
      have E : L_X12_next_119 (n + 1) S v1 = _ := (if_pos c1011).trans (rfl)
      rw [E] at hk
      exact hk
    · refine aw_aload_n hC 0 dX12_next_133 rfl rfl ?_
      refine aw_dup hC dX12_next_134 rfl ?_
      refine aw_getI hC hSt 12 (ms_lt 64 (by decide) hM) (ms_k 64 12 0 (by decide) hM) rfl (by decide) w_976 rfl dX12_next_135 ?_
      refine aw_iconst (v := 1) hC dX12_next_138 (by decide) ?_
      refine aw_iadd hC dX12_next_139 ?_
      refine aw_putI hC hSt 12 (ms_lt 64 (by decide) hM) (ms_k 64 12 0 (by decide) hM) rfl (by decide) w_976 rfl rfl rfl rfl dX12_next_140 ?_
      generalize eS1012 : (sI S 64 12 ((gI S 64 12) + (1 : Int32))) = S1012
      have hM : MS S1012 := MS.of (by rw [← eS1012]; exact shp_sI _ _ _ _) hM
      refine aw_goto hC 119 dX12_next_143 (by decide) ?_
      refine aw_sub [0, 1] rfl ?_
      have hTn := (h1 c1011 S1012 eS1012)
      have hMn : MS S1012 := hM
      have E : L_X12_next_119 (n + 1) S v1 = _ := (if_neg c1011).trans ((bd_eq eS1012).trans (rfl))
      rw [E] at hk
      exact ih _ _ hMn hTn hk
noncomputable def L_X12_next_77 : Nat → HSt → Int32 → Int32 × HSt
  | 0, S, v1 => (v1, S)
  | n + 1, S, v1 =>
    if (f_X12_isLetter S (f_X12_byteAt S 64 (gI S 64 12))) = 0 then ((pr (v1) (S))) else (bd ((sI S 64 12 ((gI S 64 12) + (1 : Int32)))) fun S1016 => L_X12_next_77 n S1016 v1)
def T_X12_next_77 : Nat → HSt → Int32 → Prop
  | 0, _, _ => False
  | n + 1, S, v1 => (p_X12_byteAt S 64 (gI S 64 12)) ∧ ((¬ (f_X12_isLetter S (f_X12_byteAt S 64 (gI S 64 12))) = 0) → ∀ S1016 : HSt, (sI S 64 12 ((gI S 64 12) + (1 : Int32))) = S1016 → T_X12_next_77 n S1016 v1)
theorem qL_X12_next_77 : ∀ (n : Nat) (S : HSt) (v1 : Int32), shp (L_X12_next_77 n S v1).2 = shp S := by
  intro n
  induction n with
  | zero => intros; rfl
  | succ n ih =>
    intro S v1
    unfold L_X12_next_77
    repeat' (first | with_reducible refine shpr1 ?_ | with_reducible rfl | with_reducible refine (ih _ _).trans ?_ | with_reducible refine (qL_X12_next_0 _ _).trans ?_ | with_reducible refine (qL_X12_next_119 _ _ _).trans ?_ | with_reducible refine (shp_sI _ _ _ _).trans ?_ | with_reducible refine (shp_sJ _ _ _ _).trans ?_ | with_reducible refine shi ?_ ?_ | with_reducible refine shb (fun _ _ => ?_) | with_reducible refine shiP (fun q : Int32 × HSt => q.2) ?_ ?_ | with_reducible refine shbP (fun q : Int32 × HSt => q.2) (fun _ _ => ?_) | (subst_vars; with_reducible rfl) | (subst_vars; with_reducible refine (ih _ _).trans ?_) | (subst_vars; with_reducible refine (qL_X12_next_0 _ _).trans ?_) | (subst_vars; with_reducible refine (qL_X12_next_119 _ _ _).trans ?_) | (subst_vars; with_reducible refine (shp_sI _ _ _ _).trans ?_) | (subst_vars; with_reducible refine (shp_sJ _ _ _ _).trans ?_) | (subst_vars; with_reducible refine shi ?_ ?_) | (subst_vars; with_reducible refine shb (fun _ _ => ?_)))
theorem vL_X12_next_77 : ∀ (n : Nat) (S : HSt) (v1 : Int32), Fr [(64, 12)] S (L_X12_next_77 n S v1).2 := by
  intro n
  induction n with
  | zero => intros; exact Fr.refl _ _
  | succ n ih =>
    intro S v1
    unfold L_X12_next_77
    repeat' (first | with_reducible refine frpr1 ?_ | with_reducible exact Fr.refl _ _ | with_reducible refine Fr.lP (fun q : Int32 × HSt => q.2) (fun _ _ => ?_) | with_reducible refine Fr.iteP (fun q : Int32 × HSt => q.2) ?_ ?_ | with_reducible refine Fr.l1 (fun _ _ => ?_) | with_reducible refine Fr.ite ?_ ?_ | with_reducible refine Fr.sE (by assumption) (by first | decide | simp only [List.mem_cons, List.not_mem_nil, or_false, true_or, or_true, eq_self_iff_true]) ?_ | with_reducible refine Fr.jE (by assumption) ?_ | with_reducible refine Fr.rE (by assumption) (by first | decide | simp only [List.mem_cons, List.not_mem_nil, or_false, true_or, or_true, eq_self_iff_true]) ?_ | with_reducible refine Fr.iE (by assumption) ?_ ?_ | with_reducible refine Fr.tr (ih _ _) (by first | decide | simp only [List.mem_cons, List.not_mem_nil, or_false, forall_eq_or_imp, forall_eq, true_or, or_true, and_self, eq_self_iff_true]) ?_ | with_reducible refine Fr.tr (wL_X12_next_0 _ _ _ (by assumption)) (by first | decide | simp only [List.mem_cons, List.not_mem_nil, or_false, forall_eq_or_imp, forall_eq, true_or, or_true, and_self, eq_self_iff_true]) ?_ | with_reducible refine Fr.tr (wL_X12_next_119 _ _ _ _ (by assumption)) (by first | decide | simp only [List.mem_cons, List.not_mem_nil, or_false, forall_eq_or_imp, forall_eq, true_or, or_true, and_self, eq_self_iff_true]) ?_)
theorem wL_X12_next_77 (n : Nat) (S : HSt) (v1 : Int32) (r : Int32 × HSt) (e : L_X12_next_77 n S v1 = r) : Fr [(64, 12)] S r.2 := by
  rw [← e]
  exact vL_X12_next_77 n S v1
set_option maxRecDepth 100000 in
theorem l_X12_next_77 {p : Program} {l : Launch} {e : Env} {s : State} {m : MethodId} {args : Array Value} {below : List Frame} {meth : Method} {c : Code} {G : GG} {Q : State → Prop} (hC : ACx p s m args meth c cX12_next RX12 2 none) (hSt : St G s)  : ∀ (n : Nat) (S : HSt) (v1 : Int32), MS S → T_X12_next_77 n S v1 → AW p l e (rmD 1 0 0) s m args below meth c G 2 Q (L_X12_next_77 n S v1).2 0 0 104 [(0, .ref 64), (1, .int (L_X12_next_77 n S v1).1)] [] → AW p l e (rmD 1 0 0) s m args below meth c G 2 Q S 0 0 77 [(0, .ref 64), (1, .int v1)] [] := by
  intro n
  induction n with
  | zero => intro S v1 _ hT; exact hT.elim
  | succ n ih =>
    intro S v1 hM hT hk
    unfold T_X12_next_77 at hT
    obtain ⟨h0, h1⟩ := hT
    refine aw_aload_n hC 0 dX12_next_77 rfl rfl ?_
    refine aw_aload_n hC 0 dX12_next_78 rfl rfl ?_
    refine aw_getI hC hSt 12 (ms_lt 64 (by decide) hM) (ms_k 64 12 0 (by decide) hM) rfl (by decide) w_976 rfl dX12_next_79 ?_
    refine aw_cV1r hC hSt (t_X12_byteAt G l hM _ (h0)) w_971 w_980 w_981 w_982 w_953 rfl rfl (by decide +kernel) ⟨Nat.le_of_ble_eq_true rfl, Nat.le_of_ble_eq_true rfl⟩ (ms_lt 64 (by decide) hM) (ms_k 64 12 0 (by decide) hM) rfl (Nat.le_of_ble_eq_true rfl) dX12_next_82 ⟨Nat.zero_le _, Nat.zero_le _⟩ ?_
    refine aw_cS1r hC hSt (t_X12_isLetter G l  _) w_973 w_983 w_984 w_953 rfl rfl (by decide +kernel) ⟨Nat.le_of_ble_eq_true rfl, Nat.le_of_ble_eq_true rfl⟩ (Nat.le_of_ble_eq_true rfl) dX12_next_85 ⟨Nat.zero_le _, Nat.zero_le _⟩ ?_
    refine aw_if_eq hC 104 dX12_next_88 (by decide) (fun c1015 => ?_) (fun c1015 => ?_)
    · refine aw_sub [0, 1] rfl ?_
      have E : L_X12_next_77 (n + 1) S v1 = _ := (if_pos c1015).trans (rfl)
      rw [E] at hk
      exact hk
    · refine aw_aload_n hC 0 dX12_next_91 rfl rfl ?_
      refine aw_dup hC dX12_next_92 rfl ?_
      refine aw_getI hC hSt 12 (ms_lt 64 (by decide) hM) (ms_k 64 12 0 (by decide) hM) rfl (by decide) w_976 rfl dX12_next_93 ?_
      refine aw_iconst (v := 1) hC dX12_next_96 (by decide) ?_
      refine aw_iadd hC dX12_next_97 ?_
      refine aw_putI hC hSt 12 (ms_lt 64 (by decide) hM) (ms_k 64 12 0 (by decide) hM) rfl (by decide) w_976 rfl rfl rfl rfl dX12_next_98 ?_
      generalize eS1016 : (sI S 64 12 ((gI S 64 12) + (1 : Int32))) = S1016
      have hM : MS S1016 := MS.of (by rw [← eS1016]; exact shp_sI _ _ _ _) hM
      refine aw_goto hC 77 dX12_next_101 (by decide) ?_
      refine aw_sub [0, 1] rfl ?_
      have hTn := (h1 c1015 S1016 eS1016)
      have hMn : MS S1016 := hM
      have E : L_X12_next_77 (n + 1) S v1 = _ := (if_neg c1015).trans ((bd_eq eS1016).trans (rfl))
      rw [E] at hk
      exact ih _ _ hMn hTn hk
noncomputable def f_X12_next (S : HSt) (_o : Nat)  : HSt := bd (L_X12_next_0 1000 S ) fun r1 => bd ((sI r1 64 14 (gI r1 64 12))) fun S2 => bd ((f_X12_byteAt S2 64 (gI S2 64 12))) fun x3 => bd ((if x3 = (-1000000 : Int32) then (bd ((sI S2 64 13 (1 : Int32))) fun S17 => x3) else (if (f_X12_isLetter S2 x3) = 0 then (if (f_X12_isFigure S2 x3) = 0 then (bd ((sI S2 64 12 ((gI S2 64 12) + (1 : Int32)))) fun S7 => bd ((if x3 = (59 : Int32) then (4 : Int32) else (0 : Int32))) fun x9 => bd ((sI S7 64 13 x9)) fun S10 => x3) else (bd (L_X12_next_119 1000 S2 x3) fun r11 => bd ((if ((gI r11.2 64 12) - (gI r11.2 64 14)) ≤ (3 : Int32) then (3 : Int32) else (0 : Int32))) fun x13 => bd ((sI r11.2 64 13 x13)) fun S14 => r11.1)) else (bd (L_X12_next_77 1000 S2 x3) fun r15 => bd ((sI r15.2 64 13 (2 : Int32))) fun S16 => r15.1)))) fun x18 => bd ((if x3 = (-1000000 : Int32) then (bd ((sI S2 64 13 (1 : Int32))) fun S17 => S17) else (if (f_X12_isLetter S2 x3) = 0 then (if (f_X12_isFigure S2 x3) = 0 then (bd ((sI S2 64 12 ((gI S2 64 12) + (1 : Int32)))) fun S7 => bd ((if x3 = (59 : Int32) then (4 : Int32) else (0 : Int32))) fun x9 => bd ((sI S7 64 13 x9)) fun S10 => S10) else (bd (L_X12_next_119 1000 S2 x3) fun r11 => bd ((if ((gI r11.2 64 12) - (gI r11.2 64 14)) ≤ (3 : Int32) then (3 : Int32) else (0 : Int32))) fun x13 => bd ((sI r11.2 64 13 x13)) fun S14 => S14)) else (bd (L_X12_next_77 1000 S2 x3) fun r15 => bd ((sI r15.2 64 13 (2 : Int32))) fun S16 => S16)))) fun S19 => bd ((sI S19 64 15 (gI S19 64 12))) fun S20 => S20
def p_X12_next (S : HSt) (_o : Nat)  : Prop := (T_X12_next_0 1000 S ) ∧ (∀ r1, L_X12_next_0 1000 S  = r1 → ∀ S2 : HSt, (sI r1 64 14 (gI r1 64 12)) = S2 → p_X12_byteAt S2 64 (gI S2 64 12)) ∧ (∀ r1, L_X12_next_0 1000 S  = r1 → ∀ S2 : HSt, (sI r1 64 14 (gI r1 64 12)) = S2 → ∀ x3 : Int32, (f_X12_byteAt S2 64 (gI S2 64 12)) = x3 → (¬ x3 = (-1000000 : Int32)) → ((f_X12_isLetter S2 x3) = 0) → (¬ (f_X12_isFigure S2 x3) = 0) → T_X12_next_119 1000 S2 x3) ∧ (∀ r1, L_X12_next_0 1000 S  = r1 → ∀ S2 : HSt, (sI r1 64 14 (gI r1 64 12)) = S2 → ∀ x3 : Int32, (f_X12_byteAt S2 64 (gI S2 64 12)) = x3 → (¬ x3 = (-1000000 : Int32)) → (¬ (f_X12_isLetter S2 x3) = 0) → T_X12_next_77 1000 S2 x3)
set_option maxRecDepth 100000 in
theorem t_X12_next (G : GG) (l : Launch) {S : HSt} (hM : MS S)  (hp : p_X12_next S 64) : AM G l yX12_next cX12_next 2 none (rmD 1 0 0) 0 0 [.ref 64] S (FP none (f_X12_next S 64)) := by
  obtain ⟨h0, h1, h2, h3⟩ := hp
  refine AM.mk (by decide) (Nat.le_of_ble_eq_true rfl) ?_
  intro p e s m below meth c hC hSt _
  refine aw_sub [0] rfl ?_
  refine l_X12_next_0 hC hSt 1000 _ hM (h0) ?_
  generalize er1 : L_X12_next_0 1000 S  = r1
  have hM : MS r1 := MS.of (by rw [← er1]; exact qL_X12_next_0 _ _) hM
  refine aw_aload_n hC 0 dX12_next_39 rfl rfl ?_
  refine aw_aload_n hC 0 dX12_next_40 rfl rfl ?_
  refine aw_getI hC hSt 12 (ms_lt 64 (by decide) hM) (ms_k 64 12 0 (by decide) hM) rfl (by decide) w_976 rfl dX12_next_41 ?_
  refine aw_putI hC hSt 14 (ms_lt 64 (by decide) hM) (ms_k 64 12 0 (by decide) hM) rfl (by decide) w_977 rfl rfl rfl rfl dX12_next_44 ?_
  generalize eS2 : (sI r1 64 14 (gI r1 64 12)) = S2
  have hM : MS S2 := MS.of (by rw [← eS2]; exact shp_sI _ _ _ _) hM
  refine aw_aload_n hC 0 dX12_next_47 rfl rfl ?_
  refine aw_aload_n hC 0 dX12_next_48 rfl rfl ?_
  refine aw_getI hC hSt 12 (ms_lt 64 (by decide) hM) (ms_k 64 12 0 (by decide) hM) rfl (by decide) w_976 rfl dX12_next_49 ?_
  refine aw_cV1r hC hSt (t_X12_byteAt G l hM _ (h1 r1 er1 S2 eS2)) w_971 w_980 w_981 w_982 w_953 rfl rfl (by decide +kernel) ⟨Nat.le_of_ble_eq_true rfl, Nat.le_of_ble_eq_true rfl⟩ (ms_lt 64 (by decide) hM) (ms_k 64 12 0 (by decide) hM) rfl (Nat.le_of_ble_eq_true rfl) dX12_next_52 ⟨Nat.zero_le _, Nat.zero_le _⟩ ?_
  refine aw_istore_n hC [(1, .int _), (0, .ref 64)] dX12_next_55 rfl (by decide) rfl ?_
  generalize ex3 : (f_X12_byteAt S2 64 (gI S2 64 12)) = x3
  refine aw_iload_n hC 0 dX12_next_56 rfl rfl ?_
  refine aw_ldc (v := -1000000) hC w_923 dX12_next_57 ?_
  refine aw_cut (S' := (if x3 = (-1000000 : Int32) then (bd ((sI S2 64 13 (1 : Int32))) fun S17 => S17) else (if (f_X12_isLetter S2 x3) = 0 then (if (f_X12_isFigure S2 x3) = 0 then (bd ((sI S2 64 12 ((gI S2 64 12) + (1 : Int32)))) fun S7 => bd ((if x3 = (59 : Int32) then (4 : Int32) else (0 : Int32))) fun x9 => bd ((sI S7 64 13 x9)) fun S10 => S10) else (bd (L_X12_next_119 1000 S2 x3) fun r11 => bd ((if ((gI r11.2 64 12) - (gI r11.2 64 14)) ≤ (3 : Int32) then (3 : Int32) else (0 : Int32))) fun x13 => bd ((sI r11.2 64 13 x13)) fun S14 => S14)) else (bd (L_X12_next_77 1000 S2 x3) fun r15 => bd ((sI r15.2 64 13 (2 : Int32))) fun S16 => S16)))) (pc' := 196) (lv' := [(1, .int (if x3 = (-1000000 : Int32) then (bd ((sI S2 64 13 (1 : Int32))) fun S17 => x3) else (if (f_X12_isLetter S2 x3) = 0 then (if (f_X12_isFigure S2 x3) = 0 then (bd ((sI S2 64 12 ((gI S2 64 12) + (1 : Int32)))) fun S7 => bd ((if x3 = (59 : Int32) then (4 : Int32) else (0 : Int32))) fun x9 => bd ((sI S7 64 13 x9)) fun S10 => x3) else (bd (L_X12_next_119 1000 S2 x3) fun r11 => bd ((if ((gI r11.2 64 12) - (gI r11.2 64 14)) ≤ (3 : Int32) then (3 : Int32) else (0 : Int32))) fun x13 => bd ((sI r11.2 64 13 x13)) fun S14 => r11.1)) else (bd (L_X12_next_77 1000 S2 x3) fun r15 => bd ((sI r15.2 64 13 (2 : Int32))) fun S16 => r15.1)))), (0, .ref 64)]) (st' := []) ?_ (fun Jc4 => ?_)
  · generalize ex18 : (if x3 = (-1000000 : Int32) then (bd ((sI S2 64 13 (1 : Int32))) fun S17 => x3) else (if (f_X12_isLetter S2 x3) = 0 then (if (f_X12_isFigure S2 x3) = 0 then (bd ((sI S2 64 12 ((gI S2 64 12) + (1 : Int32)))) fun S7 => bd ((if x3 = (59 : Int32) then (4 : Int32) else (0 : Int32))) fun x9 => bd ((sI S7 64 13 x9)) fun S10 => x3) else (bd (L_X12_next_119 1000 S2 x3) fun r11 => bd ((if ((gI r11.2 64 12) - (gI r11.2 64 14)) ≤ (3 : Int32) then (3 : Int32) else (0 : Int32))) fun x13 => bd ((sI r11.2 64 13 x13)) fun S14 => r11.1)) else (bd (L_X12_next_77 1000 S2 x3) fun r15 => bd ((sI r15.2 64 13 (2 : Int32))) fun S16 => r15.1))) = x18
    generalize eS19 : (if x3 = (-1000000 : Int32) then (bd ((sI S2 64 13 (1 : Int32))) fun S17 => S17) else (if (f_X12_isLetter S2 x3) = 0 then (if (f_X12_isFigure S2 x3) = 0 then (bd ((sI S2 64 12 ((gI S2 64 12) + (1 : Int32)))) fun S7 => bd ((if x3 = (59 : Int32) then (4 : Int32) else (0 : Int32))) fun x9 => bd ((sI S7 64 13 x9)) fun S10 => S10) else (bd (L_X12_next_119 1000 S2 x3) fun r11 => bd ((if ((gI r11.2 64 12) - (gI r11.2 64 14)) ≤ (3 : Int32) then (3 : Int32) else (0 : Int32))) fun x13 => bd ((sI r11.2 64 13 x13)) fun S14 => S14)) else (bd (L_X12_next_77 1000 S2 x3) fun r15 => bd ((sI r15.2 64 13 (2 : Int32))) fun S16 => S16))) = S19
    have hM : MS S19 := MS.of (by rw [← eS19]; repeat' (first | with_reducible rfl | with_reducible refine (qL_X12_next_0 _ _).trans ?_ | with_reducible refine (qL_X12_next_119 _ _ _).trans ?_ | with_reducible refine (qL_X12_next_77 _ _ _).trans ?_ | with_reducible refine (shp_sI _ _ _ _).trans ?_ | with_reducible refine (shp_sJ _ _ _ _).trans ?_ | with_reducible refine shi ?_ ?_ | with_reducible refine shb (fun _ _ => ?_) | (subst_vars; with_reducible rfl) | (subst_vars; with_reducible refine (qL_X12_next_0 _ _).trans ?_) | (subst_vars; with_reducible refine (qL_X12_next_119 _ _ _).trans ?_) | (subst_vars; with_reducible refine (qL_X12_next_77 _ _ _).trans ?_) | (subst_vars; with_reducible refine (shp_sI _ _ _ _).trans ?_) | (subst_vars; with_reducible refine (shp_sJ _ _ _ _).trans ?_) | (subst_vars; with_reducible refine shi ?_ ?_) | (subst_vars; with_reducible refine shb (fun _ _ => ?_)))) hM
    refine aw_aload_n hC 1 dX12_next_196 rfl rfl ?_
    refine aw_aload_n hC 1 dX12_next_197 rfl rfl ?_
    refine aw_getI hC hSt 12 (ms_lt 64 (by decide) hM) (ms_k 64 12 0 (by decide) hM) rfl (by decide) w_976 rfl dX12_next_198 ?_
    refine aw_putI hC hSt 15 (ms_lt 64 (by decide) hM) (ms_k 64 12 0 (by decide) hM) rfl (by decide) w_979 rfl rfl rfl rfl dX12_next_201 ?_
    generalize eS20 : (sI S19 64 15 (gI S19 64 12)) = S20
    have hM : MS S20 := MS.of (by rw [← eS20]; exact shp_sI _ _ _ _) hM
    refine aw_vret hC dX12_next_204 (Nat.le_refl _) (Nat.le_refl _) ?_
    exact FP.qV ((bd_eq er1).trans ((bd_eq eS2).trans ((bd_eq ex3).trans ((bd_eq ex18).trans ((bd_eq eS19).trans ((bd_eq eS20).trans (rfl)))))))
  · refine aw_icmp_ne hC 70 dX12_next_59 (by decide) (fun c4 => ?_) (fun c4 => ?_)
    · refine aw_iload_n hC 0 dX12_next_70 rfl rfl ?_
      refine aw_cS1r hC hSt (t_X12_isLetter G l  _) w_973 w_983 w_984 w_953 rfl rfl (by decide +kernel) ⟨Nat.le_of_ble_eq_true rfl, Nat.le_of_ble_eq_true rfl⟩ (Nat.le_of_ble_eq_true rfl) dX12_next_71 ⟨Nat.zero_le _, Nat.zero_le _⟩ ?_
      refine aw_if_eq hC 112 dX12_next_74 (by decide) (fun c5 => ?_) (fun c5 => ?_)
      · refine aw_iload_n hC 0 dX12_next_112 rfl rfl ?_
        refine aw_cS1r hC hSt (t_X12_isFigure G l  _) w_974 w_985 w_986 w_953 rfl rfl (by decide +kernel) ⟨Nat.le_of_ble_eq_true rfl, Nat.le_of_ble_eq_true rfl⟩ (Nat.le_of_ble_eq_true rfl) dX12_next_113 ⟨Nat.zero_le _, Nat.zero_le _⟩ ?_
        refine aw_if_eq hC 171 dX12_next_116 (by decide) (fun c6 => ?_) (fun c6 => ?_)
        · refine aw_aload_n hC 1 dX12_next_171 rfl rfl ?_
          refine aw_dup hC dX12_next_172 rfl ?_
          refine aw_getI hC hSt 12 (ms_lt 64 (by decide) hM) (ms_k 64 12 0 (by decide) hM) rfl (by decide) w_976 rfl dX12_next_173 ?_
          refine aw_iconst (v := 1) hC dX12_next_176 (by decide) ?_
          refine aw_iadd hC dX12_next_177 ?_
          refine aw_putI hC hSt 12 (ms_lt 64 (by decide) hM) (ms_k 64 12 0 (by decide) hM) rfl (by decide) w_976 rfl rfl rfl rfl dX12_next_178 ?_
          generalize eS7 : (sI S2 64 12 ((gI S2 64 12) + (1 : Int32))) = S7
          have hM : MS S7 := MS.of (by rw [← eS7]; exact shp_sI _ _ _ _) hM
          refine aw_aload_n hC 1 dX12_next_181 rfl rfl ?_
          refine aw_iload_n hC 0 dX12_next_182 rfl rfl ?_
          refine aw_bipush (v := 59) hC dX12_next_183 (by decide) ?_
          refine aw_cut (S' := S7) (pc' := 193) (lv' := [(1, .int x3), (0, .ref 64)]) (st' := [.int (if x3 = (59 : Int32) then (4 : Int32) else (0 : Int32)), .ref 64]) ?_ (fun Jc8 => ?_)
          · generalize ex9 : (if x3 = (59 : Int32) then (4 : Int32) else (0 : Int32)) = x9
            refine aw_putI hC hSt 13 (ms_lt 64 (by decide) hM) (ms_k 64 12 0 (by decide) hM) rfl (by decide) w_978 rfl rfl rfl rfl dX12_next_193 ?_
            generalize eS10 : (sI S7 64 13 x9) = S10
            have hM : MS S10 := MS.of (by rw [← eS10]; exact shp_sI _ _ _ _) hM
            subst eS10
            subst ex9
            subst eS7
            simp only [bd_def, if_neg c4, if_pos c5, if_pos c6] at Jc4 ⊢
            exact Jc4
          · refine aw_icmp_ne hC 192 dX12_next_185 (by decide) (fun c8 => ?_) (fun c8 => ?_)
            · refine aw_iconst (v := 0) hC dX12_next_192 (by decide) ?_
              simp only [bd_def, if_neg c8] at Jc8 ⊢
              exact Jc8
            · refine aw_iconst (v := 4) hC dX12_next_188 (by decide) ?_
              refine aw_goto hC 193 dX12_next_189 (by decide) ?_
              simp only [bd_def, if_pos c8] at Jc8 ⊢
              exact Jc8
        · refine aw_sub [1, 0] rfl ?_
          refine l_X12_next_119 hC hSt 1000 _ _ hM (h2 r1 er1 S2 eS2 x3 ex3 c4 c5 c6) ?_
          generalize er11 : L_X12_next_119 1000 S2 x3 = r11
          have hM : MS r11.2 := MS.of (by rw [← er11]; exact qL_X12_next_119 _ _ _) hM
          refine aw_aload_n hC 0 dX12_next_146 rfl rfl ?_
          refine aw_aload_n hC 0 dX12_next_147 rfl rfl ?_
          refine aw_getI hC hSt 12 (ms_lt 64 (by decide) hM) (ms_k 64 12 0 (by decide) hM) rfl (by decide) w_976 rfl dX12_next_148 ?_
          refine aw_aload_n hC 0 dX12_next_151 rfl rfl ?_
          refine aw_getI hC hSt 14 (ms_lt 64 (by decide) hM) (ms_k 64 12 0 (by decide) hM) rfl (by decide) w_977 rfl dX12_next_152 ?_
          refine aw_isub hC dX12_next_155 ?_
          refine aw_iconst (v := 3) hC dX12_next_156 (by decide) ?_
          refine aw_cut (S' := r11.2) (pc' := 165) (lv' := [(0, .ref 64), (1, .int r11.1)]) (st' := [.int (if ((gI r11.2 64 12) - (gI r11.2 64 14)) ≤ (3 : Int32) then (3 : Int32) else (0 : Int32)), .ref 64]) ?_ (fun Jc12 => ?_)
          · generalize ex13 : (if ((gI r11.2 64 12) - (gI r11.2 64 14)) ≤ (3 : Int32) then (3 : Int32) else (0 : Int32)) = x13
            refine aw_putI hC hSt 13 (ms_lt 64 (by decide) hM) (ms_k 64 12 0 (by decide) hM) rfl (by decide) w_978 rfl rfl rfl rfl dX12_next_165 ?_
            generalize eS14 : (sI r11.2 64 13 x13) = S14
            have hM : MS S14 := MS.of (by rw [← eS14]; exact shp_sI _ _ _ _) hM
            refine aw_goto hC 196 dX12_next_168 (by decide) ?_
            refine aw_sub [1, 0] rfl ?_
            subst eS14
            subst ex13
            subst er11
            simp only [bd_def, if_neg c4, if_pos c5, if_neg c6] at Jc4 ⊢
            exact Jc4
          · refine aw_icmp_le hC 164 dX12_next_157 (by decide) (fun c12 => ?_) (fun c12 => ?_)
            · refine aw_iconst (v := 3) hC dX12_next_164 (by decide) ?_
              simp only [bd_def, if_pos c12] at Jc12 ⊢
              exact Jc12
            · refine aw_iconst (v := 0) hC dX12_next_160 (by decide) ?_
              refine aw_goto hC 165 dX12_next_161 (by decide) ?_
              simp only [bd_def, if_neg c12] at Jc12 ⊢
              exact Jc12
      · refine aw_sub [1, 0] rfl ?_
        refine l_X12_next_77 hC hSt 1000 _ _ hM (h3 r1 er1 S2 eS2 x3 ex3 c4 c5) ?_
        generalize er15 : L_X12_next_77 1000 S2 x3 = r15
        have hM : MS r15.2 := MS.of (by rw [← er15]; exact qL_X12_next_77 _ _ _) hM
        refine aw_aload_n hC 0 dX12_next_104 rfl rfl ?_
        refine aw_iconst (v := 2) hC dX12_next_105 (by decide) ?_
        refine aw_putI hC hSt 13 (ms_lt 64 (by decide) hM) (ms_k 64 12 0 (by decide) hM) rfl (by decide) w_978 rfl rfl rfl rfl dX12_next_106 ?_
        generalize eS16 : (sI r15.2 64 13 (2 : Int32)) = S16
        have hM : MS S16 := MS.of (by rw [← eS16]; exact shp_sI _ _ _ _) hM
        refine aw_goto hC 196 dX12_next_109 (by decide) ?_
        refine aw_sub [1, 0] rfl ?_
        subst eS16
        subst er15
        simp only [bd_def, if_neg c4, if_neg c5] at Jc4 ⊢
        exact Jc4
    · refine aw_aload_n hC 1 dX12_next_62 rfl rfl ?_
      refine aw_iconst (v := 1) hC dX12_next_63 (by decide) ?_
      refine aw_putI hC hSt 13 (ms_lt 64 (by decide) hM) (ms_k 64 12 0 (by decide) hM) rfl (by decide) w_978 rfl rfl rfl rfl dX12_next_64 ?_
      generalize eS17 : (sI S2 64 13 (1 : Int32)) = S17
      have hM : MS S17 := MS.of (by rw [← eS17]; exact shp_sI _ _ _ _) hM
      refine aw_goto hC 196 dX12_next_67 (by decide) ?_
      subst eS17
      simp only [bd_def, if_pos c4] at Jc4 ⊢
      exact Jc4
theorem q_X12_next (S : HSt) (_o : Nat)  : shp (f_X12_next S _o) = shp S := by
  unfold f_X12_next
  repeat' (first | with_reducible rfl | with_reducible refine (qL_X12_next_0 _ _).trans ?_ | with_reducible refine (qL_X12_next_119 _ _ _).trans ?_ | with_reducible refine (qL_X12_next_77 _ _ _).trans ?_ | with_reducible refine (shp_sI _ _ _ _).trans ?_ | with_reducible refine (shp_sJ _ _ _ _).trans ?_ | with_reducible refine shi ?_ ?_ | with_reducible refine shb (fun _ _ => ?_) | (subst_vars; with_reducible rfl) | (subst_vars; with_reducible refine (qL_X12_next_0 _ _).trans ?_) | (subst_vars; with_reducible refine (qL_X12_next_119 _ _ _).trans ?_) | (subst_vars; with_reducible refine (qL_X12_next_77 _ _ _).trans ?_) | (subst_vars; with_reducible refine (shp_sI _ _ _ _).trans ?_) | (subst_vars; with_reducible refine (shp_sJ _ _ _ _).trans ?_) | (subst_vars; with_reducible refine shi ?_ ?_) | (subst_vars; with_reducible refine shb (fun _ _ => ?_)))
theorem v_X12_next (S : HSt) (_o : Nat)  : Fr [(64, 12), (64, 13), (64, 14), (64, 15)] S (f_X12_next S _o) := by
  unfold f_X12_next
  repeat' (first | with_reducible exact Fr.refl _ _ | with_reducible refine Fr.l1 (fun _ _ => ?_) | with_reducible refine Fr.ite ?_ ?_ | with_reducible refine Fr.sE (by assumption) (by first | decide | simp only [List.mem_cons, List.not_mem_nil, or_false, true_or, or_true, eq_self_iff_true]) ?_ | with_reducible refine Fr.jE (by assumption) ?_ | with_reducible refine Fr.rE (by assumption) (by first | decide | simp only [List.mem_cons, List.not_mem_nil, or_false, true_or, or_true, eq_self_iff_true]) ?_ | with_reducible refine Fr.iE (by assumption) ?_ ?_ | with_reducible refine Fr.tr (wL_X12_next_0 _ _ _ (by assumption)) (by first | decide | simp only [List.mem_cons, List.not_mem_nil, or_false, forall_eq_or_imp, forall_eq, true_or, or_true, and_self, eq_self_iff_true]) ?_ | with_reducible refine Fr.tr (wL_X12_next_119 _ _ _ _ (by assumption)) (by first | decide | simp only [List.mem_cons, List.not_mem_nil, or_false, forall_eq_or_imp, forall_eq, true_or, or_true, and_self, eq_self_iff_true]) ?_ | with_reducible refine Fr.tr (wL_X12_next_77 _ _ _ _ (by assumption)) (by first | decide | simp only [List.mem_cons, List.not_mem_nil, or_false, forall_eq_or_imp, forall_eq, true_or, or_true, and_self, eq_self_iff_true]) ?_)
theorem w_X12_next (S : HSt) (_o : Nat)  (r : HSt) (e : f_X12_next S _o = r) : Fr [(64, 12), (64, 13), (64, 14), (64, 15)] S r := by
  rw [← e]
  exact v_X12_next S _o
noncomputable def f_X12_bad (S : HSt) (_o : Nat) (a1 : Int32) : HSt := bd ((if (gI S 64 16) = 0 then (bd ((sI S 64 16 a1)) fun S2 => bd ((sI S2 64 17 (gI S2 64 14))) fun S3 => S3) else S)) fun S4 => S4
set_option maxRecDepth 100000 in
theorem t_X12_bad (G : GG) (l : Launch) {S : HSt} (hM : MS S) (a1 : Int32)  : AM G l yX12_bad cX12_bad 2 none (rmD 0 0 0) 0 0 [.ref 64, .int a1] S (FP none (f_X12_bad S 64 a1)) := by
  refine AM.mk (by decide) (Nat.le_of_ble_eq_true rfl) ?_
  intro p e s m below meth c hC hSt _
  refine aw_aload_n hC 0 dX12_bad_0 rfl rfl ?_
  refine aw_getI hC hSt 16 (ms_lt 64 (by decide) hM) (ms_k 64 12 0 (by decide) hM) rfl (by decide) w_988 rfl dX12_bad_1 ?_
  refine aw_cut (S' := (if (gI S 64 16) = 0 then (bd ((sI S 64 16 a1)) fun S2 => bd ((sI S2 64 17 (gI S2 64 14))) fun S3 => S3) else S)) (pc' := 20) (lv' := [(0, .ref 64), (1, .int a1)]) (st' := []) ?_ (fun Jc1 => ?_)
  · generalize eS4 : (if (gI S 64 16) = 0 then (bd ((sI S 64 16 a1)) fun S2 => bd ((sI S2 64 17 (gI S2 64 14))) fun S3 => S3) else S) = S4
    have hM : MS S4 := MS.of (by rw [← eS4]; repeat' (first | with_reducible rfl | with_reducible refine (shp_sI _ _ _ _).trans ?_ | with_reducible refine (shp_sJ _ _ _ _).trans ?_ | with_reducible refine shi ?_ ?_ | with_reducible refine shb (fun _ _ => ?_) | (subst_vars; with_reducible rfl) | (subst_vars; with_reducible refine (shp_sI _ _ _ _).trans ?_) | (subst_vars; with_reducible refine (shp_sJ _ _ _ _).trans ?_) | (subst_vars; with_reducible refine shi ?_ ?_) | (subst_vars; with_reducible refine shb (fun _ _ => ?_)))) hM
    refine aw_vret hC dX12_bad_20 (Nat.le_refl _) (Nat.le_refl _) ?_
    exact FP.qV ((bd_eq eS4).trans (rfl))
  · refine aw_if_ne hC 20 dX12_bad_4 (by decide) (fun c1 => ?_) (fun c1 => ?_)
    · simp only [bd_def, if_neg c1] at Jc1 ⊢
      exact Jc1
    · refine aw_aload_n hC 0 dX12_bad_7 rfl rfl ?_
      refine aw_iload_n hC 1 dX12_bad_8 rfl rfl ?_
      refine aw_putI hC hSt 16 (ms_lt 64 (by decide) hM) (ms_k 64 12 0 (by decide) hM) rfl (by decide) w_988 rfl rfl rfl rfl dX12_bad_9 ?_
      generalize eS2 : (sI S 64 16 a1) = S2
      have hM : MS S2 := MS.of (by rw [← eS2]; exact shp_sI _ _ _ _) hM
      refine aw_aload_n hC 0 dX12_bad_12 rfl rfl ?_
      refine aw_aload_n hC 0 dX12_bad_13 rfl rfl ?_
      refine aw_getI hC hSt 14 (ms_lt 64 (by decide) hM) (ms_k 64 12 0 (by decide) hM) rfl (by decide) w_977 rfl dX12_bad_14 ?_
      refine aw_putI hC hSt 17 (ms_lt 64 (by decide) hM) (ms_k 64 12 0 (by decide) hM) rfl (by decide) w_989 rfl rfl rfl rfl dX12_bad_17 ?_
      generalize eS3 : (sI S2 64 17 (gI S2 64 14)) = S3
      have hM : MS S3 := MS.of (by rw [← eS3]; exact shp_sI _ _ _ _) hM
      subst eS3
      subst eS2
      simp only [bd_def, if_pos c1] at Jc1 ⊢
      exact Jc1
theorem q_X12_bad (S : HSt) (_o : Nat) (a1 : Int32) : shp (f_X12_bad S _o a1) = shp S := by
  unfold f_X12_bad
  repeat' (first | with_reducible rfl | with_reducible refine (shp_sI _ _ _ _).trans ?_ | with_reducible refine (shp_sJ _ _ _ _).trans ?_ | with_reducible refine shi ?_ ?_ | with_reducible refine shb (fun _ _ => ?_) | (subst_vars; with_reducible rfl) | (subst_vars; with_reducible refine (shp_sI _ _ _ _).trans ?_) | (subst_vars; with_reducible refine (shp_sJ _ _ _ _).trans ?_) | (subst_vars; with_reducible refine shi ?_ ?_) | (subst_vars; with_reducible refine shb (fun _ _ => ?_)))
theorem v_X12_bad (S : HSt) (_o : Nat) (a1 : Int32) : Fr [(64, 16), (64, 17)] S (f_X12_bad S _o a1) := by
  unfold f_X12_bad
  repeat' (first | with_reducible exact Fr.refl _ _ | with_reducible refine Fr.l1 (fun _ _ => ?_) | with_reducible refine Fr.ite ?_ ?_ | with_reducible refine Fr.sE (by assumption) (by first | decide | simp only [List.mem_cons, List.not_mem_nil, or_false, true_or, or_true, eq_self_iff_true]) ?_ | with_reducible refine Fr.jE (by assumption) ?_ | with_reducible refine Fr.rE (by assumption) (by first | decide | simp only [List.mem_cons, List.not_mem_nil, or_false, true_or, or_true, eq_self_iff_true]) ?_ | with_reducible refine Fr.iE (by assumption) ?_ ?_)
theorem w_X12_bad (S : HSt) (_o : Nat) (a1 : Int32) (r : HSt) (e : f_X12_bad S _o a1 = r) : Fr [(64, 16), (64, 17)] S r := by
  rw [← e]
  exact v_X12_bad S _o a1
noncomputable def f_X12_must (S : HSt) (_o : Nat) (a1 : Int32) : HSt := bd ((if a1 = 0 then (bd (f_X12_bad S 64 (1 : Int32)) fun r2 => r2) else S)) fun S3 => bd ((if (gI S3 64 16) = 0 then (bd (f_X12_next S3 64) fun r5 => r5) else S3)) fun S6 => S6
def p_X12_must (S : HSt) (_o : Nat) (a1 : Int32) : Prop := (∀ S3 : HSt, (if a1 = 0 then (bd (f_X12_bad S 64 (1 : Int32)) fun r2 => r2) else S) = S3 → ((gI S3 64 16) = 0) → p_X12_next S3 64)
set_option maxRecDepth 100000 in
theorem t_X12_must (G : GG) (l : Launch) {S : HSt} (hM : MS S) (a1 : Int32) (hp : p_X12_must S 64 a1) : AM G l yX12_must cX12_must 2 none (rmD 2 0 0) 0 0 [.ref 64, .int a1] S (FP none (f_X12_must S 64 a1)) := by
  have h0 := hp
  unfold p_X12_must at h0
  refine AM.mk (by decide) (Nat.le_of_ble_eq_true rfl) ?_
  intro p e s m below meth c hC hSt _
  refine aw_iload_n hC 1 dX12_must_0 rfl rfl ?_
  refine aw_cut (S' := (if a1 = 0 then (bd (f_X12_bad S 64 (1 : Int32)) fun r2 => r2) else S)) (pc' := 9) (lv' := [(0, .ref 64), (1, .int a1)]) (st' := []) ?_ (fun Jc1 => ?_)
  · generalize eS3 : (if a1 = 0 then (bd (f_X12_bad S 64 (1 : Int32)) fun r2 => r2) else S) = S3
    have hM : MS S3 := MS.of (by rw [← eS3]; repeat' (first | with_reducible rfl | with_reducible refine (q_X12_bad _ _ _).trans ?_ | with_reducible refine (q_X12_next _ _).trans ?_ | with_reducible refine (shp_sI _ _ _ _).trans ?_ | with_reducible refine (shp_sJ _ _ _ _).trans ?_ | with_reducible refine shi ?_ ?_ | with_reducible refine shb (fun _ _ => ?_) | (subst_vars; with_reducible rfl) | (subst_vars; with_reducible refine (q_X12_bad _ _ _).trans ?_) | (subst_vars; with_reducible refine (q_X12_next _ _).trans ?_) | (subst_vars; with_reducible refine (shp_sI _ _ _ _).trans ?_) | (subst_vars; with_reducible refine (shp_sJ _ _ _ _).trans ?_) | (subst_vars; with_reducible refine shi ?_ ?_) | (subst_vars; with_reducible refine shb (fun _ _ => ?_)))) hM
    refine aw_aload_n hC 0 dX12_must_9 rfl rfl ?_
    refine aw_getI hC hSt 16 (ms_lt 64 (by decide) hM) (ms_k 64 12 0 (by decide) hM) rfl (by decide) w_988 rfl dX12_must_10 ?_
    refine aw_cut (S' := (if (gI S3 64 16) = 0 then (bd (f_X12_next S3 64) fun r5 => r5) else S3)) (pc' := 20) (lv' := [(0, .ref 64), (1, .int a1)]) (st' := []) ?_ (fun Jc4 => ?_)
    · generalize eS6 : (if (gI S3 64 16) = 0 then (bd (f_X12_next S3 64) fun r5 => r5) else S3) = S6
      have hM : MS S6 := MS.of (by rw [← eS6]; repeat' (first | with_reducible rfl | with_reducible refine (q_X12_bad _ _ _).trans ?_ | with_reducible refine (q_X12_next _ _).trans ?_ | with_reducible refine (shp_sI _ _ _ _).trans ?_ | with_reducible refine (shp_sJ _ _ _ _).trans ?_ | with_reducible refine shi ?_ ?_ | with_reducible refine shb (fun _ _ => ?_) | (subst_vars; with_reducible rfl) | (subst_vars; with_reducible refine (q_X12_bad _ _ _).trans ?_) | (subst_vars; with_reducible refine (q_X12_next _ _).trans ?_) | (subst_vars; with_reducible refine (shp_sI _ _ _ _).trans ?_) | (subst_vars; with_reducible refine (shp_sJ _ _ _ _).trans ?_) | (subst_vars; with_reducible refine shi ?_ ?_) | (subst_vars; with_reducible refine shb (fun _ _ => ?_)))) hM
      refine aw_vret hC dX12_must_20 (Nat.le_refl _) (Nat.le_refl _) ?_
      exact FP.qV ((bd_eq eS3).trans ((bd_eq eS6).trans (rfl)))
    · refine aw_if_ne hC 20 dX12_must_13 (by decide) (fun c4 => ?_) (fun c4 => ?_)
      · simp only [bd_def, if_neg c4] at Jc4 ⊢
        exact Jc4
      · refine aw_aload_n hC 0 dX12_must_16 rfl rfl ?_
        refine aw_cV0v hC hSt (t_X12_next G l hM  (h0 S3 eS3 c4)) w_975 w_993 w_994 w_995 w_953 rfl rfl (by decide +kernel) ⟨Nat.le_of_ble_eq_true rfl, Nat.le_of_ble_eq_true rfl⟩ (ms_lt 64 (by decide) hM) (ms_k 64 12 0 (by decide) hM) rfl (Nat.le_of_ble_eq_true rfl) dX12_must_17 ⟨Nat.zero_le _, Nat.zero_le _⟩ ?_
        generalize er5 : f_X12_next S3 64 = r5
        have hM : MS r5 := MS.of (by rw [← er5]; exact q_X12_next _ _) hM
        subst er5
        simp only [bd_def, if_pos c4] at Jc4 ⊢
        exact Jc4
  · refine aw_if_ne hC 9 dX12_must_1 (by decide) (fun c1 => ?_) (fun c1 => ?_)
    · simp only [bd_def, if_neg c1] at Jc1 ⊢
      exact Jc1
    · refine aw_aload_n hC 0 dX12_must_4 rfl rfl ?_
      refine aw_iconst (v := 1) hC dX12_must_5 (by decide) ?_
      refine aw_cV1v hC hSt (t_X12_bad G l hM _) w_987 w_990 w_991 w_992 w_953 rfl rfl (by decide +kernel) ⟨Nat.le_of_ble_eq_true rfl, Nat.le_of_ble_eq_true rfl⟩ (ms_lt 64 (by decide) hM) (ms_k 64 12 0 (by decide) hM) rfl (Nat.le_of_ble_eq_true rfl) dX12_must_6 ⟨Nat.zero_le _, Nat.zero_le _⟩ ?_
      generalize er2 : f_X12_bad S 64 (1 : Int32) = r2
      have hM : MS r2 := MS.of (by rw [← er2]; exact q_X12_bad _ _ _) hM
      subst er2
      simp only [bd_def, if_pos c1] at Jc1 ⊢
      exact Jc1
theorem q_X12_must (S : HSt) (_o : Nat) (a1 : Int32) : shp (f_X12_must S _o a1) = shp S := by
  unfold f_X12_must
  repeat' (first | with_reducible rfl | with_reducible refine (q_X12_bad _ _ _).trans ?_ | with_reducible refine (q_X12_next _ _).trans ?_ | with_reducible refine (shp_sI _ _ _ _).trans ?_ | with_reducible refine (shp_sJ _ _ _ _).trans ?_ | with_reducible refine shi ?_ ?_ | with_reducible refine shb (fun _ _ => ?_) | (subst_vars; with_reducible rfl) | (subst_vars; with_reducible refine (q_X12_bad _ _ _).trans ?_) | (subst_vars; with_reducible refine (q_X12_next _ _).trans ?_) | (subst_vars; with_reducible refine (shp_sI _ _ _ _).trans ?_) | (subst_vars; with_reducible refine (shp_sJ _ _ _ _).trans ?_) | (subst_vars; with_reducible refine shi ?_ ?_) | (subst_vars; with_reducible refine shb (fun _ _ => ?_)))
theorem v_X12_must (S : HSt) (_o : Nat) (a1 : Int32) : Fr [(64, 12), (64, 13), (64, 14), (64, 15), (64, 16), (64, 17)] S (f_X12_must S _o a1) := by
  unfold f_X12_must
  repeat' (first | with_reducible exact Fr.refl _ _ | with_reducible refine Fr.l1 (fun _ _ => ?_) | with_reducible refine Fr.ite ?_ ?_ | with_reducible refine Fr.sE (by assumption) (by first | decide | simp only [List.mem_cons, List.not_mem_nil, or_false, true_or, or_true, eq_self_iff_true]) ?_ | with_reducible refine Fr.jE (by assumption) ?_ | with_reducible refine Fr.rE (by assumption) (by first | decide | simp only [List.mem_cons, List.not_mem_nil, or_false, true_or, or_true, eq_self_iff_true]) ?_ | with_reducible refine Fr.iE (by assumption) ?_ ?_ | with_reducible refine Fr.tr (w_X12_bad _ _ _ _ (by assumption)) (by first | decide | simp only [List.mem_cons, List.not_mem_nil, or_false, forall_eq_or_imp, forall_eq, true_or, or_true, and_self, eq_self_iff_true]) ?_ | with_reducible refine Fr.tr (w_X12_next _ _ _ (by assumption)) (by first | decide | simp only [List.mem_cons, List.not_mem_nil, or_false, forall_eq_or_imp, forall_eq, true_or, or_true, and_self, eq_self_iff_true]) ?_)
theorem w_X12_must (S : HSt) (_o : Nat) (a1 : Int32) (r : HSt) (e : f_X12_must S _o a1 = r) : Fr [(64, 12), (64, 13), (64, 14), (64, 15), (64, 16), (64, 17)] S r := by
  rw [← e]
  exact v_X12_must S _o a1
noncomputable def L_X12_word_7 : Nat → HSt → Int64 → Int32 → Int64 × Int32
  | 0, S, v1, v3 => (v1, v3)
  | n + 1, S, v1, v3 =>
    if (gI S 64 15) ≤ v3 then ((pr (v1) (v3))) else (if (gI S 64 13) = (2 : Int32) then (if (8 : Int32) ≤ ((gI S 64 15) - (gI S 64 14)) then ((pr (v1) (v3))) else (bd (((v1 <<< ((8 : Int32).toInt64 &&& 63)) ||| (gI S 70 v3.toNatClampNeg).toInt64)) fun x1005 => L_X12_word_7 n S x1005 (v3 + (1 : Int32)))) else ((pr (v1) (v3))))
def T_X12_word_7 : Nat → HSt → Int64 → Int32 → Prop
  | 0, _, _, _ => False
  | n + 1, S, v1, v3 => ((¬ (gI S 64 15) ≤ v3) → ((gI S 64 13) = (2 : Int32)) → (¬ (8 : Int32) ≤ ((gI S 64 15) - (gI S 64 14))) → vp_in v3 600) ∧ ((¬ (gI S 64 15) ≤ v3) → ((gI S 64 13) = (2 : Int32)) → (¬ (8 : Int32) ≤ ((gI S 64 15) - (gI S 64 14))) → ∀ x1005 : Int64, ((v1 <<< ((8 : Int32).toInt64 &&& 63)) ||| (gI S 70 v3.toNatClampNeg).toInt64) = x1005 → T_X12_word_7 n S x1005 (v3 + (1 : Int32)))
set_option maxRecDepth 100000 in
theorem l_X12_word_7 {p : Program} {l : Launch} {e : Env} {s : State} {m : MethodId} {args : Array Value} {below : List Frame} {meth : Method} {c : Code} {G : GG} {Q : State → Prop} (hC : ACx p s m args meth c cX12_word RX12 4 (some .long)) (hSt : St G s)  : ∀ (n : Nat) (S : HSt) (v1 : Int64) (v3 : Int32), MS S → T_X12_word_7 n S v1 v3 → AW p l e (rmD 0 0 0) s m args below meth c G 4 Q S 0 0 56 [(0, .ref 64), (1, .long (L_X12_word_7 n S v1 v3).1), (3, .int (L_X12_word_7 n S v1 v3).2)] [] → AW p l e (rmD 0 0 0) s m args below meth c G 4 Q S 0 0 7 [(0, .ref 64), (1, .long v1), (3, .int v3)] [] := by
  intro n
  induction n with
  | zero => intro S v1 v3 _ hT; exact hT.elim
  | succ n ih =>
    intro S v1 v3 hM hT hk
    unfold T_X12_word_7 at hT
    obtain ⟨h0, h1⟩ := hT
    refine aw_iload_n hC 2 dX12_word_7 rfl rfl ?_
    refine aw_aload_n hC 0 dX12_word_8 rfl rfl ?_
    refine aw_getI hC hSt 15 (ms_lt 64 (by decide) hM) (ms_k 64 12 0 (by decide) hM) rfl (by decide) w_979 rfl dX12_word_9 ?_
    refine aw_icmp_ge hC 56 dX12_word_12 (by decide) (fun c1002 => ?_) (fun c1002 => ?_)
    · refine aw_sub [0, 1, 2] rfl ?_
      have E : L_X12_word_7 (n + 1) S v1 v3 = _ := (if_pos c1002).trans (rfl)
      rw [E] at hk
      exact hk
    · refine aw_aload_n hC 0 dX12_word_15 rfl rfl ?_
      refine aw_getI hC hSt 13 (ms_lt 64 (by decide) hM) (ms_k 64 12 0 (by decide) hM) rfl (by decide) w_978 rfl dX12_word_16 ?_
      refine aw_iconst (v := 2) hC dX12_word_19 (by decide) ?_
      refine aw_icmp_ne hC 56 dX12_word_20 (by decide) (fun c1003 => ?_) (fun c1003 => ?_)
      · refine aw_sub [0, 1, 2] rfl ?_
        have E : L_X12_word_7 (n + 1) S v1 v3 = _ := (if_neg c1002).trans ((if_neg c1003).trans (rfl))
        rw [E] at hk
        exact hk
      · refine aw_aload_n hC 0 dX12_word_23 rfl rfl ?_
        refine aw_getI hC hSt 15 (ms_lt 64 (by decide) hM) (ms_k 64 12 0 (by decide) hM) rfl (by decide) w_979 rfl dX12_word_24 ?_
        refine aw_aload_n hC 0 dX12_word_27 rfl rfl ?_
        refine aw_getI hC hSt 14 (ms_lt 64 (by decide) hM) (ms_k 64 12 0 (by decide) hM) rfl (by decide) w_977 rfl dX12_word_28 ?_
        refine aw_isub hC dX12_word_31 ?_
        refine aw_bipush (v := 8) hC dX12_word_32 (by decide) ?_
        refine aw_icmp_ge hC 56 dX12_word_34 (by decide) (fun c1004 => ?_) (fun c1004 => ?_)
        · refine aw_sub [0, 1, 2] rfl ?_
          have E : L_X12_word_7 (n + 1) S v1 v3 = _ := (if_neg c1002).trans ((if_pos c1003).trans ((if_pos c1004).trans (rfl)))
          rw [E] at hk
          exact hk
        · refine aw_lload_n hC 1 dX12_word_37 rfl rfl ?_
          refine aw_bipush (v := 8) hC dX12_word_38 (by decide) ?_
          refine aw_lshl hC dX12_word_40 ?_
          refine aw_aload_n hC 0 dX12_word_41 rfl rfl ?_
          refine aw_getP (b := 70) hC hSt 8 (ms_lt 64 (by decide) hM) (ms_k 64 12 0 (by decide) hM) rfl (by decide) w_922 rfl (ms_p 8 70 (by decide) hM) dX12_word_42 ?_
          refine aw_iload_n hC 2 dX12_word_45 rfl rfl ?_
          refine aw_iald hC hSt (ms_lt 70 (by decide) hM) (ms_k 70 14 600 (by decide) hM) (vp_len (n := 600) (ms_l 70 14 600 (by decide) hM) (h0 c1002 c1003 c1004)) dX12_word_46 ?_
          refine aw_i2l hC dX12_word_47 ?_
          refine aw_lor hC dX12_word_48 ?_
          refine aw_lstore_n hC [(1, .long _), (0, .ref 64), (3, .int _)] dX12_word_49 rfl (by decide) rfl ?_
          generalize ex1005 : ((v1 <<< ((8 : Int32).toInt64 &&& 63)) ||| (gI S 70 v3.toNatClampNeg).toInt64) = x1005
          refine aw_iinc (v := (v3 + (1 : Int32))) hC 2 [(3, .int _), (1, .long _), (0, .ref 64)] dX12_word_50 rfl rfl (by decide) rfl ?_
          refine aw_goto hC 7 dX12_word_53 (by decide) ?_
          refine aw_sub [2, 1, 0] rfl ?_
          have hTn := (h1 c1002 c1003 c1004 x1005 ex1005)
          have hMn : MS S := hM
          have E : L_X12_word_7 (n + 1) S v1 v3 = _ := (if_neg c1002).trans ((if_pos c1003).trans ((if_neg c1004).trans ((bd_eq ex1005).trans (rfl))))
          rw [E] at hk
          exact ih _ _ _ hMn hTn hk
noncomputable def F_X12_word (S : HSt) (_o : Nat)  : Int64 × HSt := bd ((gI S 64 14)) fun x1 => bd (L_X12_word_7 1000 S (0 : Int64) x1) fun r2 => bd ((if (gI S 64 16) = 0 then r2.1 else (0 : Int64))) fun x4 => pr (x4) (S)
noncomputable def f_X12_word (S : HSt) (_o : Nat)  : Int64 := (F_X12_word S _o).1
def p_X12_word (S : HSt) (_o : Nat)  : Prop := (∀ x1 : Int32, (gI S 64 14) = x1 → T_X12_word_7 1000 S (0 : Int64) x1)
set_option maxRecDepth 100000 in
theorem t_X12_word (G : GG) (l : Launch) {S : HSt} (hM : MS S)  (hp : p_X12_word S 64) : AM G l yX12_word cX12_word 4 (some .long) (rmD 0 0 0) 0 0 [.ref 64] S (FP (some (.long (f_X12_word S 64))) (S)) := by
  have h0 := hp
  unfold p_X12_word at h0
  refine AM.mk (by decide) (Nat.le_of_ble_eq_true rfl) ?_
  intro p e s m below meth c hC hSt _
  refine aw_lconst (v := 0) hC dX12_word_0 (by decide) ?_
  refine aw_lstore_n hC [(1, .long _), (0, .ref 64)] dX12_word_1 rfl (by decide) rfl ?_
  refine aw_aload_n hC 1 dX12_word_2 rfl rfl ?_
  refine aw_getI hC hSt 14 (ms_lt 64 (by decide) hM) (ms_k 64 12 0 (by decide) hM) rfl (by decide) w_977 rfl dX12_word_3 ?_
  refine aw_istore_n hC [(3, .int _), (1, .long _), (0, .ref 64)] dX12_word_6 rfl (by decide) rfl ?_
  generalize ex1 : (gI S 64 14) = x1
  refine aw_sub [2, 1, 0] rfl ?_
  refine l_X12_word_7 hC hSt 1000 _ _ _ hM (h0 x1 ex1) ?_
  generalize er2 : L_X12_word_7 1000 S (0 : Int64) x1 = r2
  refine aw_aload_n hC 0 dX12_word_56 rfl rfl ?_
  refine aw_getI hC hSt 16 (ms_lt 64 (by decide) hM) (ms_k 64 12 0 (by decide) hM) rfl (by decide) w_988 rfl dX12_word_57 ?_
  refine aw_cut (S' := S) (pc' := 68) (lv' := [(0, .ref 64), (1, .long r2.1), (3, .int r2.2)]) (st' := [.long (if (gI S 64 16) = 0 then r2.1 else (0 : Int64))]) ?_ (fun Jc3 => ?_)
  · generalize ex4 : (if (gI S 64 16) = 0 then r2.1 else (0 : Int64)) = x4
    refine aw_lret hC dX12_word_68 (Nat.le_refl _) (Nat.le_refl _) ?_
    exact FP.pJ ((bd_eq ex1).trans ((bd_eq er2).trans ((bd_eq ex4).trans (rfl))))
  · refine aw_if_ne hC 67 dX12_word_60 (by decide) (fun c3 => ?_) (fun c3 => ?_)
    · refine aw_lconst (v := 0) hC dX12_word_67 (by decide) ?_
      simp only [bd_def, if_neg c3] at Jc3 ⊢
      exact Jc3
    · refine aw_lload_n hC 1 dX12_word_63 rfl rfl ?_
      refine aw_goto hC 68 dX12_word_64 (by decide) ?_
      simp only [bd_def, if_pos c3] at Jc3 ⊢
      exact Jc3
noncomputable def L_X12_number_17 : Nat → HSt → Int32 → Int32 → Int32 → Int32 → Int32 → Int32 × Int32 × Int32 × Int32 × Int32
  | 0, S, v1, v2, v3, v4, v5 => (v1, v2, v3, v4, v5)
  | n + 1, S, v1, v2, v3, v4, v5 =>
    if (gI S 64 15) ≤ v5 then ((pr (v1) (pr (v2) (pr (v3) (pr (v4) (v5)))))) else (if (gI S 64 13) = (3 : Int32) then (bd (((((10 : Int32) * v4) + (gI S 70 v5.toNatClampNeg)) - (48 : Int32))) fun x1005 => L_X12_number_17 n S v1 v2 v3 x1005 (v5 + (1 : Int32))) else ((pr (v1) (pr (v2) (pr (v3) (pr (v4) (v5)))))))
def T_X12_number_17 : Nat → HSt → Int32 → Int32 → Int32 → Int32 → Int32 → Prop
  | 0, _, _, _, _, _, _ => False
  | n + 1, S, v1, v2, v3, v4, v5 => ((¬ (gI S 64 15) ≤ v5) → ((gI S 64 13) = (3 : Int32)) → vp_in v5 600) ∧ ((¬ (gI S 64 15) ≤ v5) → ((gI S 64 13) = (3 : Int32)) → ∀ x1005 : Int32, ((((10 : Int32) * v4) + (gI S 70 v5.toNatClampNeg)) - (48 : Int32)) = x1005 → T_X12_number_17 n S v1 v2 v3 x1005 (v5 + (1 : Int32)))
set_option maxRecDepth 100000 in
theorem l_X12_number_17 {p : Program} {l : Launch} {e : Env} {s : State} {m : MethodId} {args : Array Value} {below : List Frame} {meth : Method} {c : Code} {G : GG} {Q : State → Prop} (hC : ACx p s m args meth c cX12_number RX12 6 none) (hSt : St G s)  : ∀ (n : Nat) (S : HSt) (v1 : Int32) (v2 : Int32) (v3 : Int32) (v4 : Int32) (v5 : Int32), MS S → T_X12_number_17 n S v1 v2 v3 v4 v5 → AW p l e (rmD 3 0 0) s m args below meth c G 6 Q S 0 0 58 [(0, .ref 64), (1, .int (L_X12_number_17 n S v1 v2 v3 v4 v5).1), (2, .int (L_X12_number_17 n S v1 v2 v3 v4 v5).2.1), (3, .int (L_X12_number_17 n S v1 v2 v3 v4 v5).2.2.1), (4, .int (L_X12_number_17 n S v1 v2 v3 v4 v5).2.2.2.1), (5, .int (L_X12_number_17 n S v1 v2 v3 v4 v5).2.2.2.2)] [] → AW p l e (rmD 3 0 0) s m args below meth c G 6 Q S 0 0 17 [(0, .ref 64), (1, .int v1), (2, .int v2), (3, .int v3), (4, .int v4), (5, .int v5)] [] := by
  intro n
  induction n with
  | zero => intro S v1 v2 v3 v4 v5 _ hT; exact hT.elim
  | succ n ih =>
    intro S v1 v2 v3 v4 v5 hM hT hk
    unfold T_X12_number_17 at hT
    obtain ⟨h0, h1⟩ := hT
    refine aw_iload hC 5 dX12_number_17 rfl ?_
    refine aw_aload_n hC 0 dX12_number_19 rfl rfl ?_
    refine aw_getI hC hSt 15 (ms_lt 64 (by decide) hM) (ms_k 64 12 0 (by decide) hM) rfl (by decide) w_979 rfl dX12_number_20 ?_
    refine aw_icmp_ge hC 58 dX12_number_23 (by decide) (fun c1003 => ?_) (fun c1003 => ?_)
    · refine aw_sub [0, 1, 2, 3, 4, 5] rfl ?_
      have E : L_X12_number_17 (n + 1) S v1 v2 v3 v4 v5 = _ := (if_pos c1003).trans (rfl)
      rw [E] at hk
      exact hk
    · refine aw_aload_n hC 0 dX12_number_26 rfl rfl ?_
      refine aw_getI hC hSt 13 (ms_lt 64 (by decide) hM) (ms_k 64 12 0 (by decide) hM) rfl (by decide) w_978 rfl dX12_number_27 ?_
      refine aw_iconst (v := 3) hC dX12_number_30 (by decide) ?_
      refine aw_icmp_ne hC 58 dX12_number_31 (by decide) (fun c1004 => ?_) (fun c1004 => ?_)
      · refine aw_sub [0, 1, 2, 3, 4, 5] rfl ?_
        have E : L_X12_number_17 (n + 1) S v1 v2 v3 v4 v5 = _ := (if_neg c1003).trans ((if_neg c1004).trans (rfl))
        rw [E] at hk
        exact hk
      · refine aw_bipush (v := 10) hC dX12_number_34 (by decide) ?_
        refine aw_iload hC 4 dX12_number_36 rfl ?_
        refine aw_imul hC dX12_number_38 ?_
        refine aw_aload_n hC 0 dX12_number_39 rfl rfl ?_
        refine aw_getP (b := 70) hC hSt 8 (ms_lt 64 (by decide) hM) (ms_k 64 12 0 (by decide) hM) rfl (by decide) w_922 rfl (ms_p 8 70 (by decide) hM) dX12_number_40 ?_
        refine aw_iload hC 5 dX12_number_43 rfl ?_
        refine aw_iald hC hSt (ms_lt 70 (by decide) hM) (ms_k 70 14 600 (by decide) hM) (vp_len (n := 600) (ms_l 70 14 600 (by decide) hM) (h0 c1003 c1004)) dX12_number_45 ?_
        refine aw_iadd hC dX12_number_46 ?_
        refine aw_bipush (v := 48) hC dX12_number_47 (by decide) ?_
        refine aw_isub hC dX12_number_49 ?_
        refine aw_istore hC [(4, .int _), (0, .ref 64), (1, .int _), (2, .int _), (3, .int _), (5, .int _)] dX12_number_50 (by decide) rfl ?_
        generalize ex1005 : ((((10 : Int32) * v4) + (gI S 70 v5.toNatClampNeg)) - (48 : Int32)) = x1005
        refine aw_iinc (v := (v5 + (1 : Int32))) hC 5 [(5, .int _), (4, .int _), (0, .ref 64), (1, .int _), (2, .int _), (3, .int _)] dX12_number_52 rfl rfl (by decide) rfl ?_
        refine aw_goto hC 17 dX12_number_55 (by decide) ?_
        refine aw_sub [2, 3, 4, 5, 1, 0] rfl ?_
        have hTn := (h1 c1003 c1004 x1005 ex1005)
        have hMn : MS S := hM
        have E : L_X12_number_17 (n + 1) S v1 v2 v3 v4 v5 = _ := (if_neg c1003).trans ((if_pos c1004).trans ((bd_eq ex1005).trans (rfl)))
        rw [E] at hk
        exact ih _ _ _ _ _ _ hMn hTn hk
noncomputable def f_X12_number (S : HSt) (_o : Nat) (a1 : Int32) (a2 : Int32) (a3 : Int32) : HSt := if (gI S 64 16) ≤ 0 then (bd ((gI S 64 14)) fun x2 => bd (L_X12_number_17 1000 S a1 a2 a3 (0 : Int32) x2) fun r3 => bd ((if (gI S 64 13) = (3 : Int32) then (if (f_X12_in S r3.2.2.2.1.toInt64 r3.2.1.toInt64 r3.2.2.1.toInt64) = 0 then (bd (f_X12_bad S 64 (2 : Int32)) fun r6 => r6) else S) else S)) fun S7 => bd ((if (gI S7 64 13) = (3 : Int32) then (1 : Int32) else (0 : Int32))) fun x9 => bd (f_X12_must S7 64 x9) fun r10 => bd ((if (gI r10 64 16) = 0 then (bd ((sI r10 69 r3.1.toNatClampNeg r3.2.2.2.1)) fun S12 => S12) else r10)) fun S13 => S13) else (S)
def p_X12_number (S : HSt) (_o : Nat) (a1 : Int32) (a2 : Int32) (a3 : Int32) : Prop := (((gI S 64 16) ≤ 0) → ∀ x2 : Int32, (gI S 64 14) = x2 → T_X12_number_17 1000 S a1 a2 a3 (0 : Int32) x2) ∧ (((gI S 64 16) ≤ 0) → ∀ x2 : Int32, (gI S 64 14) = x2 → ∀ r3, L_X12_number_17 1000 S a1 a2 a3 (0 : Int32) x2 = r3 → ∀ S7 : HSt, (if (gI S 64 13) = (3 : Int32) then (if (f_X12_in S r3.2.2.2.1.toInt64 r3.2.1.toInt64 r3.2.2.1.toInt64) = 0 then (bd (f_X12_bad S 64 (2 : Int32)) fun r6 => r6) else S) else S) = S7 → ∀ x9 : Int32, (if (gI S7 64 13) = (3 : Int32) then (1 : Int32) else (0 : Int32)) = x9 → p_X12_must S7 64 x9) ∧ (((gI S 64 16) ≤ 0) → ∀ x2 : Int32, (gI S 64 14) = x2 → ∀ r3, L_X12_number_17 1000 S a1 a2 a3 (0 : Int32) x2 = r3 → ∀ S7 : HSt, (if (gI S 64 13) = (3 : Int32) then (if (f_X12_in S r3.2.2.2.1.toInt64 r3.2.1.toInt64 r3.2.2.1.toInt64) = 0 then (bd (f_X12_bad S 64 (2 : Int32)) fun r6 => r6) else S) else S) = S7 → ∀ x9 : Int32, (if (gI S7 64 13) = (3 : Int32) then (1 : Int32) else (0 : Int32)) = x9 → ∀ r10, f_X12_must S7 64 x9 = r10 → ((gI r10 64 16) = 0) → vp_in r3.1 172)
set_option maxRecDepth 100000 in
theorem t_X12_number (G : GG) (l : Launch) {S : HSt} (hM : MS S) (a1 : Int32) (a2 : Int32) (a3 : Int32) (hp : p_X12_number S 64 a1 a2 a3) : AM G l yX12_number cX12_number 6 none (rmD 3 0 0) 0 0 [.ref 64, .int a1, .int a2, .int a3] S (FP none (f_X12_number S 64 a1 a2 a3)) := by
  obtain ⟨h0, h1, h2⟩ := hp
  refine AM.mk (by decide) (Nat.le_of_ble_eq_true rfl) ?_
  intro p e s m below meth c hC hSt _
  refine aw_aload_n hC 0 dX12_number_0 rfl rfl ?_
  refine aw_getI hC hSt 16 (ms_lt 64 (by decide) hM) (ms_k 64 12 0 (by decide) hM) rfl (by decide) w_988 rfl dX12_number_1 ?_
  refine aw_if_le hC 8 dX12_number_4 (by decide) (fun c1 => ?_) (fun c1 => ?_)
  · refine aw_iconst (v := 0) hC dX12_number_8 (by decide) ?_
    refine aw_istore hC [(4, .int _), (0, .ref 64), (1, .int _), (2, .int _), (3, .int _)] dX12_number_9 (by decide) rfl ?_
    refine aw_aload_n hC 1 dX12_number_11 rfl rfl ?_
    refine aw_getI hC hSt 14 (ms_lt 64 (by decide) hM) (ms_k 64 12 0 (by decide) hM) rfl (by decide) w_977 rfl dX12_number_12 ?_
    refine aw_istore hC [(5, .int _), (4, .int _), (0, .ref 64), (1, .int _), (2, .int _), (3, .int _)] dX12_number_15 (by decide) rfl ?_
    generalize ex2 : (gI S 64 14) = x2
    refine aw_sub [2, 3, 4, 5, 1, 0] rfl ?_
    refine l_X12_number_17 hC hSt 1000 _ _ _ _ _ _ hM (h0 c1 x2 ex2) ?_
    generalize er3 : L_X12_number_17 1000 S a1 a2 a3 (0 : Int32) x2 = r3
    refine aw_aload_n hC 0 dX12_number_58 rfl rfl ?_
    refine aw_getI hC hSt 13 (ms_lt 64 (by decide) hM) (ms_k 64 12 0 (by decide) hM) rfl (by decide) w_978 rfl dX12_number_59 ?_
    refine aw_iconst (v := 3) hC dX12_number_62 (by decide) ?_
    refine aw_cut (S' := (if (gI S 64 13) = (3 : Int32) then (if (f_X12_in S r3.2.2.2.1.toInt64 r3.2.1.toInt64 r3.2.2.1.toInt64) = 0 then (bd (f_X12_bad S 64 (2 : Int32)) fun r6 => r6) else S) else S)) (pc' := 84) (lv' := [(0, .ref 64), (1, .int r3.1), (2, .int r3.2.1), (3, .int r3.2.2.1), (4, .int r3.2.2.2.1), (5, .int r3.2.2.2.2)]) (st' := []) ?_ (fun Jc4 => ?_)
    · generalize eS7 : (if (gI S 64 13) = (3 : Int32) then (if (f_X12_in S r3.2.2.2.1.toInt64 r3.2.1.toInt64 r3.2.2.1.toInt64) = 0 then (bd (f_X12_bad S 64 (2 : Int32)) fun r6 => r6) else S) else S) = S7
      have hM : MS S7 := MS.of (by rw [← eS7]; repeat' (first | with_reducible rfl | with_reducible refine (q_X12_bad _ _ _).trans ?_ | with_reducible refine (q_X12_must _ _ _).trans ?_ | with_reducible refine (shp_sI _ _ _ _).trans ?_ | with_reducible refine (shp_sJ _ _ _ _).trans ?_ | with_reducible refine shi ?_ ?_ | with_reducible refine shb (fun _ _ => ?_) | (subst_vars; with_reducible rfl) | (subst_vars; with_reducible refine (q_X12_bad _ _ _).trans ?_) | (subst_vars; with_reducible refine (q_X12_must _ _ _).trans ?_) | (subst_vars; with_reducible refine (shp_sI _ _ _ _).trans ?_) | (subst_vars; with_reducible refine (shp_sJ _ _ _ _).trans ?_) | (subst_vars; with_reducible refine shi ?_ ?_) | (subst_vars; with_reducible refine shb (fun _ _ => ?_)))) hM
      refine aw_aload_n hC 0 dX12_number_84 rfl rfl ?_
      refine aw_aload_n hC 0 dX12_number_85 rfl rfl ?_
      refine aw_getI hC hSt 13 (ms_lt 64 (by decide) hM) (ms_k 64 12 0 (by decide) hM) rfl (by decide) w_978 rfl dX12_number_86 ?_
      refine aw_iconst (v := 3) hC dX12_number_89 (by decide) ?_
      refine aw_cut (S' := S7) (pc' := 98) (lv' := [(0, .ref 64), (1, .int r3.1), (2, .int r3.2.1), (3, .int r3.2.2.1), (4, .int r3.2.2.2.1), (5, .int r3.2.2.2.2)]) (st' := [.int (if (gI S7 64 13) = (3 : Int32) then (1 : Int32) else (0 : Int32)), .ref 64]) ?_ (fun Jc8 => ?_)
      · generalize ex9 : (if (gI S7 64 13) = (3 : Int32) then (1 : Int32) else (0 : Int32)) = x9
        refine aw_cV1v hC hSt (t_X12_must G l hM _ (h1 c1 x2 ex2 r3 er3 S7 eS7 x9 ex9)) w_996 w_998 w_999 w_1000 w_953 rfl rfl (by decide +kernel) ⟨Nat.le_of_ble_eq_true rfl, Nat.le_of_ble_eq_true rfl⟩ (ms_lt 64 (by decide) hM) (ms_k 64 12 0 (by decide) hM) rfl (Nat.le_of_ble_eq_true rfl) dX12_number_98 ⟨Nat.zero_le _, Nat.zero_le _⟩ ?_
        generalize er10 : f_X12_must S7 64 x9 = r10
        have hM : MS r10 := MS.of (by rw [← er10]; exact q_X12_must _ _ _) hM
        refine aw_aload_n hC 0 dX12_number_101 rfl rfl ?_
        refine aw_getI hC hSt 16 (ms_lt 64 (by decide) hM) (ms_k 64 12 0 (by decide) hM) rfl (by decide) w_988 rfl dX12_number_102 ?_
        refine aw_cut (S' := (if (gI r10 64 16) = 0 then (bd ((sI r10 69 r3.1.toNatClampNeg r3.2.2.2.1)) fun S12 => S12) else r10)) (pc' := 116) (lv' := [(0, .ref 64), (1, .int r3.1), (2, .int r3.2.1), (3, .int r3.2.2.1), (4, .int r3.2.2.2.1), (5, .int r3.2.2.2.2)]) (st' := []) ?_ (fun Jc11 => ?_)
        · generalize eS13 : (if (gI r10 64 16) = 0 then (bd ((sI r10 69 r3.1.toNatClampNeg r3.2.2.2.1)) fun S12 => S12) else r10) = S13
          have hM : MS S13 := MS.of (by rw [← eS13]; repeat' (first | with_reducible rfl | with_reducible refine (q_X12_bad _ _ _).trans ?_ | with_reducible refine (q_X12_must _ _ _).trans ?_ | with_reducible refine (shp_sI _ _ _ _).trans ?_ | with_reducible refine (shp_sJ _ _ _ _).trans ?_ | with_reducible refine shi ?_ ?_ | with_reducible refine shb (fun _ _ => ?_) | (subst_vars; with_reducible rfl) | (subst_vars; with_reducible refine (q_X12_bad _ _ _).trans ?_) | (subst_vars; with_reducible refine (q_X12_must _ _ _).trans ?_) | (subst_vars; with_reducible refine (shp_sI _ _ _ _).trans ?_) | (subst_vars; with_reducible refine (shp_sJ _ _ _ _).trans ?_) | (subst_vars; with_reducible refine shi ?_ ?_) | (subst_vars; with_reducible refine shb (fun _ _ => ?_)))) hM
          refine aw_vret hC dX12_number_116 (Nat.le_refl _) (Nat.le_refl _) ?_
          exact FP.qV ((if_pos c1).trans ((bd_eq ex2).trans ((bd_eq er3).trans ((bd_eq eS7).trans ((bd_eq ex9).trans ((bd_eq er10).trans ((bd_eq eS13).trans (rfl))))))))
        · refine aw_if_ne hC 116 dX12_number_105 (by decide) (fun c11 => ?_) (fun c11 => ?_)
          · simp only [bd_def, if_neg c11] at Jc11 ⊢
            exact Jc11
          · refine aw_aload_n hC 0 dX12_number_108 rfl rfl ?_
            refine aw_getP (b := 69) hC hSt 6 (ms_lt 64 (by decide) hM) (ms_k 64 12 0 (by decide) hM) rfl (by decide) w_921 rfl (ms_p 6 69 (by decide) hM) dX12_number_109 ?_
            refine aw_iload_n hC 1 dX12_number_112 rfl rfl ?_
            refine aw_iload hC 4 dX12_number_113 rfl ?_
            refine aw_iast hC hSt (ms_lt 69 (by decide) hM) (ms_k 69 14 172 (by decide) hM) (vp_len (n := 172) (ms_l 69 14 172 (by decide) hM) (h2 c1 x2 ex2 r3 er3 S7 eS7 x9 ex9 r10 er10 c11)) dX12_number_115 ?_
            generalize eS12 : (sI r10 69 r3.1.toNatClampNeg r3.2.2.2.1) = S12
            have hM : MS S12 := MS.of (by rw [← eS12]; exact shp_sI _ _ _ _) hM
            subst eS12
            simp only [bd_def, if_pos c11] at Jc11 ⊢
            exact Jc11
      · refine aw_icmp_ne hC 97 dX12_number_90 (by decide) (fun c8 => ?_) (fun c8 => ?_)
        · refine aw_iconst (v := 0) hC dX12_number_97 (by decide) ?_
          simp only [bd_def, if_neg c8] at Jc8 ⊢
          exact Jc8
        · refine aw_iconst (v := 1) hC dX12_number_93 (by decide) ?_
          refine aw_goto hC 98 dX12_number_94 (by decide) ?_
          simp only [bd_def, if_pos c8] at Jc8 ⊢
          exact Jc8
    · refine aw_icmp_ne hC 84 dX12_number_63 (by decide) (fun c4 => ?_) (fun c4 => ?_)
      · simp only [bd_def, if_neg c4] at Jc4 ⊢
        exact Jc4
      · refine aw_iload hC 4 dX12_number_66 rfl ?_
        refine aw_i2l hC dX12_number_68 ?_
        refine aw_iload_n hC 2 dX12_number_69 rfl rfl ?_
        refine aw_i2l hC dX12_number_70 ?_
        refine aw_iload_n hC 3 dX12_number_71 rfl rfl ?_
        refine aw_i2l hC dX12_number_72 ?_
        refine aw_cS3r hC hSt (t_X12_in G l  _ _ _) w_945 w_951 w_952 w_953 rfl rfl (by decide +kernel) ⟨Nat.le_of_ble_eq_true rfl, Nat.le_of_ble_eq_true rfl⟩ (Nat.le_of_ble_eq_true rfl) dX12_number_73 ⟨Nat.zero_le _, Nat.zero_le _⟩ ?_
        refine aw_if_ne hC 84 dX12_number_76 (by decide) (fun c5 => ?_) (fun c5 => ?_)
        · simp only [bd_def, if_pos c4, if_neg c5] at Jc4 ⊢
          exact Jc4
        · refine aw_aload_n hC 0 dX12_number_79 rfl rfl ?_
          refine aw_iconst (v := 2) hC dX12_number_80 (by decide) ?_
          refine aw_cV1v hC hSt (t_X12_bad G l hM _) w_987 w_990 w_991 w_992 w_953 rfl rfl (by decide +kernel) ⟨Nat.le_of_ble_eq_true rfl, Nat.le_of_ble_eq_true rfl⟩ (ms_lt 64 (by decide) hM) (ms_k 64 12 0 (by decide) hM) rfl (Nat.le_of_ble_eq_true rfl) dX12_number_81 ⟨Nat.zero_le _, Nat.zero_le _⟩ ?_
          generalize er6 : f_X12_bad S 64 (2 : Int32) = r6
          have hM : MS r6 := MS.of (by rw [← er6]; exact q_X12_bad _ _ _) hM
          subst er6
          simp only [bd_def, if_pos c4, if_pos c5] at Jc4 ⊢
          exact Jc4
  · refine aw_vret hC dX12_number_7 (Nat.le_refl _) (Nat.le_refl _) ?_
    exact FP.qV ((if_neg c1).trans (rfl))
theorem q_X12_number (S : HSt) (_o : Nat) (a1 : Int32) (a2 : Int32) (a3 : Int32) : shp (f_X12_number S _o a1 a2 a3) = shp S := by
  unfold f_X12_number
  repeat' (first | with_reducible rfl | with_reducible refine (q_X12_bad _ _ _).trans ?_ | with_reducible refine (q_X12_must _ _ _).trans ?_ | with_reducible refine (shp_sI _ _ _ _).trans ?_ | with_reducible refine (shp_sJ _ _ _ _).trans ?_ | with_reducible refine shi ?_ ?_ | with_reducible refine shb (fun _ _ => ?_) | (subst_vars; with_reducible rfl) | (subst_vars; with_reducible refine (q_X12_bad _ _ _).trans ?_) | (subst_vars; with_reducible refine (q_X12_must _ _ _).trans ?_) | (subst_vars; with_reducible refine (shp_sI _ _ _ _).trans ?_) | (subst_vars; with_reducible refine (shp_sJ _ _ _ _).trans ?_) | (subst_vars; with_reducible refine shi ?_ ?_) | (subst_vars; with_reducible refine shb (fun _ _ => ?_)))
theorem v_X12_number (S : HSt) (_o : Nat) (a1 : Int32) (a2 : Int32) (a3 : Int32) : Fr [(64, 12), (64, 13), (64, 14), (64, 15), (64, 16), (64, 17), (69, 1000)] S (f_X12_number S _o a1 a2 a3) := by
  unfold f_X12_number
  repeat' (first | with_reducible exact Fr.refl _ _ | with_reducible refine Fr.l1 (fun _ _ => ?_) | with_reducible refine Fr.ite ?_ ?_ | with_reducible refine Fr.sE (by assumption) (by first | decide | simp only [List.mem_cons, List.not_mem_nil, or_false, true_or, or_true, eq_self_iff_true]) ?_ | with_reducible refine Fr.jE (by assumption) ?_ | with_reducible refine Fr.rE (by assumption) (by first | decide | simp only [List.mem_cons, List.not_mem_nil, or_false, true_or, or_true, eq_self_iff_true]) ?_ | with_reducible refine Fr.iE (by assumption) ?_ ?_ | with_reducible refine Fr.tr (w_X12_bad _ _ _ _ (by assumption)) (by first | decide | simp only [List.mem_cons, List.not_mem_nil, or_false, forall_eq_or_imp, forall_eq, true_or, or_true, and_self, eq_self_iff_true]) ?_ | with_reducible refine Fr.tr (w_X12_must _ _ _ _ (by assumption)) (by first | decide | simp only [List.mem_cons, List.not_mem_nil, or_false, forall_eq_or_imp, forall_eq, true_or, or_true, and_self, eq_self_iff_true]) ?_)
theorem w_X12_number (S : HSt) (_o : Nat) (a1 : Int32) (a2 : Int32) (a3 : Int32) (r : HSt) (e : f_X12_number S _o a1 a2 a3 = r) : Fr [(64, 12), (64, 13), (64, 14), (64, 15), (64, 16), (64, 17), (69, 1000)] S r := by
  rw [← e]
  exact v_X12_number S _o a1 a2 a3
noncomputable def f_X12_begins (S : HSt) (_o : Nat) (a1 : Int32) (a2 : Int32) (a3 : Int32) (a4 : Int32) : Int32 × HSt := bd ((if (gI S 69 a1.toNatClampNeg) = a2 then (bd (f_X12_bad S 64 (3 : Int32)) fun r2 => r2) else S)) fun S3 => bd (f_X12_must S3 64 (1 : Int32)) fun r4 => pr ((a3 + (a4 * (gI r4 69 a1.toNatClampNeg)))) (r4)
def p_X12_begins (S : HSt) (_o : Nat) (a1 : Int32) (a2 : Int32) (a3 : Int32) (a4 : Int32) : Prop := (vp_in a1 172) ∧ (∀ S3 : HSt, (if (gI S 69 a1.toNatClampNeg) = a2 then (bd (f_X12_bad S 64 (3 : Int32)) fun r2 => r2) else S) = S3 → p_X12_must S3 64 (1 : Int32)) ∧ (∀ S3 : HSt, (if (gI S 69 a1.toNatClampNeg) = a2 then (bd (f_X12_bad S 64 (3 : Int32)) fun r2 => r2) else S) = S3 → ∀ r4, f_X12_must S3 64 (1 : Int32) = r4 → vp_in a1 172)
set_option maxRecDepth 100000 in
theorem t_X12_begins (G : GG) (l : Launch) {S : HSt} (hM : MS S) (a1 : Int32) (a2 : Int32) (a3 : Int32) (a4 : Int32) (hp : p_X12_begins S 64 a1 a2 a3 a4) : AM G l yX12_begins cX12_begins 5 (some .int) (rmD 3 0 0) 0 0 [.ref 64, .int a1, .int a2, .int a3, .int a4] S (FP (some (.int (f_X12_begins S 64 a1 a2 a3 a4).1)) ((f_X12_begins S 64 a1 a2 a3 a4).2)) := by
  obtain ⟨h0, h1, h2⟩ := hp
  refine AM.mk (by decide) (Nat.le_of_ble_eq_true rfl) ?_
  intro p e s m below meth c hC hSt _
  refine aw_aload_n hC 0 dX12_begins_0 rfl rfl ?_
  refine aw_getP (b := 69) hC hSt 6 (ms_lt 64 (by decide) hM) (ms_k 64 12 0 (by decide) hM) rfl (by decide) w_921 rfl (ms_p 6 69 (by decide) hM) dX12_begins_1 ?_
  refine aw_iload_n hC 1 dX12_begins_4 rfl rfl ?_
  refine aw_iald hC hSt (ms_lt 69 (by decide) hM) (ms_k 69 14 172 (by decide) hM) (vp_len (n := 172) (ms_l 69 14 172 (by decide) hM) (h0)) dX12_begins_5 ?_
  refine aw_iload_n hC 2 dX12_begins_6 rfl rfl ?_
  refine aw_cut (S' := (if (gI S 69 a1.toNatClampNeg) = a2 then (bd (f_X12_bad S 64 (3 : Int32)) fun r2 => r2) else S)) (pc' := 15) (lv' := [(0, .ref 64), (1, .int a1), (2, .int a2), (3, .int a3), (4, .int a4)]) (st' := []) ?_ (fun Jc1 => ?_)
  · generalize eS3 : (if (gI S 69 a1.toNatClampNeg) = a2 then (bd (f_X12_bad S 64 (3 : Int32)) fun r2 => r2) else S) = S3
    have hM : MS S3 := MS.of (by rw [← eS3]; repeat' (first | with_reducible rfl | with_reducible refine (q_X12_bad _ _ _).trans ?_ | with_reducible refine (q_X12_must _ _ _).trans ?_ | with_reducible refine (shp_sI _ _ _ _).trans ?_ | with_reducible refine (shp_sJ _ _ _ _).trans ?_ | with_reducible refine shi ?_ ?_ | with_reducible refine shb (fun _ _ => ?_) | (subst_vars; with_reducible rfl) | (subst_vars; with_reducible refine (q_X12_bad _ _ _).trans ?_) | (subst_vars; with_reducible refine (q_X12_must _ _ _).trans ?_) | (subst_vars; with_reducible refine (shp_sI _ _ _ _).trans ?_) | (subst_vars; with_reducible refine (shp_sJ _ _ _ _).trans ?_) | (subst_vars; with_reducible refine shi ?_ ?_) | (subst_vars; with_reducible refine shb (fun _ _ => ?_)))) hM
    refine aw_aload_n hC 0 dX12_begins_15 rfl rfl ?_
    refine aw_iconst (v := 1) hC dX12_begins_16 (by decide) ?_
    refine aw_cV1v hC hSt (t_X12_must G l hM _ (h1 S3 eS3)) w_996 w_998 w_999 w_1000 w_953 rfl rfl (by decide +kernel) ⟨Nat.le_of_ble_eq_true rfl, Nat.le_of_ble_eq_true rfl⟩ (ms_lt 64 (by decide) hM) (ms_k 64 12 0 (by decide) hM) rfl (Nat.le_of_ble_eq_true rfl) dX12_begins_17 ⟨Nat.zero_le _, Nat.zero_le _⟩ ?_
    generalize er4 : f_X12_must S3 64 (1 : Int32) = r4
    have hM : MS r4 := MS.of (by rw [← er4]; exact q_X12_must _ _ _) hM
    refine aw_iload_n hC 3 dX12_begins_20 rfl rfl ?_
    refine aw_iload hC 4 dX12_begins_21 rfl ?_
    refine aw_aload_n hC 0 dX12_begins_23 rfl rfl ?_
    refine aw_getP (b := 69) hC hSt 6 (ms_lt 64 (by decide) hM) (ms_k 64 12 0 (by decide) hM) rfl (by decide) w_921 rfl (ms_p 6 69 (by decide) hM) dX12_begins_24 ?_
    refine aw_iload_n hC 1 dX12_begins_27 rfl rfl ?_
    refine aw_iald hC hSt (ms_lt 69 (by decide) hM) (ms_k 69 14 172 (by decide) hM) (vp_len (n := 172) (ms_l 69 14 172 (by decide) hM) (h2 S3 eS3 r4 er4)) dX12_begins_28 ?_
    refine aw_imul hC dX12_begins_29 ?_
    refine aw_iadd hC dX12_begins_30 ?_
    refine aw_iret hC dX12_begins_31 (Nat.le_refl _) (Nat.le_refl _) ?_
    exact FP.qI ((bd_eq eS3).trans ((bd_eq er4).trans (rfl)))
  · refine aw_icmp_ne hC 15 dX12_begins_7 (by decide) (fun c1 => ?_) (fun c1 => ?_)
    · simp only [bd_def, if_neg c1] at Jc1 ⊢
      exact Jc1
    · refine aw_aload_n hC 0 dX12_begins_10 rfl rfl ?_
      refine aw_iconst (v := 3) hC dX12_begins_11 (by decide) ?_
      refine aw_cV1v hC hSt (t_X12_bad G l hM _) w_987 w_990 w_991 w_992 w_953 rfl rfl (by decide +kernel) ⟨Nat.le_of_ble_eq_true rfl, Nat.le_of_ble_eq_true rfl⟩ (ms_lt 64 (by decide) hM) (ms_k 64 12 0 (by decide) hM) rfl (Nat.le_of_ble_eq_true rfl) dX12_begins_12 ⟨Nat.zero_le _, Nat.zero_le _⟩ ?_
      generalize er2 : f_X12_bad S 64 (3 : Int32) = r2
      have hM : MS r2 := MS.of (by rw [← er2]; exact q_X12_bad _ _ _) hM
      subst er2
      simp only [bd_def, if_pos c1] at Jc1 ⊢
      exact Jc1
theorem q_X12_begins (S : HSt) (_o : Nat) (a1 : Int32) (a2 : Int32) (a3 : Int32) (a4 : Int32) : shp ((f_X12_begins S _o a1 a2 a3 a4).2) = shp S := by
  unfold f_X12_begins
  repeat' (first | with_reducible refine shpr1 ?_ | with_reducible rfl | with_reducible refine (q_X12_bad _ _ _).trans ?_ | with_reducible refine (q_X12_must _ _ _).trans ?_ | with_reducible refine (shp_sI _ _ _ _).trans ?_ | with_reducible refine (shp_sJ _ _ _ _).trans ?_ | with_reducible refine shi ?_ ?_ | with_reducible refine shb (fun _ _ => ?_) | with_reducible refine shiP (fun q : Int32 × HSt => q.2) ?_ ?_ | with_reducible refine shbP (fun q : Int32 × HSt => q.2) (fun _ _ => ?_) | (subst_vars; with_reducible rfl) | (subst_vars; with_reducible refine (q_X12_bad _ _ _).trans ?_) | (subst_vars; with_reducible refine (q_X12_must _ _ _).trans ?_) | (subst_vars; with_reducible refine (shp_sI _ _ _ _).trans ?_) | (subst_vars; with_reducible refine (shp_sJ _ _ _ _).trans ?_) | (subst_vars; with_reducible refine shi ?_ ?_) | (subst_vars; with_reducible refine shb (fun _ _ => ?_)))
theorem v_X12_begins (S : HSt) (_o : Nat) (a1 : Int32) (a2 : Int32) (a3 : Int32) (a4 : Int32) : Fr [(64, 12), (64, 13), (64, 14), (64, 15), (64, 16), (64, 17)] S ((f_X12_begins S _o a1 a2 a3 a4).2) := by
  unfold f_X12_begins
  repeat' (first | with_reducible refine frpr1 ?_ | with_reducible exact Fr.refl _ _ | with_reducible refine Fr.lP (fun q : Int32 × HSt => q.2) (fun _ _ => ?_) | with_reducible refine Fr.iteP (fun q : Int32 × HSt => q.2) ?_ ?_ | with_reducible refine Fr.l1 (fun _ _ => ?_) | with_reducible refine Fr.ite ?_ ?_ | with_reducible refine Fr.sE (by assumption) (by first | decide | simp only [List.mem_cons, List.not_mem_nil, or_false, true_or, or_true, eq_self_iff_true]) ?_ | with_reducible refine Fr.jE (by assumption) ?_ | with_reducible refine Fr.rE (by assumption) (by first | decide | simp only [List.mem_cons, List.not_mem_nil, or_false, true_or, or_true, eq_self_iff_true]) ?_ | with_reducible refine Fr.iE (by assumption) ?_ ?_ | with_reducible refine Fr.tr (w_X12_bad _ _ _ _ (by assumption)) (by first | decide | simp only [List.mem_cons, List.not_mem_nil, or_false, forall_eq_or_imp, forall_eq, true_or, or_true, and_self, eq_self_iff_true]) ?_ | with_reducible refine Fr.tr (w_X12_must _ _ _ _ (by assumption)) (by first | decide | simp only [List.mem_cons, List.not_mem_nil, or_false, forall_eq_or_imp, forall_eq, true_or, or_true, and_self, eq_self_iff_true]) ?_)
theorem w_X12_begins (S : HSt) (_o : Nat) (a1 : Int32) (a2 : Int32) (a3 : Int32) (a4 : Int32) (r : Int32 × HSt) (e : f_X12_begins S _o a1 a2 a3 a4 = r) : Fr [(64, 12), (64, 13), (64, 14), (64, 15), (64, 16), (64, 17)] S r.2 := by
  rw [← e]
  exact v_X12_begins S _o a1 a2 a3 a4
noncomputable def f_X12_ends (S : HSt) (_o : Nat) (a1 : Int32) : HSt := bd ((if (gI S 64 16) = 0 then (bd ((if (gI S 64 13) = (4 : Int32) then (1 : Int32) else (0 : Int32))) fun x3 => bd (f_X12_must S 64 x3) fun r4 => r4) else S)) fun S5 => bd ((if (gI S5 64 16) = 0 then (1 : Int32) else (0 : Int32))) fun x7 => bd ((sI S5 69 a1.toNatClampNeg ((gI S5 69 a1.toNatClampNeg) + x7))) fun S8 => S8
def p_X12_ends (S : HSt) (_o : Nat) (a1 : Int32) : Prop := (((gI S 64 16) = 0) → ∀ x3 : Int32, (if (gI S 64 13) = (4 : Int32) then (1 : Int32) else (0 : Int32)) = x3 → p_X12_must S 64 x3) ∧ (∀ S5 : HSt, (if (gI S 64 16) = 0 then (bd ((if (gI S 64 13) = (4 : Int32) then (1 : Int32) else (0 : Int32))) fun x3 => bd (f_X12_must S 64 x3) fun r4 => r4) else S) = S5 → vp_in a1 172) ∧ (∀ S5 : HSt, (if (gI S 64 16) = 0 then (bd ((if (gI S 64 13) = (4 : Int32) then (1 : Int32) else (0 : Int32))) fun x3 => bd (f_X12_must S 64 x3) fun r4 => r4) else S) = S5 → ∀ x7 : Int32, (if (gI S5 64 16) = 0 then (1 : Int32) else (0 : Int32)) = x7 → vp_in a1 172)
set_option maxRecDepth 100000 in
theorem t_X12_ends (G : GG) (l : Launch) {S : HSt} (hM : MS S) (a1 : Int32) (hp : p_X12_ends S 64 a1) : AM G l yX12_ends cX12_ends 2 none (rmD 3 0 0) 0 0 [.ref 64, .int a1] S (FP none (f_X12_ends S 64 a1)) := by
  obtain ⟨h0, h1, h2⟩ := hp
  refine AM.mk (by decide) (Nat.le_of_ble_eq_true rfl) ?_
  intro p e s m below meth c hC hSt _
  refine aw_aload_n hC 0 dX12_ends_0 rfl rfl ?_
  refine aw_getI hC hSt 16 (ms_lt 64 (by decide) hM) (ms_k 64 12 0 (by decide) hM) rfl (by decide) w_988 rfl dX12_ends_1 ?_
  refine aw_cut (S' := (if (gI S 64 16) = 0 then (bd ((if (gI S 64 13) = (4 : Int32) then (1 : Int32) else (0 : Int32))) fun x3 => bd (f_X12_must S 64 x3) fun r4 => r4) else S)) (pc' := 24) (lv' := [(0, .ref 64), (1, .int a1)]) (st' := []) ?_ (fun Jc1 => ?_)
  · generalize eS5 : (if (gI S 64 16) = 0 then (bd ((if (gI S 64 13) = (4 : Int32) then (1 : Int32) else (0 : Int32))) fun x3 => bd (f_X12_must S 64 x3) fun r4 => r4) else S) = S5
    have hM : MS S5 := MS.of (by rw [← eS5]; repeat' (first | with_reducible rfl | with_reducible refine (q_X12_must _ _ _).trans ?_ | with_reducible refine (shp_sI _ _ _ _).trans ?_ | with_reducible refine (shp_sJ _ _ _ _).trans ?_ | with_reducible refine shi ?_ ?_ | with_reducible refine shb (fun _ _ => ?_) | (subst_vars; with_reducible rfl) | (subst_vars; with_reducible refine (q_X12_must _ _ _).trans ?_) | (subst_vars; with_reducible refine (shp_sI _ _ _ _).trans ?_) | (subst_vars; with_reducible refine (shp_sJ _ _ _ _).trans ?_) | (subst_vars; with_reducible refine shi ?_ ?_) | (subst_vars; with_reducible refine shb (fun _ _ => ?_)))) hM
    refine aw_aload_n hC 0 dX12_ends_24 rfl rfl ?_
    refine aw_getP (b := 69) hC hSt 6 (ms_lt 64 (by decide) hM) (ms_k 64 12 0 (by decide) hM) rfl (by decide) w_921 rfl (ms_p 6 69 (by decide) hM) dX12_ends_25 ?_
    refine aw_iload_n hC 1 dX12_ends_28 rfl rfl ?_
    refine aw_dup2_11 hC dX12_ends_29 rfl rfl ?_
    refine aw_iald hC hSt (ms_lt 69 (by decide) hM) (ms_k 69 14 172 (by decide) hM) (vp_len (n := 172) (ms_l 69 14 172 (by decide) hM) (h1 S5 eS5)) dX12_ends_30 ?_
    refine aw_aload_n hC 0 dX12_ends_31 rfl rfl ?_
    refine aw_getI hC hSt 16 (ms_lt 64 (by decide) hM) (ms_k 64 12 0 (by decide) hM) rfl (by decide) w_988 rfl dX12_ends_32 ?_
    refine aw_cut (S' := S5) (pc' := 43) (lv' := [(0, .ref 64), (1, .int a1)]) (st' := [.int (if (gI S5 64 16) = 0 then (1 : Int32) else (0 : Int32)), .int (gI S5 69 a1.toNatClampNeg), .int a1, .ref 69]) ?_ (fun Jc6 => ?_)
    · generalize ex7 : (if (gI S5 64 16) = 0 then (1 : Int32) else (0 : Int32)) = x7
      refine aw_iadd hC dX12_ends_43 ?_
      refine aw_iast hC hSt (ms_lt 69 (by decide) hM) (ms_k 69 14 172 (by decide) hM) (vp_len (n := 172) (ms_l 69 14 172 (by decide) hM) (h2 S5 eS5 x7 ex7)) dX12_ends_44 ?_
      generalize eS8 : (sI S5 69 a1.toNatClampNeg ((gI S5 69 a1.toNatClampNeg) + x7)) = S8
      have hM : MS S8 := MS.of (by rw [← eS8]; exact shp_sI _ _ _ _) hM
      refine aw_vret hC dX12_ends_45 (Nat.le_refl _) (Nat.le_refl _) ?_
      exact FP.qV ((bd_eq eS5).trans ((bd_eq ex7).trans ((bd_eq eS8).trans (rfl))))
    · refine aw_if_ne hC 42 dX12_ends_35 (by decide) (fun c6 => ?_) (fun c6 => ?_)
      · refine aw_iconst (v := 0) hC dX12_ends_42 (by decide) ?_
        simp only [bd_def, if_neg c6] at Jc6 ⊢
        exact Jc6
      · refine aw_iconst (v := 1) hC dX12_ends_38 (by decide) ?_
        refine aw_goto hC 43 dX12_ends_39 (by decide) ?_
        simp only [bd_def, if_pos c6] at Jc6 ⊢
        exact Jc6
  · refine aw_if_ne hC 24 dX12_ends_4 (by decide) (fun c1 => ?_) (fun c1 => ?_)
    · simp only [bd_def, if_neg c1] at Jc1 ⊢
      exact Jc1
    · refine aw_aload_n hC 0 dX12_ends_7 rfl rfl ?_
      refine aw_aload_n hC 0 dX12_ends_8 rfl rfl ?_
      refine aw_getI hC hSt 13 (ms_lt 64 (by decide) hM) (ms_k 64 12 0 (by decide) hM) rfl (by decide) w_978 rfl dX12_ends_9 ?_
      refine aw_iconst (v := 4) hC dX12_ends_12 (by decide) ?_
      refine aw_cut (S' := S) (pc' := 21) (lv' := [(0, .ref 64), (1, .int a1)]) (st' := [.int (if (gI S 64 13) = (4 : Int32) then (1 : Int32) else (0 : Int32)), .ref 64]) ?_ (fun Jc2 => ?_)
      · generalize ex3 : (if (gI S 64 13) = (4 : Int32) then (1 : Int32) else (0 : Int32)) = x3
        refine aw_cV1v hC hSt (t_X12_must G l hM _ (h0 c1 x3 ex3)) w_996 w_998 w_999 w_1000 w_953 rfl rfl (by decide +kernel) ⟨Nat.le_of_ble_eq_true rfl, Nat.le_of_ble_eq_true rfl⟩ (ms_lt 64 (by decide) hM) (ms_k 64 12 0 (by decide) hM) rfl (Nat.le_of_ble_eq_true rfl) dX12_ends_21 ⟨Nat.zero_le _, Nat.zero_le _⟩ ?_
        generalize er4 : f_X12_must S 64 x3 = r4
        have hM : MS r4 := MS.of (by rw [← er4]; exact q_X12_must _ _ _) hM
        subst er4
        subst ex3
        simp only [bd_def, if_pos c1] at Jc1 ⊢
        exact Jc1
      · refine aw_icmp_ne hC 20 dX12_ends_13 (by decide) (fun c2 => ?_) (fun c2 => ?_)
        · refine aw_iconst (v := 0) hC dX12_ends_20 (by decide) ?_
          simp only [bd_def, if_neg c2] at Jc2 ⊢
          exact Jc2
        · refine aw_iconst (v := 1) hC dX12_ends_16 (by decide) ?_
          refine aw_goto hC 21 dX12_ends_17 (by decide) ?_
          simp only [bd_def, if_pos c2] at Jc2 ⊢
          exact Jc2
theorem q_X12_ends (S : HSt) (_o : Nat) (a1 : Int32) : shp (f_X12_ends S _o a1) = shp S := by
  unfold f_X12_ends
  repeat' (first | with_reducible rfl | with_reducible refine (q_X12_must _ _ _).trans ?_ | with_reducible refine (shp_sI _ _ _ _).trans ?_ | with_reducible refine (shp_sJ _ _ _ _).trans ?_ | with_reducible refine shi ?_ ?_ | with_reducible refine shb (fun _ _ => ?_) | (subst_vars; with_reducible rfl) | (subst_vars; with_reducible refine (q_X12_must _ _ _).trans ?_) | (subst_vars; with_reducible refine (shp_sI _ _ _ _).trans ?_) | (subst_vars; with_reducible refine (shp_sJ _ _ _ _).trans ?_) | (subst_vars; with_reducible refine shi ?_ ?_) | (subst_vars; with_reducible refine shb (fun _ _ => ?_)))
theorem v_X12_ends (S : HSt) (_o : Nat) (a1 : Int32) : Fr [(64, 12), (64, 13), (64, 14), (64, 15), (64, 16), (64, 17), (69, 1000)] S (f_X12_ends S _o a1) := by
  unfold f_X12_ends
  repeat' (first | with_reducible exact Fr.refl _ _ | with_reducible refine Fr.l1 (fun _ _ => ?_) | with_reducible refine Fr.ite ?_ ?_ | with_reducible refine Fr.sE (by assumption) (by first | decide | simp only [List.mem_cons, List.not_mem_nil, or_false, true_or, or_true, eq_self_iff_true]) ?_ | with_reducible refine Fr.jE (by assumption) ?_ | with_reducible refine Fr.rE (by assumption) (by first | decide | simp only [List.mem_cons, List.not_mem_nil, or_false, true_or, or_true, eq_self_iff_true]) ?_ | with_reducible refine Fr.iE (by assumption) ?_ ?_ | with_reducible refine Fr.tr (w_X12_must _ _ _ _ (by assumption)) (by first | decide | simp only [List.mem_cons, List.not_mem_nil, or_false, forall_eq_or_imp, forall_eq, true_or, or_true, and_self, eq_self_iff_true]) ?_)
theorem w_X12_ends (S : HSt) (_o : Nat) (a1 : Int32) (r : HSt) (e : f_X12_ends S _o a1 = r) : Fr [(64, 12), (64, 13), (64, 14), (64, 15), (64, 16), (64, 17), (69, 1000)] S r := by
  rw [← e]
  exact v_X12_ends S _o a1