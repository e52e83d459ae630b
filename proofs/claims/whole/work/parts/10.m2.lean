noncomputable def f_X12_readRope (S : HSt) (_o : Nat)  : HSt := bd (f_X12_begins S 64 (0 : Int32) (3 : Int32) (6 : Int32) (3 : Int32)) fun r1 => bd (r1.1) fun x2 => bd (f_X12_number r1.2 64 x2 (40 : Int32) (400 : Int32)) fun r3 => bd (f_X12_number r3 64 (x2 + (1 : Int32)) (0 : Int32) (9 : Int32)) fun r4 => bd (f_X12_number r4 64 (x2 + (2 : Int32)) (0 : Int32) (1 : Int32)) fun r5 => bd (f_X12_ends r5 64 (0 : Int32)) fun r6 => r6
def p_X12_readRope (S : HSt) (_o : Nat)  : Prop := (p_X12_begins S 64 (0 : Int32) (3 : Int32) (6 : Int32) (3 : Int32)) ∧ (∀ r1, f_X12_begins S 64 (0 : Int32) (3 : Int32) (6 : Int32) (3 : Int32) = r1 → ∀ x2 : Int32, r1.1 = x2 → p_X12_number r1.2 64 x2 (40 : Int32) (400 : Int32)) ∧ (∀ r1, f_X12_begins S 64 (0 : Int32) (3 : Int32) (6 : Int32) (3 : Int32) = r1 → ∀ x2 : Int32, r1.1 = x2 → ∀ r3, f_X12_number r1.2 64 x2 (40 : Int32) (400 : Int32) = r3 → p_X12_number r3 64 (x2 + (1 : Int32)) (0 : Int32) (9 : Int32)) ∧ (∀ r1, f_X12_begins S 64 (0 : Int32) (3 : Int32) (6 : Int32) (3 : Int32) = r1 → ∀ x2 : Int32, r1.1 = x2 → ∀ r3, f_X12_number r1.2 64 x2 (40 : Int32) (400 : Int32) = r3 → ∀ r4, f_X12_number r3 64 (x2 + (1 : Int32)) (0 : Int32) (9 : Int32) = r4 → p_X12_number r4 64 (x2 + (2 : Int32)) (0 : Int32) (1 : Int32)) ∧ (∀ r1, f_X12_begins S 64 (0 : Int32) (3 : Int32) (6 : Int32) (3 : Int32) = r1 → ∀ x2 : Int32, r1.1 = x2 → ∀ r3, f_X12_number r1.2 64 x2 (40 : Int32) (400 : Int32) = r3 → ∀ r4, f_X12_number r3 64 (x2 + (1 : Int32)) (0 : Int32) (9 : Int32) = r4 → ∀ r5, f_X12_number r4 64 (x2 + (2 : Int32)) (0 : Int32) (1 : Int32) = r5 → p_X12_ends r5 64 (0 : Int32))
set_option maxRecDepth 100000 in
theorem t_X12_readRope (G : GG) (l : Launch) {S : HSt} (hM : MS S)  (hp : p_X12_readRope S 64) : AM G l yX12_readRope cX12_readRope 2 none (rmD 4 0 0) 0 0 [.ref 64] S (FP none (f_X12_readRope S 64)) := by
  obtain ⟨h0, h1, h2, h3, h4⟩ := hp
  refine AM.mk (by decide) (Nat.le_of_ble_eq_true rfl) ?_
  intro p e s m below meth c hC hSt _
  refine aw_aload_n hC 0 dX12_readRope_0 rfl rfl ?_
  refine aw_iconst (v := 0) hC dX12_readRope_1 (by decide) ?_
  refine aw_iconst (v := 3) hC dX12_readRope_2 (by decide) ?_
  refine aw_bipush (v := 6) hC dX12_readRope_3 (by decide) ?_
  refine aw_iconst (v := 3) hC dX12_readRope_5 (by decide) ?_
  refine aw_cV4r hC hSt (t_X12_begins G l hM _ _ _ _ (h0)) w_1002 w_1004 w_1005 w_1006 w_953 rfl rfl (by decide +kernel) ⟨Nat.le_of_ble_eq_true rfl, Nat.le_of_ble_eq_true rfl⟩ (ms_lt 64 (by decide) hM) (ms_k 64 12 0 (by decide) hM) rfl (Nat.le_of_ble_eq_true rfl) dX12_readRope_6 ⟨Nat.zero_le _, Nat.zero_le _⟩ ?_
  generalize er1 : f_X12_begins S 64 (0 : Int32) (3 : Int32) (6 : Int32) (3 : Int32) = r1
  have hM : MS r1.2 := MS.of (by rw [← er1]; exact q_X12_begins _ _ _ _ _ _) hM
  refine aw_istore_n hC [(1, .int _), (0, .ref 64)] dX12_readRope_9 rfl (by decide) rfl ?_
  generalize ex2 : r1.1 = x2
  refine aw_aload_n hC 1 dX12_readRope_10 rfl rfl ?_
  refine aw_iload_n hC 0 dX12_readRope_11 rfl rfl ?_
  refine aw_bipush (v := 40) hC dX12_readRope_12 (by decide) ?_
  refine aw_sipush (v := 400) hC dX12_readRope_14 (by decide) ?_
  refine aw_cV3v hC hSt (t_X12_number G l hM _ _ _ (h1 r1 er1 x2 ex2)) w_1001 w_1007 w_1008 w_1009 w_953 rfl rfl (by decide +kernel) ⟨Nat.le_of_ble_eq_true rfl, Nat.le_of_ble_eq_true rfl⟩ (ms_lt 64 (by decide) hM) (ms_k 64 12 0 (by decide) hM) rfl (Nat.le_of_ble_eq_true rfl) dX12_readRope_17 ⟨Nat.zero_le _, Nat.zero_le _⟩ ?_
  generalize er3 : f_X12_number r1.2 64 x2 (40 : Int32) (400 : Int32) = r3
  have hM : MS r3 := MS.of (by rw [← er3]; exact q_X12_number _ _ _ _ _) hM
  refine aw_aload_n hC 1 dX12_readRope_20 rfl rfl ?_
  refine aw_iload_n hC 0 dX12_readRope_21 rfl rfl ?_
  refine aw_iconst (v := 1) hC dX12_readRope_22 (by decide) ?_
  refine aw_iadd hC dX12_readRope_23 ?_
  refine aw_iconst (v := 0) hC dX12_readRope_24 (by decide) ?_
  refine aw_bipush (v := 9) hC dX12_readRope_25 (by decide) ?_
  refine aw_cV3v hC hSt (t_X12_number G l hM _ _ _ (h2 r1 er1 x2 ex2 r3 er3)) w_1001 w_1007 w_1008 w_1009 w_953 rfl rfl (by decide +kernel) ⟨Nat.le_of_ble_eq_true rfl, Nat.le_of_ble_eq_true rfl⟩ (ms_lt 64 (by decide) hM) (ms_k 64 12 0 (by decide) hM) rfl (Nat.le_of_ble_eq_true rfl) dX12_readRope_27 ⟨Nat.zero_le _, Nat.zero_le _⟩ ?_
  generalize er4 : f_X12_number r3 64 (x2 + (1 : Int32)) (0 : Int32) (9 : Int32) = r4
  have hM : MS r4 := MS.of (by rw [← er4]; exact q_X12_number _ _ _ _ _) hM
  refine aw_aload_n hC 1 dX12_readRope_30 rfl rfl ?_
  refine aw_iload_n hC 0 dX12_readRope_31 rfl rfl ?_
  refine aw_iconst (v := 2) hC dX12_readRope_32 (by decide) ?_
  refine aw_iadd hC dX12_readRope_33 ?_
  refine aw_iconst (v := 0) hC dX12_readRope_34 (by decide) ?_
  refine aw_iconst (v := 1) hC dX12_readRope_35 (by decide) ?_
  refine aw_cV3v hC hSt (t_X12_number G l hM _ _ _ (h3 r1 er1 x2 ex2 r3 er3 r4 er4)) w_1001 w_1007 w_1008 w_1009 w_953 rfl rfl (by decide +kernel) ⟨Nat.le_of_ble_eq_true rfl, Nat.le_of_ble_eq_true rfl⟩ (ms_lt 64 (by decide) hM) (ms_k 64 12 0 (by decide) hM) rfl (Nat.le_of_ble_eq_true rfl) dX12_readRope_36 ⟨Nat.zero_le _, Nat.zero_le _⟩ ?_
  generalize er5 : f_X12_number r4 64 (x2 + (2 : Int32)) (0 : Int32) (1 : Int32) = r5
  have hM : MS r5 := MS.of (by rw [← er5]; exact q_X12_number _ _ _ _ _) hM
  refine aw_aload_n hC 1 dX12_readRope_39 rfl rfl ?_
  refine aw_iconst (v := 0) hC dX12_readRope_40 (by decide) ?_
  refine aw_cV1v hC hSt (t_X12_ends G l hM _ (h4 r1 er1 x2 ex2 r3 er3 r4 er4 r5 er5)) w_1003 w_1010 w_1011 w_1012 w_953 rfl rfl (by decide +kernel) ⟨Nat.le_of_ble_eq_true rfl, Nat.le_of_ble_eq_true rfl⟩ (ms_lt 64 (by decide) hM) (ms_k 64 12 0 (by decide) hM) rfl (Nat.le_of_ble_eq_true rfl) dX12_readRope_41 ⟨Nat.zero_le _, Nat.zero_le _⟩ ?_
  generalize er6 : f_X12_ends r5 64 (0 : Int32) = r6
  have hM : MS r6 := MS.of (by rw [← er6]; exact q_X12_ends _ _ _) hM
  refine aw_vret hC dX12_readRope_44 (Nat.le_refl _) (Nat.le_refl _) ?_
  exact FP.qV ((bd_eq er1).trans ((bd_eq ex2).trans ((bd_eq er3).trans ((bd_eq er4).trans ((bd_eq er5).trans ((bd_eq er6).trans (rfl)))))))
theorem q_X12_readRope (S : HSt) (_o : Nat)  : shp (f_X12_readRope S _o) = shp S := by
  unfold f_X12_readRope
  repeat' (first | with_reducible rfl | with_reducible refine (q_X12_begins _ _ _ _ _ _).trans ?_ | with_reducible refine (q_X12_ends _ _ _).trans ?_ | with_reducible refine (q_X12_number _ _ _ _ _).trans ?_ | with_reducible refine (shp_sI _ _ _ _).trans ?_ | with_reducible refine (shp_sJ _ _ _ _).trans ?_ | with_reducible refine shi ?_ ?_ | with_reducible refine shb (fun _ _ => ?_) | (subst_vars; with_reducible rfl) | (subst_vars; with_reducible refine (q_X12_begins _ _ _ _ _ _).trans ?_) | (subst_vars; with_reducible refine (q_X12_ends _ _ _).trans ?_) | (subst_vars; with_reducible refine (q_X12_number _ _ _ _ _).trans ?_) | (subst_vars; with_reducible refine (shp_sI _ _ _ _).trans ?_) | (subst_vars; with_reducible refine (shp_sJ _ _ _ _).trans ?_) | (subst_vars; with_reducible refine shi ?_ ?_) | (subst_vars; with_reducible refine shb (fun _ _ => ?_)))
theorem v_X12_readRope (S : HSt) (_o : Nat)  : Fr [(64, 12), (64, 13), (64, 14), (64, 15), (64, 16), (64, 17), (69, 1000)] S (f_X12_readRope S _o) := by
  unfold f_X12_readRope
  repeat' (first | with_reducible exact Fr.refl _ _ | with_reducible refine Fr.l1 (fun _ _ => ?_) | with_reducible refine Fr.ite ?_ ?_ | with_reducible refine Fr.sE (by assumption) (by first | decide | simp only [List.mem_cons, List.not_mem_nil, or_false, true_or, or_true, eq_self_iff_true]) ?_ | with_reducible refine Fr.jE (by assumption) ?_ | with_reducible refine Fr.rE (by assumption) (by first | decide | simp only [List.mem_cons, List.not_mem_nil, or_false, true_or, or_true, eq_self_iff_true]) ?_ | with_reducible refine Fr.iE (by assumption) ?_ ?_ | with_reducible refine Fr.tr (w_X12_begins _ _ _ _ _ _ _ (by assumption)) (by first | decide | simp only [List.mem_cons, List.not_mem_nil, or_false, forall_eq_or_imp, forall_eq, true_or, or_true, and_self, eq_self_iff_true]) ?_ | with_reducible refine Fr.tr (w_X12_ends _ _ _ _ (by assumption)) (by first | decide | simp only [List.mem_cons, List.not_mem_nil, or_false, forall_eq_or_imp, forall_eq, true_or, or_true, and_self, eq_self_iff_true]) ?_ | with_reducible refine Fr.tr (w_X12_number _ _ _ _ _ _ (by assumption)) (by first | decide | simp only [List.mem_cons, List.not_mem_nil, or_false, forall_eq_or_imp, forall_eq, true_or, or_true, and_self, eq_self_iff_true]) ?_)
theorem w_X12_readRope (S : HSt) (_o : Nat)  (r : HSt) (e : f_X12_readRope S _o = r) : Fr [(64, 12), (64, 13), (64, 14), (64, 15), (64, 16), (64, 17), (69, 1000)] S r := by
  rw [← e]
  exact v_X12_readRope S _o
noncomputable def f_X12_readHorse (S : HSt) (_o : Nat)  : HSt := bd (f_X12_begins S 64 (1 : Int32) (3 : Int32) (15 : Int32) (3 : Int32)) fun r1 => bd (r1.1) fun x2 => bd (f_X12_number r1.2 64 x2 (0 : Int32) (20 : Int32)) fun r3 => bd (f_X12_number r3 64 (x2 + (1 : Int32)) (0 : Int32) (99 : Int32)) fun r4 => bd (f_X12_number r4 64 (x2 + (2 : Int32)) (0 : Int32) (3 : Int32)) fun r5 => bd (f_X12_ends r5 64 (1 : Int32)) fun r6 => r6
def p_X12_readHorse (S : HSt) (_o : Nat)  : Prop := (p_X12_begins S 64 (1 : Int32) (3 : Int32) (15 : Int32) (3 : Int32)) ∧ (∀ r1, f_X12_begins S 64 (1 : Int32) (3 : Int32) (15 : Int32) (3 : Int32) = r1 → ∀ x2 : Int32, r1.1 = x2 → p_X12_number r1.2 64 x2 (0 : Int32) (20 : Int32)) ∧ (∀ r1, f_X12_begins S 64 (1 : Int32) (3 : Int32) (15 : Int32) (3 : Int32) = r1 → ∀ x2 : Int32, r1.1 = x2 → ∀ r3, f_X12_number r1.2 64 x2 (0 : Int32) (20 : Int32) = r3 → p_X12_number r3 64 (x2 + (1 : Int32)) (0 : Int32) (99 : Int32)) ∧ (∀ r1, f_X12_begins S 64 (1 : Int32) (3 : Int32) (15 : Int32) (3 : Int32) = r1 → ∀ x2 : Int32, r1.1 = x2 → ∀ r3, f_X12_number r1.2 64 x2 (0 : Int32) (20 : Int32) = r3 → ∀ r4, f_X12_number r3 64 (x2 + (1 : Int32)) (0 : Int32) (99 : Int32) = r4 → p_X12_number r4 64 (x2 + (2 : Int32)) (0 : Int32) (3 : Int32)) ∧ (∀ r1, f_X12_begins S 64 (1 : Int32) (3 : Int32) (15 : Int32) (3 : Int32) = r1 → ∀ x2 : Int32, r1.1 = x2 → ∀ r3, f_X12_number r1.2 64 x2 (0 : Int32) (20 : Int32) = r3 → ∀ r4, f_X12_number r3 64 (x2 + (1 : Int32)) (0 : Int32) (99 : Int32) = r4 → ∀ r5, f_X12_number r4 64 (x2 + (2 : Int32)) (0 : Int32) (3 : Int32) = r5 → p_X12_ends r5 64 (1 : Int32))
set_option maxRecDepth 100000 in
theorem t_X12_readHorse (G : GG) (l : Launch) {S : HSt} (hM : MS S)  (hp : p_X12_readHorse S 64) : AM G l yX12_readHorse cX12_readHorse 2 none (rmD 4 0 0) 0 0 [.ref 64] S (FP none (f_X12_readHorse S 64)) := by
  obtain ⟨h0, h1, h2, h3, h4⟩ := hp
  refine AM.mk (by decide) (Nat.le_of_ble_eq_true rfl) ?_
  intro p e s m below meth c hC hSt _
  refine aw_aload_n hC 0 dX12_readHorse_0 rfl rfl ?_
  refine aw_iconst (v := 1) hC dX12_readHorse_1 (by decide) ?_
  refine aw_iconst (v := 3) hC dX12_readHorse_2 (by decide) ?_
  refine aw_bipush (v := 15) hC dX12_readHorse_3 (by decide) ?_
  refine aw_iconst (v := 3) hC dX12_readHorse_5 (by decide) ?_
  refine aw_cV4r hC hSt (t_X12_begins G l hM _ _ _ _ (h0)) w_1002 w_1004 w_1005 w_1006 w_953 rfl rfl (by decide +kernel) ⟨Nat.le_of_ble_eq_true rfl, Nat.le_of_ble_eq_true rfl⟩ (ms_lt 64 (by decide) hM) (ms_k 64 12 0 (by decide) hM) rfl (Nat.le_of_ble_eq_true rfl) dX12_readHorse_6 ⟨Nat.zero_le _, Nat.zero_le _⟩ ?_
  generalize er1 : f_X12_begins S 64 (1 : Int32) (3 : Int32) (15 : Int32) (3 : Int32) = r1
  have hM : MS r1.2 := MS.of (by rw [← er1]; exact q_X12_begins _ _ _ _ _ _) hM
  refine aw_istore_n hC [(1, .int _), (0, .ref 64)] dX12_readHorse_9 rfl (by decide) rfl ?_
  generalize ex2 : r1.1 = x2
  refine aw_aload_n hC 1 dX12_readHorse_10 rfl rfl ?_
  refine aw_iload_n hC 0 dX12_readHorse_11 rfl rfl ?_
  refine aw_iconst (v := 0) hC dX12_readHorse_12 (by decide) ?_
  refine aw_bipush (v := 20) hC dX12_readHorse_13 (by decide) ?_
  refine aw_cV3v hC hSt (t_X12_number G l hM _ _ _ (h1 r1 er1 x2 ex2)) w_1001 w_1007 w_1008 w_1009 w_953 rfl rfl (by decide +kernel) ⟨Nat.le_of_ble_eq_true rfl, Nat.le_of_ble_eq_true rfl⟩ (ms_lt 64 (by decide) hM) (ms_k 64 12 0 (by decide) hM) rfl (Nat.le_of_ble_eq_true rfl) dX12_readHorse_15 ⟨Nat.zero_le _, Nat.zero_le _⟩ ?_
  generalize er3 : f_X12_number r1.2 64 x2 (0 : Int32) (20 : Int32) = r3
  have hM : MS r3 := MS.of (by rw [← er3]; exact q_X12_number _ _ _ _ _) hM
  refine aw_aload_n hC 1 dX12_readHorse_18 rfl rfl ?_
  refine aw_iload_n hC 0 dX12_readHorse_19 rfl rfl ?_
  refine aw_iconst (v := 1) hC dX12_readHorse_20 (by decide) ?_
  refine aw_iadd hC dX12_readHorse_21 ?_
  refine aw_iconst (v := 0) hC dX12_readHorse_22 (by decide) ?_
  refine aw_bipush (v := 99) hC dX12_readHorse_23 (by decide) ?_
  refine aw_cV3v hC hSt (t_X12_number G l hM _ _ _ (h2 r1 er1 x2 ex2 r3 er3)) w_1001 w_1007 w_1008 w_1009 w_953 rfl rfl (by decide +kernel) ⟨Nat.le_of_ble_eq_true rfl, Nat.le_of_ble_eq_true rfl⟩ (ms_lt 64 (by decide) hM) (ms_k 64 12 0 (by decide) hM) rfl (Nat.le_of_ble_eq_true rfl) dX12_readHorse_25 ⟨Nat.zero_le _, Nat.zero_le _⟩ ?_
  generalize er4 : f_X12_number r3 64 (x2 + (1 : Int32)) (0 : Int32) (99 : Int32) = r4
  have hM : MS r4 := MS.of (by rw [← er4]; exact q_X12_number _ _ _ _ _) hM
  refine aw_aload_n hC 1 dX12_readHorse_28 rfl rfl ?_
  refine aw_iload_n hC 0 dX12_readHorse_29 rfl rfl ?_
  refine aw_iconst (v := 2) hC dX12_readHorse_30 (by decide) ?_
  refine aw_iadd hC dX12_readHorse_31 ?_
  refine aw_iconst (v := 0) hC dX12_readHorse_32 (by decide) ?_
  refine aw_iconst (v := 3) hC dX12_readHorse_33 (by decide) ?_
  refine aw_cV3v hC hSt (t_X12_number G l hM _ _ _ (h3 r1 er1 x2 ex2 r3 er3 r4 er4)) w_1001 w_1007 w_1008 w_1009 w_953 rfl rfl (by decide +kernel) ⟨Nat.le_of_ble_eq_true rfl, Nat.le_of_ble_eq_true rfl⟩ (ms_lt 64 (by decide) hM) (ms_k 64 12 0 (by decide) hM) rfl (Nat.le_of_ble_eq_true rfl) dX12_readHorse_34 ⟨Nat.zero_le _, Nat.zero_le _⟩ ?_
  generalize er5 : f_X12_number r4 64 (x2 + (2 : Int32)) (0 : Int32) (3 : Int32) = r5
  have hM : MS r5 := MS.of (by rw [← er5]; exact q_X12_number _ _ _ _ _) hM
  refine aw_aload_n hC 1 dX12_readHorse_37 rfl rfl ?_
  refine aw_iconst (v := 1) hC dX12_readHorse_38 (by decide) ?_
  refine aw_cV1v hC hSt (t_X12_ends G l hM _ (h4 r1 er1 x2 ex2 r3 er3 r4 er4 r5 er5)) w_1003 w_1010 w_1011 w_1012 w_953 rfl rfl (by decide +kernel) ⟨Nat.le_of_ble_eq_true rfl, Nat.le_of_ble_eq_true rfl⟩ (ms_lt 64 (by decide) hM) (ms_k 64 12 0 (by decide) hM) rfl (Nat.le_of_ble_eq_true rfl) dX12_readHorse_39 ⟨Nat.zero_le _, Nat.zero_le _⟩ ?_
  generalize er6 : f_X12_ends r5 64 (1 : Int32) = r6
  have hM : MS r6 := MS.of (by rw [← er6]; exact q_X12_ends _ _ _) hM
  refine aw_vret hC dX12_readHorse_42 (Nat.le_refl _) (Nat.le_refl _) ?_
  exact FP.qV ((bd_eq er1).trans ((bd_eq ex2).trans ((bd_eq er3).trans ((bd_eq er4).trans ((bd_eq er5).trans ((bd_eq er6).trans (rfl)))))))
theorem q_X12_readHorse (S : HSt) (_o : Nat)  : shp (f_X12_readHorse S _o) = shp S := by
  unfold f_X12_readHorse
  repeat' (first | with_reducible rfl | with_reducible refine (q_X12_begins _ _ _ _ _ _).trans ?_ | with_reducible refine (q_X12_ends _ _ _).trans ?_ | with_reducible refine (q_X12_number _ _ _ _ _).trans ?_ | with_reducible refine (shp_sI _ _ _ _).trans ?_ | with_reducible refine (shp_sJ _ _ _ _).trans ?_ | with_reducible refine shi ?_ ?_ | with_reducible refine shb (fun _ _ => ?_) | (subst_vars; with_reducible rfl) | (subst_vars; with_reducible refine (q_X12_begins _ _ _ _ _ _).trans ?_) | (subst_vars; with_reducible refine (q_X12_ends _ _ _).trans ?_) | (subst_vars; with_reducible refine (q_X12_number _ _ _ _ _).trans ?_) | (subst_vars; with_reducible refine (shp_sI _ _ _ _).trans ?_) | (subst_vars; with_reducible refine (shp_sJ _ _ _ _).trans ?_) | (subst_vars; with_reducible refine shi ?_ ?_) | (subst_vars; with_reducible refine shb (fun _ _ => ?_)))
theorem v_X12_readHorse (S : HSt) (_o : Nat)  : Fr [(64, 12), (64, 13), (64, 14), (64, 15), (64, 16), (64, 17), (69, 1000)] S (f_X12_readHorse S _o) := by
  unfold f_X12_readHorse
  repeat' (first | with_reducible exact Fr.refl _ _ | with_reducible refine Fr.l1 (fun _ _ => ?_) | with_reducible refine Fr.ite ?_ ?_ | with_reducible refine Fr.sE (by assumption) (by first | decide | simp only [List.mem_cons, List.not_mem_nil, or_false, true_or, or_true, eq_self_iff_true]) ?_ | with_reducible refine Fr.jE (by assumption) ?_ | with_reducible refine Fr.rE (by assumption) (by first | decide | simp only [List.mem_cons, List.not_mem_nil, or_false, true_or, or_true, eq_self_iff_true]) ?_ | with_reducible refine Fr.iE (by assumption) ?_ ?_ | with_reducible refine Fr.tr (w_X12_begins _ _ _ _ _ _ _ (by assumption)) (by first | decide | simp only [List.mem_cons, List.not_mem_nil, or_false, forall_eq_or_imp, forall_eq, true_or, or_true, and_self, eq_self_iff_true]) ?_ | with_reducible refine Fr.tr (w_X12_ends _ _ _ _ (by assumption)) (by first | decide | simp only [List.mem_cons, List.not_mem_nil, or_false, forall_eq_or_imp, forall_eq, true_or, or_true, and_self, eq_self_iff_true]) ?_ | with_reducible refine Fr.tr (w_X12_number _ _ _ _ _ _ (by assumption)) (by first | decide | simp only [List.mem_cons, List.not_mem_nil, or_false, forall_eq_or_imp, forall_eq, true_or, or_true, and_self, eq_self_iff_true]) ?_)
theorem w_X12_readHorse (S : HSt) (_o : Nat)  (r : HSt) (e : f_X12_readHorse S _o = r) : Fr [(64, 12), (64, 13), (64, 14), (64, 15), (64, 16), (64, 17), (69, 1000)] S r := by
  rw [← e]
  exact v_X12_readHorse S _o
noncomputable def f_X12_readBeast (S : HSt) (_o : Nat)  : HSt := bd (f_X12_begins S 64 (2 : Int32) (4 : Int32) (24 : Int32) (5 : Int32)) fun r1 => bd (r1.1) fun x2 => bd (f_X12_number r1.2 64 x2 (1 : Int32) (200 : Int32)) fun r3 => bd (f_X12_number r3 64 (x2 + (1 : Int32)) (0 : Int32) (15 : Int32)) fun r4 => bd (f_X12_number r4 64 (x2 + (2 : Int32)) (1 : Int32) (100 : Int32)) fun r5 => bd (f_X12_number r5 64 (x2 + (3 : Int32)) (1 : Int32) (9 : Int32)) fun r6 => bd (f_X12_number r6 64 (x2 + (4 : Int32)) (0 : Int32) (12 : Int32)) fun r7 => bd (f_X12_ends r7 64 (2 : Int32)) fun r8 => r8
def p_X12_readBeast (S : HSt) (_o : Nat)  : Prop := (p_X12_begins S 64 (2 : Int32) (4 : Int32) (24 : Int32) (5 : Int32)) ∧ (∀ r1, f_X12_begins S 64 (2 : Int32) (4 : Int32) (24 : Int32) (5 : Int32) = r1 → ∀ x2 : Int32, r1.1 = x2 → p_X12_number r1.2 64 x2 (1 : Int32) (200 : Int32)) ∧ (∀ r1, f_X12_begins S 64 (2 : Int32) (4 : Int32) (24 : Int32) (5 : Int32) = r1 → ∀ x2 : Int32, r1.1 = x2 → ∀ r3, f_X12_number r1.2 64 x2 (1 : Int32) (200 : Int32) = r3 → p_X12_number r3 64 (x2 + (1 : Int32)) (0 : Int32) (15 : Int32)) ∧ (∀ r1, f_X12_begins S 64 (2 : Int32) (4 : Int32) (24 : Int32) (5 : Int32) = r1 → ∀ x2 : Int32, r1.1 = x2 → ∀ r3, f_X12_number r1.2 64 x2 (1 : Int32) (200 : Int32) = r3 → ∀ r4, f_X12_number r3 64 (x2 + (1 : Int32)) (0 : Int32) (15 : Int32) = r4 → p_X12_number r4 64 (x2 + (2 : Int32)) (1 : Int32) (100 : Int32)) ∧ (∀ r1, f_X12_begins S 64 (2 : Int32) (4 : Int32) (24 : Int32) (5 : Int32) = r1 → ∀ x2 : Int32, r1.1 = x2 → ∀ r3, f_X12_number r1.2 64 x2 (1 : Int32) (200 : Int32) = r3 → ∀ r4, f_X12_number r3 64 (x2 + (1 : Int32)) (0 : Int32) (15 : Int32) = r4 → ∀ r5, f_X12_number r4 64 (x2 + (2 : Int32)) (1 : Int32) (100 : Int32) = r5 → p_X12_number r5 64 (x2 + (3 : Int32)) (1 : Int32) (9 : Int32)) ∧ (∀ r1, f_X12_begins S 64 (2 : Int32) (4 : Int32) (24 : Int32) (5 : Int32) = r1 → ∀ x2 : Int32, r1.1 = x2 → ∀ r3, f_X12_number r1.2 64 x2 (1 : Int32) (200 : Int32) = r3 → ∀ r4, f_X12_number r3 64 (x2 + (1 : Int32)) (0 : Int32) (15 : Int32) = r4 → ∀ r5, f_X12_number r4 64 (x2 + (2 : Int32)) (1 : Int32) (100 : Int32) = r5 → ∀ r6, f_X12_number r5 64 (x2 + (3 : Int32)) (1 : Int32) (9 : Int32) = r6 → p_X12_number r6 64 (x2 + (4 : Int32)) (0 : Int32) (12 : Int32)) ∧ (∀ r1, f_X12_begins S 64 (2 : Int32) (4 : Int32) (24 : Int32) (5 : Int32) = r1 → ∀ x2 : Int32, r1.1 = x2 → ∀ r3, f_X12_number r1.2 64 x2 (1 : Int32) (200 : Int32) = r3 → ∀ r4, f_X12_number r3 64 (x2 + (1 : Int32)) (0 : Int32) (15 : Int32) = r4 → ∀ r5, f_X12_number r4 64 (x2 + (2 : Int32)) (1 : Int32) (100 : Int32) = r5 → ∀ r6, f_X12_number r5 64 (x2 + (3 : Int32)) (1 : Int32) (9 : Int32) = r6 → ∀ r7, f_X12_number r6 64 (x2 + (4 : Int32)) (0 : Int32) (12 : Int32) = r7 → p_X12_ends r7 64 (2 : Int32))
set_option maxRecDepth 100000 in
theorem t_X12_readBeast (G : GG) (l : Launch) {S : HSt} (hM : MS S)  (hp : p_X12_readBeast S 64) : AM G l yX12_readBeast cX12_readBeast 2 none (rmD 4 0 0) 0 0 [.ref 64] S (FP none (f_X12_readBeast S 64)) := by
  obtain ⟨h0, h1, h2, h3, h4, h5, h6⟩ := hp
  refine AM.mk (by decide) (Nat.le_of_ble_eq_true rfl) ?_
  intro p e s m below meth c hC hSt _
  refine aw_aload_n hC 0 dX12_readBeast_0 rfl rfl ?_
  refine aw_iconst (v := 2) hC dX12_readBeast_1 (by decide) ?_
  refine aw_iconst (v := 4) hC dX12_readBeast_2 (by decide) ?_
  refine aw_bipush (v := 24) hC dX12_readBeast_3 (by decide) ?_
  refine aw_iconst (v := 5) hC dX12_readBeast_5 (by decide) ?_
  refine aw_cV4r hC hSt (t_X12_begins G l hM _ _ _ _ (h0)) w_1002 w_1004 w_1005 w_1006 w_953 rfl rfl (by decide +kernel) ⟨Nat.le_of_ble_eq_true rfl, Nat.le_of_ble_eq_true rfl⟩ (ms_lt 64 (by decide) hM) (ms_k 64 12 0 (by decide) hM) rfl (Nat.le_of_ble_eq_true rfl) dX12_readBeast_6 ⟨Nat.zero_le _, Nat.zero_le _⟩ ?_
  generalize er1 : f_X12_begins S 64 (2 : Int32) (4 : Int32) (24 : Int32) (5 : Int32) = r1
  have hM : MS r1.2 := MS.of (by rw [← er1]; exact q_X12_begins _ _ _ _ _ _) hM
  refine aw_istore_n hC [(1, .int _), (0, .ref 64)] dX12_readBeast_9 rfl (by decide) rfl ?_
  generalize ex2 : r1.1 = x2
  refine aw_aload_n hC 1 dX12_readBeast_10 rfl rfl ?_
  refine aw_iload_n hC 0 dX12_readBeast_11 rfl rfl ?_
  refine aw_iconst (v := 1) hC dX12_readBeast_12 (by decide) ?_
  refine aw_sipush (v := 200) hC dX12_readBeast_13 (by decide) ?_
  refine aw_cV3v hC hSt (t_X12_number G l hM _ _ _ (h1 r1 er1 x2 ex2)) w_1001 w_1007 w_1008 w_1009 w_953 rfl rfl (by decide +kernel) ⟨Nat.le_of_ble_eq_true rfl, Nat.le_of_ble_eq_true rfl⟩ (ms_lt 64 (by decide) hM) (ms_k 64 12 0 (by decide) hM) rfl (Nat.le_of_ble_eq_true rfl) dX12_readBeast_16 ⟨Nat.zero_le _, Nat.zero_le _⟩ ?_
  generalize er3 : f_X12_number r1.2 64 x2 (1 : Int32) (200 : Int32) = r3
  have hM : MS r3 := MS.of (by rw [← er3]; exact q_X12_number _ _ _ _ _) hM
  refine aw_aload_n hC 1 dX12_readBeast_19 rfl rfl ?_
  refine aw_iload_n hC 0 dX12_readBeast_20 rfl rfl ?_
  refine aw_iconst (v := 1) hC dX12_readBeast_21 (by decide) ?_
  refine aw_iadd hC dX12_readBeast_22 ?_
  refine aw_iconst (v := 0) hC dX12_readBeast_23 (by decide) ?_
  refine aw_bipush (v := 15) hC dX12_readBeast_24 (by decide) ?_
  refine aw_cV3v hC hSt (t_X12_number G l hM _ _ _ (h2 r1 er1 x2 ex2 r3 er3)) w_1001 w_1007 w_1008 w_1009 w_953 rfl rfl (by decide +kernel) ⟨Nat.le_of_ble_eq_true rfl, Nat.le_of_ble_eq_true rfl⟩ (ms_lt 64 (by decide) hM) (ms_k 64 12 0 (by decide) hM) rfl (Nat.le_of_ble_eq_true rfl) dX12_readBeast_26 ⟨Nat.zero_le _, Nat.zero_le _⟩ ?_
  generalize er4 : f_X12_number r3 64 (x2 + (1 : Int32)) (0 : Int32) (15 : Int32) = r4
  have hM : MS r4 := MS.of (by rw [← er4]; exact q_X12_number _ _ _ _ _) hM
  refine aw_aload_n hC 1 dX12_readBeast_29 rfl rfl ?_
  refine aw_iload_n hC 0 dX12_readBeast_30 rfl rfl ?_
  refine aw_iconst (v := 2) hC dX12_readBeast_31 (by decide) ?_
  refine aw_iadd hC dX12_readBeast_32 ?_
  refine aw_iconst (v := 1) hC dX12_readBeast_33 (by decide) ?_
  refine aw_bipush (v := 100) hC dX12_readBeast_34 (by decide) ?_
  refine aw_cV3v hC hSt (t_X12_number G l hM _ _ _ (h3 r1 er1 x2 ex2 r3 er3 r4 er4)) w_1001 w_1007 w_1008 w_1009 w_953 rfl rfl (by decide +kernel) ⟨Nat.le_of_ble_eq_true rfl, Nat.le_of_ble_eq_true rfl⟩ (ms_lt 64 (by decide) hM) (ms_k 64 12 0 (by decide) hM) rfl (Nat.le_of_ble_eq_true rfl) dX12_readBeast_36 ⟨Nat.zero_le _, Nat.zero_le _⟩ ?_
  generalize er5 : f_X12_number r4 64 (x2 + (2 : Int32)) (1 : Int32) (100 : Int32) = r5
  have hM : MS r5 := MS.of (by rw [← er5]; exact q_X12_number _ _ _ _ _) hM
  refine aw_aload_n hC 1 dX12_readBeast_39 rfl rfl ?_
  refine aw_iload_n hC 0 dX12_readBeast_40 rfl rfl ?_
  refine aw_iconst (v := 3) hC dX12_readBeast_41 (by decide) ?_
  refine aw_iadd hC dX12_readBeast_42 ?_
  refine aw_iconst (v := 1) hC dX12_readBeast_43 (by decide) ?_
  refine aw_bipush (v := 9) hC dX12_readBeast_44 (by decide) ?_
  refine aw_cV3v hC hSt (t_X12_number G l hM _ _ _ (h4 r1 er1 x2 ex2 r3 er3 r4 er4 r5 er5)) w_1001 w_1007 w_1008 w_1009 w_953 rfl rfl (by decide +kernel) ⟨Nat.le_of_ble_eq_true rfl, Nat.le_of_ble_eq_true rfl⟩ (ms_lt 64 (by decide) hM) (ms_k 64 12 0 (by decide) hM) rfl (Nat.le_of_ble_eq_true rfl) dX12_readBeast_46 ⟨Nat.zero_le _, Nat.zero_le _⟩ ?_
  generalize er6 : f_X12_number r5 64 (x2 + (3 : Int32)) (1 : Int32) (9 : Int32) = r6
  have hM : MS r6 := MS.of (by rw [← er6]; exact q_X12_number _ _ _ _ _) hM
  refine aw_aload_n hC 1 dX12_readBeast_49 rfl rfl ?_
  refine aw_iload_n hC 0 dX12_readBeast_50 rfl rfl ?_
  refine aw_iconst (v := 4) hC dX12_readBeast_51 (by decide) ?_
  refine aw_iadd hC dX12_readBeast_52 ?_
  refine aw_iconst (v := 0) hC dX12_readBeast_53 (by decide) ?_
  refine aw_bipush (v := 12) hC dX12_readBeast_54 (by decide) ?_
  refine aw_cV3v hC hSt (t_X12_number G l hM _ _ _ (h5 r1 er1 x2 ex2 r3 er3 r4 er4 r5 er5 r6 er6)) w_1001 w_1007 w_1008 w_1009 w_953 rfl rfl (by decide +kernel) ⟨Nat.le_of_ble_eq_true rfl, Nat.le_of_ble_eq_true rfl⟩ (ms_lt 64 (by decide) hM) (ms_k 64 12 0 (by decide) hM) rfl (Nat.le_of_ble_eq_true rfl) dX12_readBeast_56 ⟨Nat.zero_le _, Nat.zero_le _⟩ ?_
  generalize er7 : f_X12_number r6 64 (x2 + (4 : Int32)) (0 : Int32) (12 : Int32) = r7
  have hM : MS r7 := MS.of (by rw [← er7]; exact q_X12_number _ _ _ _ _) hM
  refine aw_aload_n hC 1 dX12_readBeast_59 rfl rfl ?_
  refine aw_iconst (v := 2) hC dX12_readBeast_60 (by decide) ?_
  refine aw_cV1v hC hSt (t_X12_ends G l hM _ (h6 r1 er1 x2 ex2 r3 er3 r4 er4 r5 er5 r6 er6 r7 er7)) w_1003 w_1010 w_1011 w_1012 w_953 rfl rfl (by decide +kernel) ⟨Nat.le_of_ble_eq_true rfl, Nat.le_of_ble_eq_true rfl⟩ (ms_lt 64 (by decide) hM) (ms_k 64 12 0 (by decide) hM) rfl (Nat.le_of_ble_eq_true rfl) dX12_readBeast_61 ⟨Nat.zero_le _, Nat.zero_le _⟩ ?_
  generalize er8 : f_X12_ends r7 64 (2 : Int32) = r8
  have hM : MS r8 := MS.of (by rw [← er8]; exact q_X12_ends _ _ _) hM
  refine aw_vret hC dX12_readBeast_64 (Nat.le_refl _) (Nat.le_refl _) ?_
  exact FP.qV ((bd_eq er1).trans ((bd_eq ex2).trans ((bd_eq er3).trans ((bd_eq er4).trans ((bd_eq er5).trans ((bd_eq er6).trans ((bd_eq er7).trans ((bd_eq er8).trans (rfl)))))))))
theorem q_X12_readBeast (S : HSt) (_o : Nat)  : shp (f_X12_readBeast S _o) = shp S := by
  unfold f_X12_readBeast
  repeat' (first | with_reducible rfl | with_reducible refine (q_X12_begins _ _ _ _ _ _).trans ?_ | with_reducible refine (q_X12_ends _ _ _).trans ?_ | with_reducible refine (q_X12_number _ _ _ _ _).trans ?_ | with_reducible refine (shp_sI _ _ _ _).trans ?_ | with_reducible refine (shp_sJ _ _ _ _).trans ?_ | with_reducible refine shi ?_ ?_ | with_reducible refine shb (fun _ _ => ?_) | (subst_vars; with_reducible rfl) | (subst_vars; with_reducible refine (q_X12_begins _ _ _ _ _ _).trans ?_) | (subst_vars; with_reducible refine (q_X12_ends _ _ _).trans ?_) | (subst_vars; with_reducible refine (q_X12_number _ _ _ _ _).trans ?_) | (subst_vars; with_reducible refine (shp_sI _ _ _ _).trans ?_) | (subst_vars; with_reducible refine (shp_sJ _ _ _ _).trans ?_) | (subst_vars; with_reducible refine shi ?_ ?_) | (subst_vars; with_reducible refine shb (fun _ _ => ?_)))
theorem v_X12_readBeast (S : HSt) (_o : Nat)  : Fr [(64, 12), (64, 13), (64, 14), (64, 15), (64, 16), (64, 17), (69, 1000)] S (f_X12_readBeast S _o) := by
  unfold f_X12_readBeast
  repeat' (first | with_reducible exact Fr.refl _ _ | with_reducible refine Fr.l1 (fun _ _ => ?_) | with_reducible refine Fr.ite ?_ ?_ | with_reducible refine Fr.sE (by assumption) (by first | decide | simp only [List.mem_cons, List.not_mem_nil, or_false, true_or, or_true, eq_self_iff_true]) ?_ | with_reducible refine Fr.jE (by assumption) ?_ | with_reducible refine Fr.rE (by assumption) (by first | decide | simp only [List.mem_cons, List.not_mem_nil, or_false, true_or, or_true, eq_self_iff_true]) ?_ | with_reducible refine Fr.iE (by assumption) ?_ ?_ | with_reducible refine Fr.tr (w_X12_begins _ _ _ _ _ _ _ (by assumption)) (by first | decide | simp only [List.mem_cons, List.not_mem_nil, or_false, forall_eq_or_imp, forall_eq, true_or, or_true, and_self, eq_self_iff_true]) ?_ | with_reducible refine Fr.tr (w_X12_ends _ _ _ _ (by assumption)) (by first | decide | simp only [List.mem_cons, List.not_mem_nil, or_false, forall_eq_or_imp, forall_eq, true_or, or_true, and_self, eq_self_iff_true]) ?_ | with_reducible refine Fr.tr (w_X12_number _ _ _ _ _ _ (by assumption)) (by first | decide | simp only [List.mem_cons, List.not_mem_nil, or_false, forall_eq_or_imp, forall_eq, true_or, or_true, and_self, eq_self_iff_true]) ?_)
theorem w_X12_readBeast (S : HSt) (_o : Nat)  (r : HSt) (e : f_X12_readBeast S _o = r) : Fr [(64, 12), (64, 13), (64, 14), (64, 15), (64, 16), (64, 17), (69, 1000)] S r := by
  rw [← e]
  exact v_X12_readBeast S _o
noncomputable def f_X12_readForm (S : HSt) (_o : Nat)  : HSt := bd (f_X12_begins S 64 (3 : Int32) (6 : Int32) (44 : Int32) (4 : Int32)) fun r1 => bd (r1.1) fun x2 => bd (f_X12_number r1.2 64 x2 (0 : Int32) (15 : Int32)) fun r3 => bd ((if (gI r3 64 16) = 0 then (gI r3 69 x2.toNatClampNeg) else (0 : Int32))) fun x5 => bd (f_X12_number r3 64 (x2 + (1 : Int32)) x5 (15 : Int32)) fun r6 => bd (f_X12_number r6 64 (x2 + (2 : Int32)) (0 : Int32) (200 : Int32)) fun r7 => bd ((if (gI r7 64 16) = 0 then (gI r7 69 (x2 + (2 : Int32)).toNatClampNeg) else (0 : Int32))) fun x9 => bd (f_X12_number r7 64 (x2 + (3 : Int32)) x9 (200 : Int32)) fun r10 => bd (f_X12_ends r10 64 (3 : Int32)) fun r11 => r11
def p_X12_readForm (S : HSt) (_o : Nat)  : Prop := (p_X12_begins S 64 (3 : Int32) (6 : Int32) (44 : Int32) (4 : Int32)) ∧ (∀ r1, f_X12_begins S 64 (3 : Int32) (6 : Int32) (44 : Int32) (4 : Int32) = r1 → ∀ x2 : Int32, r1.1 = x2 → p_X12_number r1.2 64 x2 (0 : Int32) (15 : Int32)) ∧ (∀ r1, f_X12_begins S 64 (3 : Int32) (6 : Int32) (44 : Int32) (4 : Int32) = r1 → ∀ x2 : Int32, r1.1 = x2 → ∀ r3, f_X12_number r1.2 64 x2 (0 : Int32) (15 : Int32) = r3 → ((gI r3 64 16) = 0) → vp_in x2 172) ∧ (∀ r1, f_X12_begins S 64 (3 : Int32) (6 : Int32) (44 : Int32) (4 : Int32) = r1 → ∀ x2 : Int32, r1.1 = x2 → ∀ r3, f_X12_number r1.2 64 x2 (0 : Int32) (15 : Int32) = r3 → ∀ x5 : Int32, (if (gI r3 64 16) = 0 then (gI r3 69 x2.toNatClampNeg) else (0 : Int32)) = x5 → p_X12_number r3 64 (x2 + (1 : Int32)) x5 (15 : Int32)) ∧ (∀ r1, f_X12_begins S 64 (3 : Int32) (6 : Int32) (44 : Int32) (4 : Int32) = r1 → ∀ x2 : Int32, r1.1 = x2 → ∀ r3, f_X12_number r1.2 64 x2 (0 : Int32) (15 : Int32) = r3 → ∀ x5 : Int32, (if (gI r3 64 16) = 0 then (gI r3 69 x2.toNatClampNeg) else (0 : Int32)) = x5 → ∀ r6, f_X12_number r3 64 (x2 + (1 : Int32)) x5 (15 : Int32) = r6 → p_X12_number r6 64 (x2 + (2 : Int32)) (0 : Int32) (200 : Int32)) ∧ (∀ r1, f_X12_begins S 64 (3 : Int32) (6 : Int32) (44 : Int32) (4 : Int32) = r1 → ∀ x2 : Int32, r1.1 = x2 → ∀ r3, f_X12_number r1.2 64 x2 (0 : Int32) (15 : Int32) = r3 → ∀ x5 : Int32, (if (gI r3 64 16) = 0 then (gI r3 69 x2.toNatClampNeg) else (0 : Int32)) = x5 → ∀ r6, f_X12_number r3 64 (x2 + (1 : Int32)) x5 (15 : Int32) = r6 → ∀ r7, f_X12_number r6 64 (x2 + (2 : Int32)) (0 : Int32) (200 : Int32) = r7 → ((gI r7 64 16) = 0) → vp_in (x2 + (2 : Int32)) 172) ∧ (∀ r1, f_X12_begins S 64 (3 : Int32) (6 : Int32) (44 : Int32) (4 : Int32) = r1 → ∀ x2 : Int32, r1.1 = x2 → ∀ r3, f_X12_number r1.2 64 x2 (0 : Int32) (15 : Int32) = r3 → ∀ x5 : Int32, (if (gI r3 64 16) = 0 then (gI r3 69 x2.toNatClampNeg) else (0 : Int32)) = x5 → ∀ r6, f_X12_number r3 64 (x2 + (1 : Int32)) x5 (15 : Int32) = r6 → ∀ r7, f_X12_number r6 64 (x2 + (2 : Int32)) (0 : Int32) (200 : Int32) = r7 → ∀ x9 : Int32, (if (gI r7 64 16) = 0 then (gI r7 69 (x2 + (2 : Int32)).toNatClampNeg) else (0 : Int32)) = x9 → p_X12_number r7 64 (x2 + (3 : Int32)) x9 (200 : Int32)) ∧ (∀ r1, f_X12_begins S 64 (3 : Int32) (6 : Int32) (44 : Int32) (4 : Int32) = r1 → ∀ x2 : Int32, r1.1 = x2 → ∀ r3, f_X12_number r1.2 64 x2 (0 : Int32) (15 : Int32) = r3 → ∀ x5 : Int32, (if (gI r3 64 16) = 0 then (gI r3 69 x2.toNatClampNeg) else (0 : Int32)) = x5 → ∀ r6, f_X12_number r3 64 (x2 + (1 : Int32)) x5 (15 : Int32) = r6 → ∀ r7, f_X12_number r6 64 (x2 + (2 : Int32)) (0 : Int32) (200 : Int32) = r7 → ∀ x9 : Int32, (if (gI r7 64 16) = 0 then (gI r7 69 (x2 + (2 : Int32)).toNatClampNeg) else (0 : Int32)) = x9 → ∀ r10, f_X12_number r7 64 (x2 + (3 : Int32)) x9 (200 : Int32) = r10 → p_X12_ends r10 64 (3 : Int32))
set_option maxRecDepth 100000 in
theorem t_X12_readForm (G : GG) (l : Launch) {S : HSt} (hM : MS S)  (hp : p_X12_readForm S 64) : AM G l yX12_readForm cX12_readForm 2 none (rmD 4 0 0) 0 0 [.ref 64] S (FP none (f_X12_readForm S 64)) := by
  obtain ⟨h0, h1, h2, h3, h4, h5, h6, h7⟩ := hp
  refine AM.mk (by decide) (Nat.le_of_ble_eq_true rfl) ?_
  intro p e s m below meth c hC hSt _
  refine aw_aload_n hC 0 dX12_readForm_0 rfl rfl ?_
  refine aw_iconst (v := 3) hC dX12_readForm_1 (by decide) ?_
  refine aw_bipush (v := 6) hC dX12_readForm_2 (by decide) ?_
  refine aw_bipush (v := 44) hC dX12_readForm_4 (by decide) ?_
  refine aw_iconst (v := 4) hC dX12_readForm_6 (by decide) ?_
  refine aw_cV4r hC hSt (t_X12_begins G l hM _ _ _ _ (h0)) w_1002 w_1004 w_1005 w_1006 w_953 rfl rfl (by decide +kernel) ⟨Nat.le_of_ble_eq_true rfl, Nat.le_of_ble_eq_true rfl⟩ (ms_lt 64 (by decide) hM) (ms_k 64 12 0 (by decide) hM) rfl (Nat.le_of_ble_eq_true rfl) dX12_readForm_7 ⟨Nat.zero_le _, Nat.zero_le _⟩ ?_
  generalize er1 : f_X12_begins S 64 (3 : Int32) (6 : Int32) (44 : Int32) (4 : Int32) = r1
  have hM : MS r1.2 := MS.of (by rw [← er1]; exact q_X12_begins _ _ _ _ _ _) hM
  refine aw_istore_n hC [(1, .int _), (0, .ref 64)] dX12_readForm_10 rfl (by decide) rfl ?_
  generalize ex2 : r1.1 = x2
  refine aw_aload_n hC 1 dX12_readForm_11 rfl rfl ?_
  refine aw_iload_n hC 0 dX12_readForm_12 rfl rfl ?_
  refine aw_iconst (v := 0) hC dX12_readForm_13 (by decide) ?_
  refine aw_bipush (v := 15) hC dX12_readForm_14 (by decide) ?_
  refine aw_cV3v hC hSt (t_X12_number G l hM _ _ _ (h1 r1 er1 x2 ex2)) w_1001 w_1007 w_1008 w_1009 w_953 rfl rfl (by decide +kernel) ⟨Nat.le_of_ble_eq_true rfl, Nat.le_of_ble_eq_true rfl⟩ (ms_lt 64 (by decide) hM) (ms_k 64 12 0 (by decide) hM) rfl (Nat.le_of_ble_eq_true rfl) dX12_readForm_16 ⟨Nat.zero_le _, Nat.zero_le _⟩ ?_
  generalize er3 : f_X12_number r1.2 64 x2 (0 : Int32) (15 : Int32) = r3
  have hM : MS r3 := MS.of (by rw [← er3]; exact q_X12_number _ _ _ _ _) hM
  refine aw_aload_n hC 1 dX12_readForm_19 rfl rfl ?_
  refine aw_iload_n hC 0 dX12_readForm_20 rfl rfl ?_
  refine aw_iconst (v := 1) hC dX12_readForm_21 (by decide) ?_
  refine aw_iadd hC dX12_readForm_22 ?_
  refine aw_aload_n hC 1 dX12_readForm_23 rfl rfl ?_
  refine aw_getI hC hSt 16 (ms_lt 64 (by decide) hM) (ms_k 64 12 0 (by decide) hM) rfl (by decide) w_988 rfl dX12_readForm_24 ?_
  refine aw_cut (S' := r3) (pc' := 40) (lv' := [(1, .int x2), (0, .ref 64)]) (st' := [.int (if (gI r3 64 16) = 0 then (gI r3 69 x2.toNatClampNeg) else (0 : Int32)), .int (x2 + (1 : Int32)), .ref 64]) ?_ (fun Jc4 => ?_)
  · generalize ex5 : (if (gI r3 64 16) = 0 then (gI r3 69 x2.toNatClampNeg) else (0 : Int32)) = x5
    refine aw_bipush (v := 15) hC dX12_readForm_40 (by decide) ?_
    refine aw_cV3v hC hSt (t_X12_number G l hM _ _ _ (h3 r1 er1 x2 ex2 r3 er3 x5 ex5)) w_1001 w_1007 w_1008 w_1009 w_953 rfl rfl (by decide +kernel) ⟨Nat.le_of_ble_eq_true rfl, Nat.le_of_ble_eq_true rfl⟩ (ms_lt 64 (by decide) hM) (ms_k 64 12 0 (by decide) hM) rfl (Nat.le_of_ble_eq_true rfl) dX12_readForm_42 ⟨Nat.zero_le _, Nat.zero_le _⟩ ?_
    generalize er6 : f_X12_number r3 64 (x2 + (1 : Int32)) x5 (15 : Int32) = r6
    have hM : MS r6 := MS.of (by rw [← er6]; exact q_X12_number _ _ _ _ _) hM
    refine aw_aload_n hC 1 dX12_readForm_45 rfl rfl ?_
    refine aw_iload_n hC 0 dX12_readForm_46 rfl rfl ?_
    refine aw_iconst (v := 2) hC dX12_readForm_47 (by decide) ?_
    refine aw_iadd hC dX12_readForm_48 ?_
    refine aw_iconst (v := 0) hC dX12_readForm_49 (by decide) ?_
    refine aw_sipush (v := 200) hC dX12_readForm_50 (by decide) ?_
    refine aw_cV3v hC hSt (t_X12_number G l hM _ _ _ (h4 r1 er1 x2 ex2 r3 er3 x5 ex5 r6 er6)) w_1001 w_1007 w_1008 w_1009 w_953 rfl rfl (by decide +kernel) ⟨Nat.le_of_ble_eq_true rfl, Nat.le_of_ble_eq_true rfl⟩ (ms_lt 64 (by decide) hM) (ms_k 64 12 0 (by decide) hM) rfl (Nat.le_of_ble_eq_true rfl) dX12_readForm_53 ⟨Nat.zero_le _, Nat.zero_le _⟩ ?_
    generalize er7 : f_X12_number r6 64 (x2 + (2 : Int32)) (0 : Int32) (200 : Int32) = r7
    have hM : MS r7 := MS.of (by rw [← er7]; exact q_X12_number _ _ _ _ _) hM
    refine aw_aload_n hC 1 dX12_readForm_56 rfl rfl ?_
    refine aw_iload_n hC 0 dX12_readForm_57 rfl rfl ?_
    refine aw_iconst (v := 3) hC dX12_readForm_58 (by decide) ?_
    refine aw_iadd hC dX12_readForm_59 ?_
    refine aw_aload_n hC 1 dX12_readForm_60 rfl rfl ?_
    refine aw_getI hC hSt 16 (ms_lt 64 (by decide) hM) (ms_k 64 12 0 (by decide) hM) rfl (by decide) w_988 rfl dX12_readForm_61 ?_
    refine aw_cut (S' := r7) (pc' := 79) (lv' := [(1, .int x2), (0, .ref 64)]) (st' := [.int (if (gI r7 64 16) = 0 then (gI r7 69 (x2 + (2 : Int32)).toNatClampNeg) else (0 : Int32)), .int (x2 + (3 : Int32)), .ref 64]) ?_ (fun Jc8 => ?_)
    · generalize ex9 : (if (gI r7 64 16) = 0 then (gI r7 69 (x2 + (2 : Int32)).toNatClampNeg) else (0 : Int32)) = x9
      refine aw_sipush (v := 200) hC dX12_readForm_79 (by decide) ?_
      refine aw_cV3v hC hSt (t_X12_number G l hM _ _ _ (h6 r1 er1 x2 ex2 r3 er3 x5 ex5 r6 er6 r7 er7 x9 ex9)) w_1001 w_1007 w_1008 w_1009 w_953 rfl rfl (by decide +kernel) ⟨Nat.le_of_ble_eq_true rfl, Nat.le_of_ble_eq_true rfl⟩ (ms_lt 64 (by decide) hM) (ms_k 64 12 0 (by decide) hM) rfl (Nat.le_of_ble_eq_true rfl) dX12_readForm_82 ⟨Nat.zero_le _, Nat.zero_le _⟩ ?_
      generalize er10 : f_X12_number r7 64 (x2 + (3 : Int32)) x9 (200 : Int32) = r10
      have hM : MS r10 := MS.of (by rw [← er10]; exact q_X12_number _ _ _ _ _) hM
      refine aw_aload_n hC 1 dX12_readForm_85 rfl rfl ?_
      refine aw_iconst (v := 3) hC dX12_readForm_86 (by decide) ?_
      refine aw_cV1v hC hSt (t_X12_ends G l hM _ (h7 r1 er1 x2 ex2 r3 er3 x5 ex5 r6 er6 r7 er7 x9 ex9 r10 er10)) w_1003 w_1010 w_1011 w_1012 w_953 rfl rfl (by decide +kernel) ⟨Nat.le_of_ble_eq_true rfl, Nat.le_of_ble_eq_true rfl⟩ (ms_lt 64 (by decide) hM) (ms_k 64 12 0 (by decide) hM) rfl (Nat.le_of_ble_eq_true rfl) dX12_readForm_87 ⟨Nat.zero_le _, Nat.zero_le _⟩ ?_
      generalize er11 : f_X12_ends r10 64 (3 : Int32) = r11
      have hM : MS r11 := MS.of (by rw [← er11]; exact q_X12_ends _ _ _) hM
      refine aw_vret hC dX12_readForm_90 (Nat.le_refl _) (Nat.le_refl _) ?_
      exact FP.qV ((bd_eq er1).trans ((bd_eq ex2).trans ((bd_eq er3).trans ((bd_eq ex5).trans ((bd_eq er6).trans ((bd_eq er7).trans ((bd_eq ex9).trans ((bd_eq er10).trans ((bd_eq er11).trans (rfl))))))))))
    · refine aw_if_ne hC 78 dX12_readForm_64 (by decide) (fun c8 => ?_) (fun c8 => ?_)
      · refine aw_iconst (v := 0) hC dX12_readForm_78 (by decide) ?_
        simp only [bd_def, if_neg c8] at Jc8 ⊢
        exact Jc8
      · refine aw_aload_n hC 1 dX12_readForm_67 rfl rfl ?_
        refine aw_getP (b := 69) hC hSt 6 (ms_lt 64 (by decide) hM) (ms_k 64 12 0 (by decide) hM) rfl (by decide) w_921 rfl (ms_p 6 69 (by decide) hM) dX12_readForm_68 ?_
        refine aw_iload_n hC 0 dX12_readForm_71 rfl rfl ?_
        refine aw_iconst (v := 2) hC dX12_readForm_72 (by decide) ?_
        refine aw_iadd hC dX12_readForm_73 ?_
        refine aw_iald hC hSt (ms_lt 69 (by decide) hM) (ms_k 69 14 172 (by decide) hM) (vp_len (n := 172) (ms_l 69 14 172 (by decide) hM) (h5 r1 er1 x2 ex2 r3 er3 x5 ex5 r6 er6 r7 er7 c8)) dX12_readForm_74 ?_
        refine aw_goto hC 79 dX12_readForm_75 (by decide) ?_
        simp only [bd_def, if_pos c8] at Jc8 ⊢
        exact Jc8
  · refine aw_if_ne hC 39 dX12_readForm_27 (by decide) (fun c4 => ?_) (fun c4 => ?_)
    · refine aw_iconst (v := 0) hC dX12_readForm_39 (by decide) ?_
      simp only [bd_def, if_neg c4] at Jc4 ⊢
      exact Jc4
    · refine aw_aload_n hC 1 dX12_readForm_30 rfl rfl ?_
      refine aw_getP (b := 69) hC hSt 6 (ms_lt 64 (by decide) hM) (ms_k 64 12 0 (by decide) hM) rfl (by decide) w_921 rfl (ms_p 6 69 (by decide) hM) dX12_readForm_31 ?_
      refine aw_iload_n hC 0 dX12_readForm_34 rfl rfl ?_
      refine aw_iald hC hSt (ms_lt 69 (by decide) hM) (ms_k 69 14 172 (by decide) hM) (vp_len (n := 172) (ms_l 69 14 172 (by decide) hM) (h2 r1 er1 x2 ex2 r3 er3 c4)) dX12_readForm_35 ?_
      refine aw_goto hC 40 dX12_readForm_36 (by decide) ?_
      simp only [bd_def, if_pos c4] at Jc4 ⊢
      exact Jc4
theorem q_X12_readForm (S : HSt) (_o : Nat)  : shp (f_X12_readForm S _o) = shp S := by
  unfold f_X12_readForm
  repeat' (first | with_reducible rfl | with_reducible refine (q_X12_begins _ _ _ _ _ _).trans ?_ | with_reducible refine (q_X12_ends _ _ _).trans ?_ | with_reducible refine (q_X12_number _ _ _ _ _).trans ?_ | with_reducible refine (shp_sI _ _ _ _).trans ?_ | with_reducible refine (shp_sJ _ _ _ _).trans ?_ | with_reducible refine shi ?_ ?_ | with_reducible refine shb (fun _ _ => ?_) | (subst_vars; with_reducible rfl) | (subst_vars; with_reducible refine (q_X12_begins _ _ _ _ _ _).trans ?_) | (subst_vars; with_reducible refine (q_X12_ends _ _ _).trans ?_) | (subst_vars; with_reducible refine (q_X12_number _ _ _ _ _).trans ?_) | (subst_vars; with_reducible refine (shp_sI _ _ _ _).trans ?_) | (subst_vars; with_reducible refine (shp_sJ _ _ _ _).trans ?_) | (subst_vars; with_reducible refine shi ?_ ?_) | (subst_vars; with_reducible refine shb (fun _ _ => ?_)))
theorem v_X12_readForm (S : HSt) (_o : Nat)  : Fr [(64, 12), (64, 13), (64, 14), (64, 15), (64, 16), (64, 17), (69, 1000)] S (f_X12_readForm S _o) := by
  unfold f_X12_readForm
  repeat' (first | with_reducible exact Fr.refl _ _ | with_reducible refine Fr.l1 (fun _ _ => ?_) | with_reducible refine Fr.ite ?_ ?_ | with_reducible refine Fr.sE (by assumption) (by first | decide | simp only [List.mem_cons, List.not_mem_nil, or_false, true_or, or_true, eq_self_iff_true]) ?_ | with_reducible refine Fr.jE (by assumption) ?_ | with_reducible refine Fr.rE (by assumption) (by first | decide | simp only [List.mem_cons, List.not_mem_nil, or_false, true_or, or_true, eq_self_iff_true]) ?_ | with_reducible refine Fr.iE (by assumption) ?_ ?_ | with_reducible refine Fr.tr (w_X12_begins _ _ _ _ _ _ _ (by assumption)) (by first | decide | simp only [List.mem_cons, List.not_mem_nil, or_false, forall_eq_or_imp, forall_eq, true_or, or_true, and_self, eq_self_iff_true]) ?_ | with_reducible refine Fr.tr (w_X12_ends _ _ _ _ (by assumption)) (by first | decide | simp only [List.mem_cons, List.not_mem_nil, or_false, forall_eq_or_imp, forall_eq, true_or, or_true, and_self, eq_self_iff_true]) ?_ | with_reducible refine Fr.tr (w_X12_number _ _ _ _ _ _ (by assumption)) (by first | decide | simp only [List.mem_cons, List.not_mem_nil, or_false, forall_eq_or_imp, forall_eq, true_or, or_true, and_self, eq_self_iff_true]) ?_)
theorem w_X12_readForm (S : HSt) (_o : Nat)  (r : HSt) (e : f_X12_readForm S _o = r) : Fr [(64, 12), (64, 13), (64, 14), (64, 15), (64, 16), (64, 17), (69, 1000)] S r := by
  rw [← e]
  exact v_X12_readForm S _o
noncomputable def f_X12_readRule (S : HSt) (_o : Nat)  : HSt := bd (f_X12_must S 64 (1 : Int32)) fun r1 => bd (f_X12_number r1 64 (68 : Int32) (1 : Int32) (200 : Int32)) fun r2 => bd (f_X12_number r2 64 (69 : Int32) (0 : Int32) (99 : Int32)) fun r3 => bd (f_X12_number r3 64 (70 : Int32) (0 : Int32) (99 : Int32)) fun r4 => bd (f_X12_number r4 64 (71 : Int32) (0 : Int32) (99 : Int32)) fun r5 => bd (f_X12_ends r5 64 (4 : Int32)) fun r6 => r6
def p_X12_readRule (S : HSt) (_o : Nat)  : Prop := (p_X12_must S 64 (1 : Int32)) ∧ (∀ r1, f_X12_must S 64 (1 : Int32) = r1 → p_X12_number r1 64 (68 : Int32) (1 : Int32) (200 : Int32)) ∧ (∀ r1, f_X12_must S 64 (1 : Int32) = r1 → ∀ r2, f_X12_number r1 64 (68 : Int32) (1 : Int32) (200 : Int32) = r2 → p_X12_number r2 64 (69 : Int32) (0 : Int32) (99 : Int32)) ∧ (∀ r1, f_X12_must S 64 (1 : Int32) = r1 → ∀ r2, f_X12_number r1 64 (68 : Int32) (1 : Int32) (200 : Int32) = r2 → ∀ r3, f_X12_number r2 64 (69 : Int32) (0 : Int32) (99 : Int32) = r3 → p_X12_number r3 64 (70 : Int32) (0 : Int32) (99 : Int32)) ∧ (∀ r1, f_X12_must S 64 (1 : Int32) = r1 → ∀ r2, f_X12_number r1 64 (68 : Int32) (1 : Int32) (200 : Int32) = r2 → ∀ r3, f_X12_number r2 64 (69 : Int32) (0 : Int32) (99 : Int32) = r3 → ∀ r4, f_X12_number r3 64 (70 : Int32) (0 : Int32) (99 : Int32) = r4 → p_X12_number r4 64 (71 : Int32) (0 : Int32) (99 : Int32)) ∧ (∀ r1, f_X12_must S 64 (1 : Int32) = r1 → ∀ r2, f_X12_number r1 64 (68 : Int32) (1 : Int32) (200 : Int32) = r2 → ∀ r3, f_X12_number r2 64 (69 : Int32) (0 : Int32) (99 : Int32) = r3 → ∀ r4, f_X12_number r3 64 (70 : Int32) (0 : Int32) (99 : Int32) = r4 → ∀ r5, f_X12_number r4 64 (71 : Int32) (0 : Int32) (99 : Int32) = r5 → p_X12_ends r5 64 (4 : Int32))
set_option maxRecDepth 100000 in
theorem t_X12_readRule (G : GG) (l : Launch) {S : HSt} (hM : MS S)  (hp : p_X12_readRule S 64) : AM G l yX12_readRule cX12_readRule 1 none (rmD 4 0 0) 0 0 [.ref 64] S (FP none (f_X12_readRule S 64)) := by
  obtain ⟨h0, h1, h2, h3, h4, h5⟩ := hp
  refine AM.mk (by decide) (Nat.le_of_ble_eq_true rfl) ?_
  intro p e s m below meth c hC hSt _
  refine aw_aload_n hC 0 dX12_readRule_0 rfl rfl ?_
  refine aw_iconst (v := 1) hC dX12_readRule_1 (by decide) ?_
  refine aw_cV1v hC hSt (t_X12_must G l hM _ (h0)) w_996 w_998 w_999 w_1000 w_953 rfl rfl (by decide +kernel) ⟨Nat.le_of_ble_eq_true rfl, Nat.le_of_ble_eq_true rfl⟩ (ms_lt 64 (by decide) hM) (ms_k 64 12 0 (by decide) hM) rfl (Nat.le_of_ble_eq_true rfl) dX12_readRule_2 ⟨Nat.zero_le _, Nat.zero_le _⟩ ?_
  generalize er1 : f_X12_must S 64 (1 : Int32) = r1
  have hM : MS r1 := MS.of (by rw [← er1]; exact q_X12_must _ _ _) hM
  refine aw_aload_n hC 0 dX12_readRule_5 rfl rfl ?_
  refine aw_bipush (v := 68) hC dX12_readRule_6 (by decide) ?_
  refine aw_iconst (v := 1) hC dX12_readRule_8 (by decide) ?_
  refine aw_sipush (v := 200) hC dX12_readRule_9 (by decide) ?_
  refine aw_cV3v hC hSt (t_X12_number G l hM _ _ _ (h1 r1 er1)) w_1001 w_1007 w_1008 w_1009 w_953 rfl rfl (by decide +kernel) ⟨Nat.le_of_ble_eq_true rfl, Nat.le_of_ble_eq_true rfl⟩ (ms_lt 64 (by decide) hM) (ms_k 64 12 0 (by decide) hM) rfl (Nat.le_of_ble_eq_true rfl) dX12_readRule_12 ⟨Nat.zero_le _, Nat.zero_le _⟩ ?_
  generalize er2 : f_X12_number r1 64 (68 : Int32) (1 : Int32) (200 : Int32) = r2
  have hM : MS r2 := MS.of (by rw [← er2]; exact q_X12_number _ _ _ _ _) hM
  refine aw_aload_n hC 0 dX12_readRule_15 rfl rfl ?_
  refine aw_bipush (v := 69) hC dX12_readRule_16 (by decide) ?_
  refine aw_iconst (v := 0) hC dX12_readRule_18 (by decide) ?_
  refine aw_bipush (v := 99) hC dX12_readRule_19 (by decide) ?_
  refine aw_cV3v hC hSt (t_X12_number G l hM _ _ _ (h2 r1 er1 r2 er2)) w_1001 w_1007 w_1008 w_1009 w_953 rfl rfl (by decide +kernel) ⟨Nat.le_of_ble_eq_true rfl, Nat.le_of_ble_eq_true rfl⟩ (ms_lt 64 (by decide) hM) (ms_k 64 12 0 (by decide) hM) rfl (Nat.le_of_ble_eq_true rfl) dX12_readRule_21 ⟨Nat.zero_le _, Nat.zero_le _⟩ ?_
  generalize er3 : f_X12_number r2 64 (69 : Int32) (0 : Int32) (99 : Int32) = r3
  have hM : MS r3 := MS.of (by rw [← er3]; exact q_X12_number _ _ _ _ _) hM
  refine aw_aload_n hC 0 dX12_readRule_24 rfl rfl ?_
  refine aw_bipush (v := 70) hC dX12_readRule_25 (by decide) ?_
  refine aw_iconst (v := 0) hC dX12_readRule_27 (by decide) ?_
  refine aw_bipush (v := 99) hC dX12_readRule_28 (by decide) ?_
  refine aw_cV3v hC hSt (t_X12_number G l hM _ _ _ (h3 r1 er1 r2 er2 r3 er3)) w_1001 w_1007 w_1008 w_1009 w_953 rfl rfl (by decide +kernel) ⟨Nat.le_of_ble_eq_true rfl, Nat.le_of_ble_eq_true rfl⟩ (ms_lt 64 (by decide) hM) (ms_k 64 12 0 (by decide) hM) rfl (Nat.le_of_ble_eq_true rfl) dX12_readRule_30 ⟨Nat.zero_le _, Nat.zero_le _⟩ ?_
  generalize er4 : f_X12_number r3 64 (70 : Int32) (0 : Int32) (99 : Int32) = r4
  have hM : MS r4 := MS.of (by rw [← er4]; exact q_X12_number _ _ _ _ _) hM
  refine aw_aload_n hC 0 dX12_readRule_33 rfl rfl ?_
  refine aw_bipush (v := 71) hC dX12_readRule_34 (by decide) ?_
  refine aw_iconst (v := 0) hC dX12_readRule_36 (by decide) ?_
  refine aw_bipush (v := 99) hC dX12_readRule_37 (by decide) ?_
  refine aw_cV3v hC hSt (t_X12_number G l hM _ _ _ (h4 r1 er1 r2 er2 r3 er3 r4 er4)) w_1001 w_1007 w_1008 w_1009 w_953 rfl rfl (by decide +kernel) ⟨Nat.le_of_ble_eq_true rfl, Nat.le_of_ble_eq_true rfl⟩ (ms_lt 64 (by decide) hM) (ms_k 64 12 0 (by decide) hM) rfl (Nat.le_of_ble_eq_true rfl) dX12_readRule_39 ⟨Nat.zero_le _, Nat.zero_le _⟩ ?_
  generalize er5 : f_X12_number r4 64 (71 : Int32) (0 : Int32) (99 : Int32) = r5
  have hM : MS r5 := MS.of (by rw [← er5]; exact q_X12_number _ _ _ _ _) hM
  refine aw_aload_n hC 0 dX12_readRule_42 rfl rfl ?_
  refine aw_iconst (v := 4) hC dX12_readRule_43 (by decide) ?_
  refine aw_cV1v hC hSt (t_X12_ends G l hM _ (h5 r1 er1 r2 er2 r3 er3 r4 er4 r5 er5)) w_1003 w_1010 w_1011 w_1012 w_953 rfl rfl (by decide +kernel) ⟨Nat.le_of_ble_eq_true rfl, Nat.le_of_ble_eq_true rfl⟩ (ms_lt 64 (by decide) hM) (ms_k 64 12 0 (by decide) hM) rfl (Nat.le_of_ble_eq_true rfl) dX12_readRule_44 ⟨Nat.zero_le _, Nat.zero_le _⟩ ?_
  generalize er6 : f_X12_ends r5 64 (4 : Int32) = r6
  have hM : MS r6 := MS.of (by rw [← er6]; exact q_X12_ends _ _ _) hM
  refine aw_vret hC dX12_readRule_47 (Nat.le_refl _) (Nat.le_refl _) ?_
  exact FP.qV ((bd_eq er1).trans ((bd_eq er2).trans ((bd_eq er3).trans ((bd_eq er4).trans ((bd_eq er5).trans ((bd_eq er6).trans (rfl)))))))
theorem q_X12_readRule (S : HSt) (_o : Nat)  : shp (f_X12_readRule S _o) = shp S := by
  unfold f_X12_readRule
  repeat' (first | with_reducible rfl | with_reducible refine (q_X12_ends _ _ _).trans ?_ | with_reducible refine (q_X12_must _ _ _).trans ?_ | with_reducible refine (q_X12_number _ _ _ _ _).trans ?_ | with_reducible refine (shp_sI _ _ _ _).trans ?_ | with_reducible refine (shp_sJ _ _ _ _).trans ?_ | with_reducible refine shi ?_ ?_ | with_reducible refine shb (fun _ _ => ?_) | (subst_vars; with_reducible rfl) | (subst_vars; with_reducible refine (q_X12_ends _ _ _).trans ?_) | (subst_vars; with_reducible refine (q_X12_must _ _ _).trans ?_) | (subst_vars; with_reducible refine (q_X12_number _ _ _ _ _).trans ?_) | (subst_vars; with_reducible refine (shp_sI _ _ _ _).trans ?_) | (subst_vars; with_reducible refine (shp_sJ _ _ _ _).trans ?_) | (subst_vars; with_reducible refine shi ?_ ?_) | (subst_vars; with_reducible refine shb (fun _ _ => ?_)))
theorem v_X12_readRule (S : HSt) (_o : Nat)  : Fr [(64, 12), (64, 13), (64, 14), (64, 15), (64, 16), (64, 17), (69, 1000)] S (f_X12_readRule S _o) := by
  unfold f_X12_readRule
  repeat' (first | with_reducible exact Fr.refl _ _ | with_reducible refine Fr.l1 (fun _ _ => ?_) | with_reducible refine Fr.ite ?_ ?_ | with_reducible refine Fr.sE (by assumption) (by first | decide | simp only [List.mem_cons, List.not_mem_nil, or_false, true_or, or_true, eq_self_iff_true]) ?_ | with_reducible refine Fr.jE (by assumption) ?_ | with_reducible refine Fr.rE (by assumption) (by first | decide | simp only [List.mem_cons, List.not_mem_nil, or_false, true_or, or_true, eq_self_iff_true]) ?_ | with_reducible refine Fr.iE (by assumption) ?_ ?_ | with_reducible refine Fr.tr (w_X12_ends _ _ _ _ (by assumption)) (by first | decide | simp only [List.mem_cons, List.not_mem_nil, or_false, forall_eq_or_imp, forall_eq, true_or, or_true, and_self, eq_self_iff_true]) ?_ | with_reducible refine Fr.tr (w_X12_must _ _ _ _ (by assumption)) (by first | decide | simp only [List.mem_cons, List.not_mem_nil, or_false, forall_eq_or_imp, forall_eq, true_or, or_true, and_self, eq_self_iff_true]) ?_ | with_reducible refine Fr.tr (w_X12_number _ _ _ _ _ _ (by assumption)) (by first | decide | simp only [List.mem_cons, List.not_mem_nil, or_false, forall_eq_or_imp, forall_eq, true_or, or_true, and_self, eq_self_iff_true]) ?_)
theorem w_X12_readRule (S : HSt) (_o : Nat)  (r : HSt) (e : f_X12_readRule S _o = r) : Fr [(64, 12), (64, 13), (64, 14), (64, 15), (64, 16), (64, 17), (69, 1000)] S r := by
  rw [← e]
  exact v_X12_readRule S _o
noncomputable def F_X12_kindOfWord (S : HSt) (_o : Nat)  : Int32 × HSt := bd ((f_X12_word S 64)) fun x1 => bd ((if (lg_cmp x1 (1936746862 : Int64)) = 0 then (2 : Int32) else (if (lg_cmp x1 (495873781348 : Int64)) = 0 then (3 : Int32) else (if (lg_cmp x1 (1718378868 : Int64)) = 0 then (4 : Int32) else (if (lg_cmp x1 (1701078885 : Int64)) = 0 then (5 : Int32) else (if (lg_cmp x1 (427021005669 : Int64)) = 0 then (6 : Int32) else (-1000000 : Int32))))))) fun x7 => pr (x7) (S)
noncomputable def f_X12_kindOfWord (S : HSt) (_o : Nat)  : Int32 := (F_X12_kindOfWord S _o).1
def p_X12_kindOfWord (S : HSt) (_o : Nat)  : Prop := (p_X12_word S 64)
set_option maxRecDepth 100000 in
theorem t_X12_kindOfWord (G : GG) (l : Launch) {S : HSt} (hM : MS S)  (hp : p_X12_kindOfWord S 64) : AM G l yX12_kindOfWord cX12_kindOfWord 3 (some .int) (rmD 1 0 0) 0 0 [.ref 64] S (FP (some (.int (f_X12_kindOfWord S 64))) (S)) := by
  have h0 := hp
  unfold p_X12_kindOfWord at h0
  refine AM.mk (by decide) (Nat.le_of_ble_eq_true rfl) ?_
  intro p e s m below meth c hC hSt _
  refine aw_aload_n hC 0 dX12_kindOfWord_0 rfl rfl ?_
  refine aw_cV0r hC hSt (t_X12_word G l hM  (h0)) w_997 w_1024 w_1025 w_1026 w_953 rfl rfl (by decide +kernel) ⟨Nat.le_of_ble_eq_true rfl, Nat.le_of_ble_eq_true rfl⟩ (ms_lt 64 (by decide) hM) (ms_k 64 12 0 (by decide) hM) rfl (Nat.le_of_ble_eq_true rfl) dX12_kindOfWord_1 ⟨Nat.zero_le _, Nat.zero_le _⟩ ?_
  refine aw_lstore_n hC [(1, .long _), (0, .ref 64)] dX12_kindOfWord_4 rfl (by decide) rfl ?_
  generalize ex1 : (f_X12_word S 64) = x1
  refine aw_lload_n hC 0 dX12_kindOfWord_5 rfl rfl ?_
  refine aw_ldc2 (v := 1936746862) hC w_1019 dX12_kindOfWord_6 ?_
  refine aw_lcmp hC dX12_kindOfWord_9 ?_
  refine aw_cut (S' := S) (pc' := 68) (lv' := [(1, .long x1), (0, .ref 64)]) (st' := [.int (if (lg_cmp x1 (1936746862 : Int64)) = 0 then (2 : Int32) else (if (lg_cmp x1 (495873781348 : Int64)) = 0 then (3 : Int32) else (if (lg_cmp x1 (1718378868 : Int64)) = 0 then (4 : Int32) else (if (lg_cmp x1 (1701078885 : Int64)) = 0 then (5 : Int32) else (if (lg_cmp x1 (427021005669 : Int64)) = 0 then (6 : Int32) else (-1000000 : Int32))))))]) ?_ (fun Jc2 => ?_)
  · generalize ex7 : (if (lg_cmp x1 (1936746862 : Int64)) = 0 then (2 : Int32) else (if (lg_cmp x1 (495873781348 : Int64)) = 0 then (3 : Int32) else (if (lg_cmp x1 (1718378868 : Int64)) = 0 then (4 : Int32) else (if (lg_cmp x1 (1701078885 : Int64)) = 0 then (5 : Int32) else (if (lg_cmp x1 (427021005669 : Int64)) = 0 then (6 : Int32) else (-1000000 : Int32)))))) = x7
    refine aw_iret hC dX12_kindOfWord_68 (Nat.le_refl _) (Nat.le_refl _) ?_
    exact FP.pI ((bd_eq ex1).trans ((bd_eq ex7).trans (rfl)))
  · refine aw_if_ne hC 17 dX12_kindOfWord_10 (by decide) (fun c2 => ?_) (fun c2 => ?_)
    · refine aw_lload_n hC 0 dX12_kindOfWord_17 rfl rfl ?_
      refine aw_ldc2 (v := 495873781348) hC w_1020 dX12_kindOfWord_18 ?_
      refine aw_lcmp hC dX12_kindOfWord_21 ?_
      refine aw_if_ne hC 29 dX12_kindOfWord_22 (by decide) (fun c3 => ?_) (fun c3 => ?_)
      · refine aw_lload_n hC 0 dX12_kindOfWord_29 rfl rfl ?_
        refine aw_ldc2 (v := 1718378868) hC w_1021 dX12_kindOfWord_30 ?_
        refine aw_lcmp hC dX12_kindOfWord_33 ?_
        refine aw_if_ne hC 41 dX12_kindOfWord_34 (by decide) (fun c4 => ?_) (fun c4 => ?_)
        · refine aw_lload_n hC 0 dX12_kindOfWord_41 rfl rfl ?_
          refine aw_ldc2 (v := 1701078885) hC w_1022 dX12_kindOfWord_42 ?_
          refine aw_lcmp hC dX12_kindOfWord_45 ?_
          refine aw_if_ne hC 53 dX12_kindOfWord_46 (by decide) (fun c5 => ?_) (fun c5 => ?_)
          · refine aw_lload_n hC 0 dX12_kindOfWord_53 rfl rfl ?_
            refine aw_ldc2 (v := 427021005669) hC w_1023 dX12_kindOfWord_54 ?_
            refine aw_lcmp hC dX12_kindOfWord_57 ?_
            refine aw_if_ne hC 66 dX12_kindOfWord_58 (by decide) (fun c6 => ?_) (fun c6 => ?_)
            · refine aw_ldc (v := -1000000) hC w_923 dX12_kindOfWord_66 ?_
              simp only [bd_def, if_neg c2, if_neg c3, if_neg c4, if_neg c5, if_neg c6] at Jc2 ⊢
              exact Jc2
            · refine aw_bipush (v := 6) hC dX12_kindOfWord_61 (by decide) ?_
              refine aw_goto hC 68 dX12_kindOfWord_63 (by decide) ?_
              simp only [bd_def, if_neg c2, if_neg c3, if_neg c4, if_neg c5, if_pos c6] at Jc2 ⊢
              exact Jc2
          · refine aw_iconst (v := 5) hC dX12_kindOfWord_49 (by decide) ?_
            refine aw_goto hC 68 dX12_kindOfWord_50 (by decide) ?_
            simp only [bd_def, if_neg c2, if_neg c3, if_neg c4, if_pos c5] at Jc2 ⊢
            exact Jc2
        · refine aw_iconst (v := 4) hC dX12_kindOfWord_37 (by decide) ?_
          refine aw_goto hC 68 dX12_kindOfWord_38 (by decide) ?_
          simp only [bd_def, if_neg c2, if_neg c3, if_pos c4] at Jc2 ⊢
          exact Jc2
      · refine aw_iconst (v := 3) hC dX12_kindOfWord_25 (by decide) ?_
        refine aw_goto hC 68 dX12_kindOfWord_26 (by decide) ?_
        simp only [bd_def, if_neg c2, if_pos c3] at Jc2 ⊢
        exact Jc2
    · refine aw_iconst (v := 2) hC dX12_kindOfWord_13 (by decide) ?_
      refine aw_goto hC 68 dX12_kindOfWord_14 (by decide) ?_
      simp only [bd_def, if_pos c2] at Jc2 ⊢
      exact Jc2
noncomputable def L_X12_readAct_45 : Nat → HSt → Int32 → Int32 → Int32 → Int32 × Int32 × Int32 × HSt
  | 0, S, v1, v2, v3 => (v1, v2, v3, S)
  | n + 1, S, v1, v2, v3 =>
    if (5 : Int32) ≤ v3 then ((pr (v1) (pr (v2) (pr (v3) (S))))) else (bd ((sI S 69 (v2 + v3).toNatClampNeg (-1000000 : Int32))) fun S1008 => L_X12_readAct_45 n S1008 v1 v2 (v3 + (1 : Int32)))
def T_X12_readAct_45 : Nat → HSt → Int32 → Int32 → Int32 → Prop
  | 0, _, _, _, _ => False
  | n + 1, S, v1, v2, v3 => ((¬ (5 : Int32) ≤ v3) → vp_in (v2 + v3) 172) ∧ ((¬ (5 : Int32) ≤ v3) → ∀ S1008 : HSt, (sI S 69 (v2 + v3).toNatClampNeg (-1000000 : Int32)) = S1008 → T_X12_readAct_45 n S1008 v1 v2 (v3 + (1 : Int32)))
theorem qL_X12_readAct_45 : ∀ (n : Nat) (S : HSt) (v1 : Int32) (v2 : Int32) (v3 : Int32), shp (L_X12_readAct_45 n S v1 v2 v3).2.2.2 = shp S := by
  intro n
  induction n with
  | zero => intros; rfl
  | succ n ih =>
    intro S v1 v2 v3
    unfold L_X12_readAct_45
    repeat' (first | with_reducible refine shpr3 ?_ | with_reducible rfl | with_reducible refine (ih _ _ _ _).trans ?_ | with_reducible refine (q_X12_bad _ _ _).trans ?_ | with_reducible refine (q_X12_begins _ _ _ _ _ _).trans ?_ | with_reducible refine (q_X12_ends _ _ _).trans ?_ | with_reducible refine (q_X12_number _ _ _ _ _).trans ?_ | with_reducible refine (shp_sI _ _ _ _).trans ?_ | with_reducible refine (shp_sJ _ _ _ _).trans ?_ | with_reducible refine shi ?_ ?_ | with_reducible refine shb (fun _ _ => ?_) | with_reducible refine shiP (fun q : Int32 × Int32 × Int32 × HSt => q.2.2.2) ?_ ?_ | with_reducible refine shbP (fun q : Int32 × Int32 × Int32 × HSt => q.2.2.2) (fun _ _ => ?_) | (subst_vars; with_reducible rfl) | (subst_vars; with_reducible refine (ih _ _ _ _).trans ?_) | (subst_vars; with_reducible refine (q_X12_bad _ _ _).trans ?_) | (subst_vars; with_reducible refine (q_X12_begins _ _ _ _ _ _).trans ?_) | (subst_vars; with_reducible refine (q_X12_ends _ _ _).trans ?_) | (subst_vars; with_reducible refine (q_X12_number _ _ _ _ _).trans ?_) | (subst_vars; with_reducible refine (shp_sI _ _ _ _).trans ?_) | (subst_vars; with_reducible refine (shp_sJ _ _ _ _).trans ?_) | (subst_vars; with_reducible refine shi ?_ ?_) | (subst_vars; with_reducible refine shb (fun _ _ => ?_)))
theorem vL_X12_readAct_45 : ∀ (n : Nat) (S : HSt) (v1 : Int32) (v2 : Int32) (v3 : Int32), Fr [(69, 1000)] S (L_X12_readAct_45 n S v1 v2 v3).2.2.2 := by
  intro n
  induction n with
  | zero => intros; exact Fr.refl _ _
  | succ n ih =>
    intro S v1 v2 v3
    unfold L_X12_readAct_45
    repeat' (first | with_reducible refine frpr3 ?_ | with_reducible exact Fr.refl _ _ | with_reducible refine Fr.lP (fun q : Int32 × Int32 × Int32 × HSt => q.2.2.2) (fun _ _ => ?_) | with_reducible refine Fr.iteP (fun q : Int32 × Int32 × Int32 × HSt => q.2.2.2) ?_ ?_ | with_reducible refine Fr.l1 (fun _ _ => ?_) | with_reducible refine Fr.ite ?_ ?_ | with_reducible refine Fr.sE (by assumption) (by first | decide | simp only [List.mem_cons, List.not_mem_nil, or_false, true_or, or_true, eq_self_iff_true]) ?_ | with_reducible refine Fr.jE (by assumption) ?_ | with_reducible refine Fr.rE (by assumption) (by first | decide | simp only [List.mem_cons, List.not_mem_nil, or_false, true_or, or_true, eq_self_iff_true]) ?_ | with_reducible refine Fr.iE (by assumption) ?_ ?_ | with_reducible refine Fr.tr (ih _ _ _ _) (by first | decide | simp only [List.mem_cons, List.not_mem_nil, or_false, forall_eq_or_imp, forall_eq, true_or, or_true, and_self, eq_self_iff_true]) ?_ | with_reducible refine Fr.tr (w_X12_bad _ _ _ _ (by assumption)) (by first | decide | simp only [List.mem_cons, List.not_mem_nil, or_false, forall_eq_or_imp, forall_eq, true_or, or_true, and_self, eq_self_iff_true]) ?_ | with_reducible refine Fr.tr (w_X12_begins _ _ _ _ _ _ _ (by assumption)) (by first | decide | simp only [List.mem_cons, List.not_mem_nil, or_false, forall_eq_or_imp, forall_eq, true_or, or_true, and_self, eq_self_iff_true]) ?_ | with_reducible refine Fr.tr (w_X12_ends _ _ _ _ (by assumption)) (by first | decide | simp only [List.mem_cons, List.not_mem_nil, or_false, forall_eq_or_imp, forall_eq, true_or, or_true, and_self, eq_self_iff_true]) ?_ | with_reducible refine Fr.tr (w_X12_number _ _ _ _ _ _ (by assumption)) (by first | decide | simp only [List.mem_cons, List.not_mem_nil, or_false, forall_eq_or_imp, forall_eq, true_or, or_true, and_self, eq_self_iff_true]) ?_)
theorem wL_X12_readAct_45 (n : Nat) (S : HSt) (v1 : Int32) (v2 : Int32) (v3 : Int32) (r : Int32 × Int32 × Int32 × HSt) (e : L_X12_readAct_45 n S v1 v2 v3 = r) : Fr [(69, 1000)] S r.2.2.2 := by
  rw [← e]
  exact vL_X12_readAct_45 n S v1 v2 v3
set_option maxRecDepth 100000 in
theorem l_X12_readAct_45 {p : Program} {l : Launch} {e : Env} {s : State} {m : MethodId} {args : Array Value} {below : List Frame} {meth : Method} {c : Code} {G : GG} {Q : State → Prop} (hC : ACx p s m args meth c cX12_readAct RX12 4 none) (hSt : St G s)  : ∀ (n : Nat) (S : HSt) (v1 : Int32) (v2 : Int32) (v3 : Int32), MS S → T_X12_readAct_45 n S v1 v2 v3 → AW p l e (rmD 4 0 0) s m args below meth c G 4 Q (L_X12_readAct_45 n S v1 v2 v3).2.2.2 0 0 66 [(0, .ref 64), (1, .int (L_X12_readAct_45 n S v1 v2 v3).1), (2, .int (L_X12_readAct_45 n S v1 v2 v3).2.1), (3, .int (L_X12_readAct_45 n S v1 v2 v3).2.2.1)] [] → AW p l e (rmD 4 0 0) s m args below meth c G 4 Q S 0 0 45 [(0, .ref 64), (1, .int v1), (2, .int v2), (3, .int v3)] [] := by
  intro n
  induction n with
  | zero => intro S v1 v2 v3 _ hT; exact hT.elim
  | succ n ih =>
    intro S v1 v2 v3 hM hT hk
    unfold T_X12_readAct_45 at hT
    obtain ⟨h0, h1⟩ := hT
    refine aw_iload_n hC 3 dX12_readAct_45 rfl rfl ?_
    refine aw_iconst (v := 5) hC dX12_readAct_46 (by decide) ?_
    refine aw_icmp_ge hC 66 dX12_readAct_47 (by decide) (fun c1007 => ?_) (fun c1007 => ?_)
    · refine aw_sub [0, 1, 2, 3] rfl ?_
      have E : L_X12_readAct_45 (n + 1) S v1 v2 v3 = _ := (if_pos c1007).trans (rfl)
      rw [E] at hk
      exact hk
    · refine aw_aload_n hC 0 dX12_readAct_50 rfl rfl ?_
      refine aw_getP (b := 69) hC hSt 6 (ms_lt 64 (by decide) hM) (ms_k 64 12 0 (by decide) hM) rfl (by decide) w_921 rfl (ms_p 6 69 (by decide) hM) dX12_readAct_51 ?_
      refine aw_iload_n hC 2 dX12_readAct_54 rfl rfl ?_
      refine aw_iload_n hC 3 dX12_readAct_55 rfl rfl ?_
      refine aw_iadd hC dX12_readAct_56 ?_
      refine aw_ldc (v := -1000000) hC w_923 dX12_readAct_57 ?_
      refine aw_iast hC hSt (ms_lt 69 (by decide) hM) (ms_k 69 14 172 (by decide) hM) (vp_len (n := 172) (ms_l 69 14 172 (by decide) hM) (h0 c1007)) dX12_readAct_59 ?_
      generalize eS1008 : (sI S 69 (v2 + v3).toNatClampNeg (-1000000 : Int32)) = S1008
      have hM : MS S1008 := MS.of (by rw [← eS1008]; exact shp_sI _ _ _ _) hM
      refine aw_iinc (v := (v3 + (1 : Int32))) hC 3 [(3, .int _), (0, .ref 64), (1, .int _), (2, .int _)] dX12_readAct_60 rfl rfl (by decide) rfl ?_
      refine aw_goto hC 45 dX12_readAct_63 (by decide) ?_
      refine aw_sub [1, 2, 3, 0] rfl ?_
      have hTn := (h1 c1007 S1008 eS1008)
      have hMn : MS S1008 := hM
      have E : L_X12_readAct_45 (n + 1) S v1 v2 v3 = _ := (if_neg c1007).trans ((bd_eq eS1008).trans (rfl))
      rw [E] at hk
      exact ih _ _ _ _ hMn hTn hk
noncomputable def f_X12_readAct (S : HSt) (_o : Nat)  : HSt := bd ((f_X12_kindOfWord S 64)) fun x1 => if x1 = (-1000000 : Int32) then (bd (f_X12_bad S 64 (1 : Int32)) fun r22 => r22) else (bd (f_X12_begins S 64 (5 : Int32) (20 : Int32) (72 : Int32) (5 : Int32)) fun r3 => bd (r3.1) fun x4 => if (gI r3.2 64 16) ≤ 0 then (bd ((sI r3.2 69 x4.toNatClampNeg x1)) fun S6 => bd (L_X12_readAct_45 1000 S6 x1 x4 (1 : Int32)) fun r7 => bd ((if r7.1 = (2 : Int32) then (bd (f_X12_number r7.2.2.2 64 (r7.2.1 + (1 : Int32)) (1 : Int32) (40 : Int32)) fun r9 => bd (f_X12_number r9 64 (r7.2.1 + (2 : Int32)) (0 : Int32) (4 : Int32)) fun r10 => bd (f_X12_number r10 64 (r7.2.1 + (3 : Int32)) (0 : Int32) (9 : Int32)) fun r11 => bd (f_X12_number r11 64 (r7.2.1 + (4 : Int32)) (0 : Int32) (15 : Int32)) fun r12 => r12) else (if r7.1 = (3 : Int32) then (bd (f_X12_number r7.2.2.2 64 (r7.2.1 + (1 : Int32)) (1 : Int32) (40 : Int32)) fun r16 => bd (f_X12_number r16 64 (r7.2.1 + (2 : Int32)) (0 : Int32) (4 : Int32)) fun r17 => bd (f_X12_number r17 64 (r7.2.1 + (3 : Int32)) (0 : Int32) (9 : Int32)) fun r18 => bd (f_X12_number r18 64 (r7.2.1 + (4 : Int32)) (0 : Int32) (15 : Int32)) fun r19 => r19) else (if r7.1 = (6 : Int32) then r7.2.2.2 else (bd (f_X12_number r7.2.2.2 64 (r7.2.1 + (1 : Int32)) (0 : Int32) ((gI r7.2.2.2 69 (2 : Int32).toNatClampNeg) - (1 : Int32))) fun r15 => r15))))) fun S20 => bd (f_X12_ends S20 64 (5 : Int32)) fun r21 => r21) else (r3.2))
def p_X12_readAct (S : HSt) (_o : Nat)  : Prop := (p_X12_kindOfWord S 64) ∧ (∀ x1 : Int32, (f_X12_kindOfWord S 64) = x1 → (¬ x1 = (-1000000 : Int32)) → p_X12_begins S 64 (5 : Int32) (20 : Int32) (72 : Int32) (5 : Int32)) ∧ (∀ x1 : Int32, (f_X12_kindOfWord S 64) = x1 → (¬ x1 = (-1000000 : Int32)) → ∀ r3, f_X12_begins S 64 (5 : Int32) (20 : Int32) (72 : Int32) (5 : Int32) = r3 → ∀ x4 : Int32, r3.1 = x4 → ((gI r3.2 64 16) ≤ 0) → vp_in x4 172) ∧ (∀ x1 : Int32, (f_X12_kindOfWord S 64) = x1 → (¬ x1 = (-1000000 : Int32)) → ∀ r3, f_X12_begins S 64 (5 : Int32) (20 : Int32) (72 : Int32) (5 : Int32) = r3 → ∀ x4 : Int32, r3.1 = x4 → ((gI r3.2 64 16) ≤ 0) → ∀ S6 : HSt, (sI r3.2 69 x4.toNatClampNeg x1) = S6 → T_X12_readAct_45 1000 S6 x1 x4 (1 : Int32)) ∧ (∀ x1 : Int32, (f_X12_kindOfWord S 64) = x1 → (¬ x1 = (-1000000 : Int32)) → ∀ r3, f_X12_begins S 64 (5 : Int32) (20 : Int32) (72 : Int32) (5 : Int32) = r3 → ∀ x4 : Int32, r3.1 = x4 → ((gI r3.2 64 16) ≤ 0) → ∀ S6 : HSt, (sI r3.2 69 x4.toNatClampNeg x1) = S6 → ∀ r7, L_X12_readAct_45 1000 S6 x1 x4 (1 : Int32) = r7 → (r7.1 = (2 : Int32)) → p_X12_number r7.2.2.2 64 (r7.2.1 + (1 : Int32)) (1 : Int32) (40 : Int32)) ∧ (∀ x1 : Int32, (f_X12_kindOfWord S 64) = x1 → (¬ x1 = (-1000000 : Int32)) → ∀ r3, f_X12_begins S 64 (5 : Int32) (20 : Int32) (72 : Int32) (5 : Int32) = r3 → ∀ x4 : Int32, r3.1 = x4 → ((gI r3.2 64 16) ≤ 0) → ∀ S6 : HSt, (sI r3.2 69 x4.toNatClampNeg x1) = S6 → ∀ r7, L_X12_readAct_45 1000 S6 x1 x4 (1 : Int32) = r7 → (r7.1 = (2 : Int32)) → ∀ r9, f_X12_number r7.2.2.2 64 (r7.2.1 + (1 : Int32)) (1 : Int32) (40 : Int32) = r9 → p_X12_number r9 64 (r7.2.1 + (2 : Int32)) (0 : Int32) (4 : Int32)) ∧ (∀ x1 : Int32, (f_X12_kindOfWord S 64) = x1 → (¬ x1 = (-1000000 : Int32)) → ∀ r3, f_X12_begins S 64 (5 : Int32) (20 : Int32) (72 : Int32) (5 : Int32) = r3 → ∀ x4 : Int32, r3.1 = x4 → ((gI r3.2 64 16) ≤ 0) → ∀ S6 : HSt, (sI r3.2 69 x4.toNatClampNeg x1) = S6 → ∀ r7, L_X12_readAct_45 1000 S6 x1 x4 (1 : Int32) = r7 → (r7.1 = (2 : Int32)) → ∀ r9, f_X12_number r7.2.2.2 64 (r7.2.1 + (1 : Int32)) (1 : Int32) (40 : Int32) = r9 → ∀ r10, f_X12_number r9 64 (r7.2.1 + (2 : Int32)) (0 : Int32) (4 : Int32) = r10 → p_X12_number r10 64 (r7.2.1 + (3 : Int32)) (0 : Int32) (9 : Int32)) ∧ (∀ x1 : Int32, (f_X12_kindOfWord S 64) = x1 → (¬ x1 = (-1000000 : Int32)) → ∀ r3, f_X12_begins S 64 (5 : Int32) (20 : Int32) (72 : Int32) (5 : Int32) = r3 → ∀ x4 : Int32, r3.1 = x4 → ((gI r3.2 64 16) ≤ 0) → ∀ S6 : HSt, (sI r3.2 69 x4.toNatClampNeg x1) = S6 → ∀ r7, L_X12_readAct_45 1000 S6 x1 x4 (1 : Int32) = r7 → (r7.1 = (2 : Int32)) → ∀ r9, f_X12_number r7.2.2.2 64 (r7.2.1 + (1 : Int32)) (1 : Int32) (40 : Int32) = r9 → ∀ r10, f_X12_number r9 64 (r7.2.1 + (2 : Int32)) (0 : Int32) (4 : Int32) = r10 → ∀ r11, f_X12_number r10 64 (r7.2.1 + (3 : Int32)) (0 : Int32) (9 : Int32) = r11 → p_X12_number r11 64 (r7.2.1 + (4 : Int32)) (0 : Int32) (15 : Int32)) ∧ (∀ x1 : Int32, (f_X12_kindOfWord S 64) = x1 → (¬ x1 = (-1000000 : Int32)) → ∀ r3, f_X12_begins S 64 (5 : Int32) (20 : Int32) (72 : Int32) (5 : Int32) = r3 → ∀ x4 : Int32, r3.1 = x4 → ((gI r3.2 64 16) ≤ 0) → ∀ S6 : HSt, (sI r3.2 69 x4.toNatClampNeg x1) = S6 → ∀ r7, L_X12_readAct_45 1000 S6 x1 x4 (1 : Int32) = r7 → (¬ r7.1 = (2 : Int32)) → (¬ r7.1 = (3 : Int32)) → (¬ r7.1 = (6 : Int32)) → p_X12_number r7.2.2.2 64 (r7.2.1 + (1 : Int32)) (0 : Int32) ((gI r7.2.2.2 69 (2 : Int32).toNatClampNeg) - (1 : Int32))) ∧ (∀ x1 : Int32, (f_X12_kindOfWord S 64) = x1 → (¬ x1 = (-1000000 : Int32)) → ∀ r3, f_X12_begins S 64 (5 : Int32) (20 : Int32) (72 : Int32) (5 : Int32) = r3 → ∀ x4 : Int32, r3.1 = x4 → ((gI r3.2 64 16) ≤ 0) → ∀ S6 : HSt, (sI r3.2 69 x4.toNatClampNeg x1) = S6 → ∀ r7, L_X12_readAct_45 1000 S6 x1 x4 (1 : Int32) = r7 → (¬ r7.1 = (2 : Int32)) → (r7.1 = (3 : Int32)) → p_X12_number r7.2.2.2 64 (r7.2.1 + (1 : Int32)) (1 : Int32) (40 : Int32)) ∧ (∀ x1 : Int32, (f_X12_kindOfWord S 64) = x1 → (¬ x1 = (-1000000 : Int32)) → ∀ r3, f_X12_begins S 64 (5 : Int32) (20 : Int32) (72 : Int32) (5 : Int32) = r3 → ∀ x4 : Int32, r3.1 = x4 → ((gI r3.2 64 16) ≤ 0) → ∀ S6 : HSt, (sI r3.2 69 x4.toNatClampNeg x1) = S6 → ∀ r7, L_X12_readAct_45 1000 S6 x1 x4 (1 : Int32) = r7 → (¬ r7.1 = (2 : Int32)) → (r7.1 = (3 : Int32)) → ∀ r16, f_X12_number r7.2.2.2 64 (r7.2.1 + (1 : Int32)) (1 : Int32) (40 : Int32) = r16 → p_X12_number r16 64 (r7.2.1 + (2 : Int32)) (0 : Int32) (4 : Int32)) ∧ (∀ x1 : Int32, (f_X12_kindOfWord S 64) = x1 → (¬ x1 = (-1000000 : Int32)) → ∀ r3, f_X12_begins S 64 (5 : Int32) (20 : Int32) (72 : Int32) (5 : Int32) = r3 → ∀ x4 : Int32, r3.1 = x4 → ((gI r3.2 64 16) ≤ 0) → ∀ S6 : HSt, (sI r3.2 69 x4.toNatClampNeg x1) = S6 → ∀ r7, L_X12_readAct_45 1000 S6 x1 x4 (1 : Int32) = r7 → (¬ r7.1 = (2 : Int32)) → (r7.1 = (3 : Int32)) → ∀ r16, f_X12_number r7.2.2.2 64 (r7.2.1 + (1 : Int32)) (1 : Int32) (40 : Int32) = r16 → ∀ r17, f_X12_number r16 64 (r7.2.1 + (2 : Int32)) (0 : Int32) (4 : Int32) = r17 → p_X12_number r17 64 (r7.2.1 + (3 : Int32)) (0 : Int32) (9 : Int32)) ∧ (∀ x1 : Int32, (f_X12_kindOfWord S 64) = x1 → (¬ x1 = (-1000000 : Int32)) → ∀ r3, f_X12_begins S 64 (5 : Int32) (20 : Int32) (72 : Int32) (5 : Int32) = r3 → ∀ x4 : Int32, r3.1 = x4 → ((gI r3.2 64 16) ≤ 0) → ∀ S6 : HSt, (sI r3.2 69 x4.toNatClampNeg x1) = S6 → ∀ r7, L_X12_readAct_45 1000 S6 x1 x4 (1 : Int32) = r7 → (¬ r7.1 = (2 : Int32)) → (r7.1 = (3 : Int32)) → ∀ r16, f_X12_number r7.2.2.2 64 (r7.2.1 + (1 : Int32)) (1 : Int32) (40 : Int32) = r16 → ∀ r17, f_X12_number r16 64 (r7.2.1 + (2 : Int32)) (0 : Int32) (4 : Int32) = r17 → ∀ r18, f_X12_number r17 64 (r7.2.1 + (3 : Int32)) (0 : Int32) (9 : Int32) = r18 → p_X12_number r18 64 (r7.2.1 + (4 : Int32)) (0 : Int32) (15 : Int32)) ∧ (∀ x1 : Int32, (f_X12_kindOfWord S 64) = x1 → (¬ x1 = (-1000000 : Int32)) → ∀ r3, f_X12_begins S 64 (5 : Int32) (20 : Int32) (72 : Int32) (5 : Int32) = r3 → ∀ x4 : Int32, r3.1 = x4 → ((gI r3.2 64 16) ≤ 0) → ∀ S6 : HSt, (sI r3.2 69 x4.toNatClampNeg x1) = S6 → ∀ r7, L_X12_readAct_45 1000 S6 x1 x4 (1 : Int32) = r7 → ∀ S20 : HSt, (if r7.1 = (2 : Int32) then (bd (f_X12_number r7.2.2.2 64 (r7.2.1 + (1 : Int32)) (1 : Int32) (40 : Int32)) fun r9 => bd (f_X12_number r9 64 (r7.2.1 + (2 : Int32)) (0 : Int32) (4 : Int32)) fun r10 => bd (f_X12_number r10 64 (r7.2.1 + (3 : Int32)) (0 : Int32) (9 : Int32)) fun r11 => bd (f_X12_number r11 64 (r7.2.1 + (4 : Int32)) (0 : Int32) (15 : Int32)) fun r12 => r12) else (if r7.1 = (3 : Int32) then (bd (f_X12_number r7.2.2.2 64 (r7.2.1 + (1 : Int32)) (1 : Int32) (40 : Int32)) fun r16 => bd (f_X12_number r16 64 (r7.2.1 + (2 : Int32)) (0 : Int32) (4 : Int32)) fun r17 => bd (f_X12_number r17 64 (r7.2.1 + (3 : Int32)) (0 : Int32) (9 : Int32)) fun r18 => bd (f_X12_number r18 64 (r7.2.1 + (4 : Int32)) (0 : Int32) (15 : Int32)) fun r19 => r19) else (if r7.1 = (6 : Int32) then r7.2.2.2 else (bd (f_X12_number r7.2.2.2 64 (r7.2.1 + (1 : Int32)) (0 : Int32) ((gI r7.2.2.2 69 (2 : Int32).toNatClampNeg) - (1 : Int32))) fun r15 => r15)))) = S20 → p_X12_ends S20 64 (5 : Int32))
set_option maxRecDepth 100000 in
theorem t_X12_readAct (G : GG) (l : Launch) {S : HSt} (hM : MS S)  (hp : p_X12_readAct S 64) : AM G l yX12_readAct cX12_readAct 4 none (rmD 4 0 0) 0 0 [.ref 64] S (FP none (f_X12_readAct S 64)) := by
  obtain ⟨h0, h1, h2, h3, h4, h5, h6, h7, h8, h9, h10, h11, h12, h13⟩ := hp
  refine AM.mk (by decide) (Nat.le_of_ble_eq_true rfl) ?_
  intro p e s m below meth c hC hSt _
  refine aw_aload_n hC 0 dX12_readAct_0 rfl rfl ?_
  refine aw_cV0r hC hSt (t_X12_kindOfWord G l hM  (h0)) w_1018 w_1027 w_1028 w_1029 w_953 rfl rfl (by decide +kernel) ⟨Nat.le_of_ble_eq_true rfl, Nat.le_of_ble_eq_true rfl⟩ (ms_lt 64 (by decide) hM) (ms_k 64 12 0 (by decide) hM) rfl (Nat.le_of_ble_eq_true rfl) dX12_readAct_1 ⟨Nat.zero_le _, Nat.zero_le _⟩ ?_
  refine aw_istore_n hC [(1, .int _), (0, .ref 64)] dX12_readAct_4 rfl (by decide) rfl ?_
  generalize ex1 : (f_X12_kindOfWord S 64) = x1
  refine aw_iload_n hC 0 dX12_readAct_5 rfl rfl ?_
  refine aw_ldc (v := -1000000) hC w_923 dX12_readAct_6 ?_
  refine aw_icmp_ne hC 17 dX12_readAct_8 (by decide) (fun c2 => ?_) (fun c2 => ?_)
  · refine aw_aload_n hC 1 dX12_readAct_17 rfl rfl ?_
    refine aw_iconst (v := 5) hC dX12_readAct_18 (by decide) ?_
    refine aw_bipush (v := 20) hC dX12_readAct_19 (by decide) ?_
    refine aw_bipush (v := 72) hC dX12_readAct_21 (by decide) ?_
    refine aw_iconst (v := 5) hC dX12_readAct_23 (by decide) ?_
    refine aw_cV4r hC hSt (t_X12_begins G l hM _ _ _ _ (h1 x1 ex1 c2)) w_1002 w_1004 w_1005 w_1006 w_953 rfl rfl (by decide +kernel) ⟨Nat.le_of_ble_eq_true rfl, Nat.le_of_ble_eq_true rfl⟩ (ms_lt 64 (by decide) hM) (ms_k 64 12 0 (by decide) hM) rfl (Nat.le_of_ble_eq_true rfl) dX12_readAct_24 ⟨Nat.zero_le _, Nat.zero_le _⟩ ?_
    generalize er3 : f_X12_begins S 64 (5 : Int32) (20 : Int32) (72 : Int32) (5 : Int32) = r3
    have hM : MS r3.2 := MS.of (by rw [← er3]; exact q_X12_begins _ _ _ _ _ _) hM
    refine aw_istore_n hC [(2, .int _), (1, .int _), (0, .ref 64)] dX12_readAct_27 rfl (by decide) rfl ?_
    generalize ex4 : r3.1 = x4
    refine aw_aload_n hC 2 dX12_readAct_28 rfl rfl ?_
    refine aw_getI hC hSt 16 (ms_lt 64 (by decide) hM) (ms_k 64 12 0 (by decide) hM) rfl (by decide) w_988 rfl dX12_readAct_29 ?_
    refine aw_if_le hC 36 dX12_readAct_32 (by decide) (fun c5 => ?_) (fun c5 => ?_)
    · refine aw_aload_n hC 2 dX12_readAct_36 rfl rfl ?_
      refine aw_getP (b := 69) hC hSt 6 (ms_lt 64 (by decide) hM) (ms_k 64 12 0 (by decide) hM) rfl (by decide) w_921 rfl (ms_p 6 69 (by decide) hM) dX12_readAct_37 ?_
      refine aw_iload_n hC 0 dX12_readAct_40 rfl rfl ?_
      refine aw_iload_n hC 1 dX12_readAct_41 rfl rfl ?_
      refine aw_iast hC hSt (ms_lt 69 (by decide) hM) (ms_k 69 14 172 (by decide) hM) (vp_len (n := 172) (ms_l 69 14 172 (by decide) hM) (h2 x1 ex1 c2 r3 er3 x4 ex4 c5)) dX12_readAct_42 ?_
      generalize eS6 : (sI r3.2 69 x4.toNatClampNeg x1) = S6
      have hM : MS S6 := MS.of (by rw [← eS6]; exact shp_sI _ _ _ _) hM
      refine aw_iconst (v := 1) hC dX12_readAct_43 (by decide) ?_
      refine aw_istore_n hC [(3, .int _), (2, .int _), (1, .int _), (0, .ref 64)] dX12_readAct_44 rfl (by decide) rfl ?_
      refine aw_sub [3, 2, 1, 0] rfl ?_
      refine l_X12_readAct_45 hC hSt 1000 _ _ _ _ hM (h3 x1 ex1 c2 r3 er3 x4 ex4 c5 S6 eS6) ?_
      generalize er7 : L_X12_readAct_45 1000 S6 x1 x4 (1 : Int32) = r7
      have hM : MS r7.2.2.2 := MS.of (by rw [← er7]; exact qL_X12_readAct_45 _ _ _ _ _) hM
      refine aw_iload_n hC 1 dX12_readAct_66 rfl rfl ?_
      refine aw_iconst (v := 2) hC dX12_readAct_67 (by decide) ?_
      refine aw_cut (S' := (if r7.1 = (2 : Int32) then (bd (f_X12_number r7.2.2.2 64 (r7.2.1 + (1 : Int32)) (1 : Int32) (40 : Int32)) fun r9 => bd (f_X12_number r9 64 (r7.2.1 + (2 : Int32)) (0 : Int32) (4 : Int32)) fun r10 => bd (f_X12_number r10 64 (r7.2.1 + (3 : Int32)) (0 : Int32) (9 : Int32)) fun r11 => bd (f_X12_number r11 64 (r7.2.1 + (4 : Int32)) (0 : Int32) (15 : Int32)) fun r12 => r12) else (if r7.1 = (3 : Int32) then (bd (f_X12_number r7.2.2.2 64 (r7.2.1 + (1 : Int32)) (1 : Int32) (40 : Int32)) fun r16 => bd (f_X12_number r16 64 (r7.2.1 + (2 : Int32)) (0 : Int32) (4 : Int32)) fun r17 => bd (f_X12_number r17 64 (r7.2.1 + (3 : Int32)) (0 : Int32) (9 : Int32)) fun r18 => bd (f_X12_number r18 64 (r7.2.1 + (4 : Int32)) (0 : Int32) (15 : Int32)) fun r19 => r19) else (if r7.1 = (6 : Int32) then r7.2.2.2 else (bd (f_X12_number r7.2.2.2 64 (r7.2.1 + (1 : Int32)) (0 : Int32) ((gI r7.2.2.2 69 (2 : Int32).toNatClampNeg) - (1 : Int32))) fun r15 => r15))))) (pc' := 140) (lv' := [(0, .ref 64), (1, .int r7.1), (2, .int r7.2.1), (3, .int r7.2.2.1)]) (st' := []) ?_ (fun Jc8 => ?_)
      · generalize eS20 : (if r7.1 = (2 : Int32) then (bd (f_X12_number r7.2.2.2 64 (r7.2.1 + (1 : Int32)) (1 : Int32) (40 : Int32)) fun r9 => bd (f_X12_number r9 64 (r7.2.1 + (2 : Int32)) (0 : Int32) (4 : Int32)) fun r10 => bd (f_X12_number r10 64 (r7.2.1 + (3 : Int32)) (0 : Int32) (9 : Int32)) fun r11 => bd (f_X12_number r11 64 (r7.2.1 + (4 : Int32)) (0 : Int32) (15 : Int32)) fun r12 => r12) else (if r7.1 = (3 : Int32) then (bd (f_X12_number r7.2.2.2 64 (r7.2.1 + (1 : Int32)) (1 : Int32) (40 : Int32)) fun r16 => bd (f_X12_number r16 64 (r7.2.1 + (2 : Int32)) (0 : Int32) (4 : Int32)) fun r17 => bd (f_X12_number r17 64 (r7.2.1 + (3 : Int32)) (0 : Int32) (9 : Int32)) fun r18 => bd (f_X12_number r18 64 (r7.2.1 + (4 : Int32)) (0 : Int32) (15 : Int32)) fun r19 => r19) else (if r7.1 = (6 : Int32) then r7.2.2.2 else (bd (f_X12_number r7.2.2.2 64 (r7.2.1 + (1 : Int32)) (0 : Int32) ((gI r7.2.2.2 69 (2 : Int32).toNatClampNeg) - (1 : Int32))) fun r15 => r15)))) = S20
        have hM : MS S20 := MS.of (by rw [← eS20]; repeat' (first | with_reducible rfl | with_reducible refine (qL_X12_readAct_45 _ _ _ _ _).trans ?_ | with_reducible refine (q_X12_bad _ _ _).trans ?_ | with_reducible refine (q_X12_begins _ _ _ _ _ _).trans ?_ | with_reducible refine (q_X12_ends _ _ _).trans ?_ | with_reducible refine (q_X12_number _ _ _ _ _).trans ?_ | with_reducible refine (shp_sI _ _ _ _).trans ?_ | with_reducible refine (shp_sJ _ _ _ _).trans ?_ | with_reducible refine shi ?_ ?_ | with_reducible refine shb (fun _ _ => ?_) | (subst_vars; with_reducible rfl) | (subst_vars; with_reducible refine (qL_X12_readAct_45 _ _ _ _ _).trans ?_) | (subst_vars; with_reducible refine (q_X12_bad _ _ _).trans ?_) | (subst_vars; with_reducible refine (q_X12_begins _ _ _ _ _ _).trans ?_) | (subst_vars; with_reducible refine (q_X12_ends _ _ _).trans ?_) | (subst_vars; with_reducible refine (q_X12_number _ _ _ _ _).trans ?_) | (subst_vars; with_reducible refine (shp_sI _ _ _ _).trans ?_) | (subst_vars; with_reducible refine (shp_sJ _ _ _ _).trans ?_) | (subst_vars; with_reducible refine shi ?_ ?_) | (subst_vars; with_reducible refine shb (fun _ _ => ?_)))) hM
        refine aw_aload_n hC 0 dX12_readAct_140 rfl rfl ?_
        refine aw_iconst (v := 5) hC dX12_readAct_141 (by decide) ?_
        refine aw_cV1v hC hSt (t_X12_ends G l hM _ (h13 x1 ex1 c2 r3 er3 x4 ex4 c5 S6 eS6 r7 er7 S20 eS20)) w_1003 w_1010 w_1011 w_1012 w_953 rfl rfl (by decide +kernel) ⟨Nat.le_of_ble_eq_true rfl, Nat.le_of_ble_eq_true rfl⟩ (ms_lt 64 (by decide) hM) (ms_k 64 12 0 (by decide) hM) rfl (Nat.le_of_ble_eq_true rfl) dX12_readAct_142 ⟨Nat.zero_le _, Nat.zero_le _⟩ ?_
        generalize er21 : f_X12_ends S20 64 (5 : Int32) = r21
        have hM : MS r21 := MS.of (by rw [← er21]; exact q_X12_ends _ _ _) hM
        refine aw_vret hC dX12_readAct_145 (Nat.le_refl _) (Nat.le_refl _) ?_
        exact FP.qV ((bd_eq ex1).trans ((if_neg c2).trans ((bd_eq er3).trans ((bd_eq ex4).trans ((if_pos c5).trans ((bd_eq eS6).trans ((bd_eq er7).trans ((bd_eq eS20).trans ((bd_eq er21).trans (rfl))))))))))
      · refine aw_icmp_eq hC 76 dX12_readAct_68 (by decide) (fun c8 => ?_) (fun c8 => ?_)
        · refine aw_aload_n hC 0 dX12_readAct_76 rfl rfl ?_
          refine aw_iload_n hC 2 dX12_readAct_77 rfl rfl ?_
          refine aw_iconst (v := 1) hC dX12_readAct_78 (by decide) ?_
          refine aw_iadd hC dX12_readAct_79 ?_
          refine aw_iconst (v := 1) hC dX12_readAct_80 (by decide) ?_
          refine aw_bipush (v := 40) hC dX12_readAct_81 (by decide) ?_
          refine aw_cV3v hC hSt (t_X12_number G l hM _ _ _ (h4 x1 ex1 c2 r3 er3 x4 ex4 c5 S6 eS6 r7 er7 c8)) w_1001 w_1007 w_1008 w_1009 w_953 rfl rfl (by decide +kernel) ⟨Nat.le_of_ble_eq_true rfl, Nat.le_of_ble_eq_true rfl⟩ (ms_lt 64 (by decide) hM) (ms_k 64 12 0 (by decide) hM) rfl (Nat.le_of_ble_eq_true rfl) dX12_readAct_83 ⟨Nat.zero_le _, Nat.zero_le _⟩ ?_
          generalize er9 : f_X12_number r7.2.2.2 64 (r7.2.1 + (1 : Int32)) (1 : Int32) (40 : Int32) = r9
          have hM : MS r9 := MS.of (by rw [← er9]; exact q_X12_number _ _ _ _ _) hM
          refine aw_aload_n hC 0 dX12_readAct_86 rfl rfl ?_
          refine aw_iload_n hC 2 dX12_readAct_87 rfl rfl ?_
          refine aw_iconst (v := 2) hC dX12_readAct_88 (by decide) ?_
          refine aw_iadd hC dX12_readAct_89 ?_
          refine aw_iconst (v := 0) hC dX12_readAct_90 (by decide) ?_
          refine aw_iconst (v := 4) hC dX12_readAct_91 (by decide) ?_
          refine aw_cV3v hC hSt (t_X12_number G l hM _ _ _ (h5 x1 ex1 c2 r3 er3 x4 ex4 c5 S6 eS6 r7 er7 c8 r9 er9)) w_1001 w_1007 w_1008 w_1009 w_953 rfl rfl (by decide +kernel) ⟨Nat.le_of_ble_eq_true rfl, Nat.le_of_ble_eq_true rfl⟩ (ms_lt 64 (by decide) hM) (ms_k 64 12 0 (by decide) hM) rfl (Nat.le_of_ble_eq_true rfl) dX12_readAct_92 ⟨Nat.zero_le _, Nat.zero_le _⟩ ?_
          generalize er10 : f_X12_number r9 64 (r7.2.1 + (2 : Int32)) (0 : Int32) (4 : Int32) = r10
          have hM : MS r10 := MS.of (by rw [← er10]; exact q_X12_number _ _ _ _ _) hM
          refine aw_aload_n hC 0 dX12_readAct_95 rfl rfl ?_
          refine aw_iload_n hC 2 dX12_readAct_96 rfl rfl ?_
          refine aw_iconst (v := 3) hC dX12_readAct_97 (by decide) ?_
          refine aw_iadd hC dX12_readAct_98 ?_
          refine aw_iconst (v := 0) hC dX12_readAct_99 (by decide) ?_
          refine aw_bipush (v := 9) hC dX12_readAct_100 (by decide) ?_
          refine aw_cV3v hC hSt (t_X12_number G l hM _ _ _ (h6 x1 ex1 c2 r3 er3 x4 ex4 c5 S6 eS6 r7 er7 c8 r9 er9 r10 er10)) w_1001 w_1007 w_1008 w_1009 w_953 rfl rfl (by decide +kernel) ⟨Nat.le_of_ble_eq_true rfl, Nat.le_of_ble_eq_true rfl⟩ (ms_lt 64 (by decide) hM) (ms_k 64 12 0 (by decide) hM) rfl (Nat.le_of_ble_eq_true rfl) dX12_readAct_102 ⟨Nat.zero_le _, Nat.zero_le _⟩ ?_
          generalize er11 : f_X12_number r10 64 (r7.2.1 + (3 : Int32)) (0 : Int32) (9 : Int32) = r11
          have hM : MS r11 := MS.of (by rw [← er11]; exact q_X12_number _ _ _ _ _) hM
          refine aw_aload_n hC 0 dX12_readAct_105 rfl rfl ?_
          refine aw_iload_n hC 2 dX12_readAct_106 rfl rfl ?_
          refine aw_iconst (v := 4) hC dX12_readAct_107 (by decide) ?_
          refine aw_iadd hC dX12_readAct_108 ?_
          refine aw_iconst (v := 0) hC dX12_readAct_109 (by decide) ?_
          refine aw_bipush (v := 15) hC dX12_readAct_110 (by decide) ?_
          refine aw_cV3v hC hSt (t_X12_number G l hM _ _ _ (h7 x1 ex1 c2 r3 er3 x4 ex4 c5 S6 eS6 r7 er7 c8 r9 er9 r10 er10 r11 er11)) w_1001 w_1007 w_1008 w_1009 w_953 rfl rfl (by decide +kernel) ⟨Nat.le_of_ble_eq_true rfl, Nat.le_of_ble_eq_true rfl⟩ (ms_lt 64 (by decide) hM) (ms_k 64 12 0 (by decide) hM) rfl (Nat.le_of_ble_eq_true rfl) dX12_readAct_112 ⟨Nat.zero_le _, Nat.zero_le _⟩ ?_
          generalize er12 : f_X12_number r11 64 (r7.2.1 + (4 : Int32)) (0 : Int32) (15 : Int32) = r12
          have hM : MS r12 := MS.of (by rw [← er12]; exact q_X12_number _ _ _ _ _) hM
          refine aw_goto hC 140 dX12_readAct_115 (by decide) ?_
          subst er12
          subst er11
          subst er10
          subst er9
          simp only [bd_def, if_pos c8] at Jc8 ⊢
          exact Jc8
        · refine aw_iload_n hC 1 dX12_readAct_71 rfl rfl ?_
          refine aw_iconst (v := 3) hC dX12_readAct_72 (by decide) ?_
          refine aw_icmp_ne hC 118 dX12_readAct_73 (by decide) (fun c13 => ?_) (fun c13 => ?_)
          · refine aw_iload_n hC 1 dX12_readAct_118 rfl rfl ?_
            refine aw_bipush (v := 6) hC dX12_readAct_119 (by decide) ?_
            refine aw_icmp_eq hC 140 dX12_readAct_121 (by decide) (fun c14 => ?_) (fun c14 => ?_)
            · simp only [bd_def, if_neg c8, if_neg c13, if_pos c14] at Jc8 ⊢
              exact Jc8
            · refine aw_aload_n hC 0 dX12_readAct_124 rfl rfl ?_
              refine aw_iload_n hC 2 dX12_readAct_125 rfl rfl ?_
              refine aw_iconst (v := 1) hC dX12_readAct_126 (by decide) ?_
              refine aw_iadd hC dX12_readAct_127 ?_
              refine aw_iconst (v := 0) hC dX12_readAct_128 (by decide) ?_
              refine aw_aload_n hC 0 dX12_readAct_129 rfl rfl ?_
              refine aw_getP (b := 69) hC hSt 6 (ms_lt 64 (by decide) hM) (ms_k 64 12 0 (by decide) hM) rfl (by decide) w_921 rfl (ms_p 6 69 (by decide) hM) dX12_readAct_130 ?_
              refine aw_iconst (v := 2) hC dX12_readAct_133 (by decide) ?_
              refine aw_iald hC hSt (ms_lt 69 (by decide) hM) (ms_k 69 14 172 (by decide) hM) (vp_len (n := 172) (ms_l 69 14 172 (by decide) hM) (by unfold vp_in; decide)) dX12_readAct_134 ?_
              refine aw_iconst (v := 1) hC dX12_readAct_135 (by decide) ?_
              refine aw_isub hC dX12_readAct_136 ?_
              refine aw_cV3v hC hSt (t_X12_number G l hM _ _ _ (h8 x1 ex1 c2 r3 er3 x4 ex4 c5 S6 eS6 r7 er7 c8 c13 c14)) w_1001 w_1007 w_1008 w_1009 w_953 rfl rfl (by decide +kernel) ⟨Nat.le_of_ble_eq_true rfl, Nat.le_of_ble_eq_true rfl⟩ (ms_lt 64 (by decide) hM) (ms_k 64 12 0 (by decide) hM) rfl (Nat.le_of_ble_eq_true rfl) dX12_readAct_137 ⟨Nat.zero_le _, Nat.zero_le _⟩ ?_
              generalize er15 : f_X12_number r7.2.2.2 64 (r7.2.1 + (1 : Int32)) (0 : Int32) ((gI r7.2.2.2 69 (2 : Int32).toNatClampNeg) - (1 : Int32)) = r15
              have hM : MS r15 := MS.of (by rw [← er15]; exact q_X12_number _ _ _ _ _) hM
              subst er15
              simp only [bd_def, if_neg c8, if_neg c13, if_neg c14] at Jc8 ⊢
              exact Jc8
          · refine aw_aload_n hC 0 dX12_readAct_76 rfl rfl ?_
            refine aw_iload_n hC 2 dX12_readAct_77 rfl rfl ?_
            refine aw_iconst (v := 1) hC dX12_readAct_78 (by decide) ?_
            refine aw_iadd hC dX12_readAct_79 ?_
            refine aw_iconst (v := 1) hC dX12_readAct_80 (by decide) ?_
            refine aw_bipush (v := 40) hC dX12_readAct_81 (by decide) ?_
            refine aw_cV3v hC hSt (t_X12_number G l hM _ _ _ (h9 x1 ex1 c2 r3 er3 x4 ex4 c5 S6 eS6 r7 er7 c8 c13)) w_1001 w_1007 w_1008 w_1009 w_953 rfl rfl (by decide +kernel) ⟨Nat.le_of_ble_eq_true rfl, Nat.le_of_ble_eq_true rfl⟩ (ms_lt 64 (by decide) hM) (ms_k 64 12 0 (by decide) hM) rfl (Nat.le_of_ble_eq_true rfl) dX12_readAct_83 ⟨Nat.zero_le _, Nat.zero_le _⟩ ?_
            generalize er16 : f_X12_number r7.2.2.2 64 (r7.2.1 + (1 : Int32)) (1 : Int32) (40 : Int32) = r16
            have hM : MS r16 := MS.of (by rw [← er16]; exact q_X12_number _ _ _ _ _) hM
            refine aw_aload_n hC 0 dX12_readAct_86 rfl rfl ?_
            refine aw_iload_n hC 2 dX12_readAct_87 rfl rfl ?_
            refine aw_iconst (v := 2) hC dX12_readAct_88 (by decide) ?_
            refine aw_iadd hC dX12_readAct_89 ?_
            refine aw_iconst (v := 0) hC dX12_readAct_90 (by decide) ?_
            refine aw_iconst (v := 4) hC dX12_readAct_91 (by decide) ?_
            refine aw_cV3v hC hSt (t_X12_number G l hM _ _ _ (h10 x1 ex1 c2 r3 er3 x4 ex4 c5 S6 eS6 r7 er7 c8 c13 r16 er16)) w_1001 w_1007 w_1008 w_1009 w_953 rfl rfl (by decide +kernel) ⟨Nat.le_of_ble_eq_true rfl, Nat.le_of_ble_eq_true rfl⟩ (ms_lt 64 (by decide) hM) (ms_k 64 12 0 (by decide) hM) rfl (Nat.le_of_ble_eq_true rfl) dX12_readAct_92 ⟨Nat.zero_le _, Nat.zero_le _⟩ ?_
            generalize er17 : f_X12_number r16 64 (r7.2.1 + (2 : Int32)) (0 : Int32) (4 : Int32) = r17
            have hM : MS r17 := MS.of (by rw [← er17]; exact q_X12_number _ _ _ _ _) hM
            refine aw_aload_n hC 0 dX12_readAct_95 rfl rfl ?_
            refine aw_iload_n hC 2 dX12_readAct_96 rfl rfl ?_
            refine aw_iconst (v := 3) hC dX12_readAct_97 (by decide) ?_
            refine aw_iadd hC dX12_readAct_98 ?_
            refine aw_iconst (v := 0) hC dX12_readAct_99 (by decide) ?_
            refine aw_bipush (v := 9) hC dX12_readAct_100 (by decide) ?_
            refine aw_cV3v hC hSt (t_X12_number G l hM _ _ _ (h11 x1 ex1 c2 r3 er3 x4 ex4 c5 S6 eS6 r7 er7 c8 c13 r16 er16 r17 er17)) w_1001 w_1007 w_1008 w_1009 w_953 rfl rfl (by decide +kernel) ⟨Nat.le_of_ble_eq_true rfl, Nat.le_of_ble_eq_true rfl⟩ (ms_lt 64 (by decide) hM) (ms_k 64 12 0 (by decide) hM) rfl (Nat.le_of_ble_eq_true rfl) dX12_readAct_102 ⟨Nat.zero_le _, Nat.zero_le _⟩ ?_
            generalize er18 : f_X12_number r17 64 (r7.2.1 + (3 : Int32)) (0 : Int32) (9 : Int32) = r18
            have hM : MS r18 := MS.of (by rw [← er18]; exact q_X12_number _ _ _ _ _) hM
            refine aw_aload_n hC 0 dX12_readAct_105 rfl rfl ?_
            refine aw_iload_n hC 2 dX12_readAct_106 rfl rfl ?_
            refine aw_iconst (v := 4) hC dX12_readAct_107 (by decide) ?_
            refine aw_iadd hC dX12_readAct_108 ?_
            refine aw_iconst (v := 0) hC dX12_readAct_109 (by decide) ?_
            refine aw_bipush (v := 15) hC dX12_readAct_110 (by decide) ?_
            refine aw_cV3v hC hSt (t_X12_number G l hM _ _ _ (h12 x1 ex1 c2 r3 er3 x4 ex4 c5 S6 eS6 r7 er7 c8 c13 r16 er16 r17 er17 r18 er18)) w_1001 w_1007 w_1008 w_1009 w_953 rfl rfl (by decide +kernel) ⟨Nat.le_of_ble_eq_true rfl, Nat.le_of_ble_eq_true rfl⟩ (ms_lt 64 (by decide) hM) (ms_k 64 12 0 (by decide) hM) rfl (Nat.le_of_ble_eq_true rfl) dX12_readAct_112 ⟨Nat.zero_le _, Nat.zero_le _⟩ ?_
            generalize er19 : f_X12_number r18 64 (r7.2.1 + (4 : Int32)) (0 : Int32) (15 : Int32) = r19
            have hM : MS r19 := MS.of (by rw [← er19]; exact q_X12_number _ _ _ _ _) hM
            refine aw_goto hC 140 dX12_readAct_115 (by decide) ?_
            subst er19
            subst er18
            subst er17
            subst er16
            simp only [bd_def, if_neg c8, if_pos c13] at Jc8 ⊢
            exact Jc8
    · refine aw_vret hC dX12_readAct_35 (Nat.le_refl _) (Nat.le_refl _) ?_
      exact FP.qV ((bd_eq ex1).trans ((if_neg c2).trans ((bd_eq er3).trans ((bd_eq ex4).trans ((if_neg c5).trans (rfl))))))
  · refine aw_aload_n hC 1 dX12_readAct_11 rfl rfl ?_
    refine aw_iconst (v := 1) hC dX12_readAct_12 (by decide) ?_
    refine aw_cV1v hC hSt (t_X12_bad G l hM _) w_987 w_990 w_991 w_992 w_953 rfl rfl (by decide +kernel) ⟨Nat.le_of_ble_eq_true rfl, Nat.le_of_ble_eq_true rfl⟩ (ms_lt 64 (by decide) hM) (ms_k 64 12 0 (by decide) hM) rfl (Nat.le_of_ble_eq_true rfl) dX12_readAct_13 ⟨Nat.zero_le _, Nat.zero_le _⟩ ?_
    generalize er22 : f_X12_bad S 64 (1 : Int32) = r22
    have hM : MS r22 := MS.of (by rw [← er22]; exact q_X12_bad _ _ _) hM
    refine aw_vret hC dX12_readAct_16 (Nat.le_refl _) (Nat.le_refl _) ?_
    exact FP.qV ((bd_eq ex1).trans ((if_pos c2).trans ((bd_eq er22).trans (rfl))))
theorem q_X12_readAct (S : HSt) (_o : Nat)  : shp (f_X12_readAct S _o) = shp S := by
  unfold f_X12_readAct
  repeat' (first | with_reducible rfl | with_reducible refine (q_X12_bad _ _ _).trans ?_ | with_reducible refine (q_X12_begins _ _ _ _ _ _).trans ?_ | with_reducible refine (q_X12_ends _ _ _).trans ?_ | with_reducible refine (q_X12_number _ _ _ _ _).trans ?_ | with_reducible refine (qL_X12_readAct_45 _ _ _ _ _).trans ?_ | with_reducible refine (shp_sI _ _ _ _).trans ?_ | with_reducible refine (shp_sJ _ _ _ _).trans ?_ | with_reducible refine shi ?_ ?_ | with_reducible refine shb (fun _ _ => ?_) | (subst_vars; with_reducible rfl) | (subst_vars; with_reducible refine (q_X12_bad _ _ _).trans ?_) | (subst_vars; with_reducible refine (q_X12_begins _ _ _ _ _ _).trans ?_) | (subst_vars; with_reducible refine (q_X12_ends _ _ _).trans ?_) | (subst_vars; with_reducible refine (q_X12_number _ _ _ _ _).trans ?_) | (subst_vars; with_reducible refine (qL_X12_readAct_45 _ _ _ _ _).trans ?_) | (subst_vars; with_reducible refine (shp_sI _ _ _ _).trans ?_) | (subst_vars; with_reducible refine (shp_sJ _ _ _ _).trans ?_) | (subst_vars; with_reducible refine shi ?_ ?_) | (subst_vars; with_reducible refine shb (fun _ _ => ?_)))
theorem v_X12_readAct (S : HSt) (_o : Nat)  : Fr [(64, 12), (64, 13), (64, 14), (64, 15), (64, 16), (64, 17), (69, 1000)] S (f_X12_readAct S _o) := by
  unfold f_X12_readAct
  repeat' (first | with_reducible exact Fr.refl _ _ | with_reducible refine Fr.l1 (fun _ _ => ?_) | with_reducible refine Fr.ite ?_ ?_ | with_reducible refine Fr.sE (by assumption) (by first | decide | simp only [List.mem_cons, List.not_mem_nil, or_false, true_or, or_true, eq_self_iff_true]) ?_ | with_reducible refine Fr.jE (by assumption) ?_ | with_reducible refine Fr.rE (by assumption) (by first | decide | simp only [List.mem_cons, List.not_mem_nil, or_false, true_or, or_true, eq_self_iff_true]) ?_ | with_reducible refine Fr.iE (by assumption) ?_ ?_ | with_reducible refine Fr.tr (w_X12_bad _ _ _ _ (by assumption)) (by first | decide | simp only [List.mem_cons, List.not_mem_nil, or_false, forall_eq_or_imp, forall_eq, true_or, or_true, and_self, eq_self_iff_true]) ?_ | with_reducible refine Fr.tr (w_X12_begins _ _ _ _ _ _ _ (by assumption)) (by first | decide | simp only [List.mem_cons, List.not_mem_nil, or_false, forall_eq_or_imp, forall_eq, true_or, or_true, and_self, eq_self_iff_true]) ?_ | with_reducible refine Fr.tr (w_X12_ends _ _ _ _ (by assumption)) (by first | decide | simp only [List.mem_cons, List.not_mem_nil, or_false, forall_eq_or_imp, forall_eq, true_or, or_true, and_self, eq_self_iff_true]) ?_ | with_reducible refine Fr.tr (w_X12_number _ _ _ _ _ _ (by assumption)) (by first | decide | simp only [List.mem_cons, List.not_mem_nil, or_false, forall_eq_or_imp, forall_eq, true_or, or_true, and_self, eq_self_iff_true]) ?_ | with_reducible refine Fr.tr (wL_X12_readAct_45 _ _ _ _ _ _ (by assumption)) (by first | decide | simp only [List.mem_cons, List.not_mem_nil, or_false, forall_eq_or_imp, forall_eq, true_or, or_true, and_self, eq_self_iff_true]) ?_)
theorem w_X12_readAct (S : HSt) (_o : Nat)  (r : HSt) (e : f_X12_readAct S _o = r) : Fr [(64, 12), (64, 13), (64, 14), (64, 15), (64, 16), (64, 17), (69, 1000)] S r := by
  rw [← e]
  exact v_X12_readAct S _o
noncomputable def f_X12_fault (S : HSt) (_o : Nat)  : Int32 × HSt := bd ((sI S 64 0 (0 : Int32))) fun S1 => pr ((gI S1 64 10)) (S1)
set_option maxRecDepth 100000 in
theorem t_X12_fault (G : GG) (l : Launch) {S : HSt} (hM : MS S)   : AM G l yX12_fault cX12_fault 1 (some .int) (rmD 0 0 0) 0 0 [.ref 64] S (FP (some (.int (f_X12_fault S 64).1)) ((f_X12_fault S 64).2)) := by
  refine AM.mk (by decide) (Nat.le_of_ble_eq_true rfl) ?_
  intro p e s m below meth c hC hSt _
  refine aw_aload_n hC 0 dX12_fault_0 rfl rfl ?_
  refine aw_iconst (v := 0) hC dX12_fault_1 (by decide) ?_
  refine aw_putI hC hSt 0 (ms_lt 64 (by decide) hM) (ms_k 64 12 0 (by decide) hM) rfl (by decide) w_955 rfl rfl rfl rfl dX12_fault_2 ?_
  generalize eS1 : (sI S 64 0 (0 : Int32)) = S1
  have hM : MS S1 := MS.of (by rw [← eS1]; exact shp_sI _ _ _ _) hM
  refine aw_aload_n hC 0 dX12_fault_5 rfl rfl ?_
  refine aw_getI hC hSt 10 (ms_lt 64 (by decide) hM) (ms_k 64 12 0 (by decide) hM) rfl (by decide) w_1049 rfl dX12_fault_6 ?_
  refine aw_iret hC dX12_fault_9 (Nat.le_refl _) (Nat.le_refl _) ?_
  exact FP.qI ((bd_eq eS1).trans (rfl))
theorem q_X12_fault (S : HSt) (_o : Nat)  : shp ((f_X12_fault S _o).2) = shp S := by
  unfold f_X12_fault
  repeat' (first | with_reducible refine shpr1 ?_ | with_reducible rfl | with_reducible refine (shp_sI _ _ _ _).trans ?_ | with_reducible refine (shp_sJ _ _ _ _).trans ?_ | with_reducible refine shi ?_ ?_ | with_reducible refine shb (fun _ _ => ?_) | with_reducible refine shiP (fun q : Int32 × HSt => q.2) ?_ ?_ | with_reducible refine shbP (fun q : Int32 × HSt => q.2) (fun _ _ => ?_) | (subst_vars; with_reducible rfl) | (subst_vars; with_reducible refine (shp_sI _ _ _ _).trans ?_) | (subst_vars; with_reducible refine (shp_sJ _ _ _ _).trans ?_) | (subst_vars; with_reducible refine shi ?_ ?_) | (subst_vars; with_reducible refine shb (fun _ _ => ?_)))
theorem v_X12_fault (S : HSt) (_o : Nat)  : Fr [(64, 0)] S ((f_X12_fault S _o).2) := by
  unfold f_X12_fault
  repeat' (first | with_reducible refine frpr1 ?_ | with_reducible exact Fr.refl _ _ | with_reducible refine Fr.lP (fun q : Int32 × HSt => q.2) (fun _ _ => ?_) | with_reducible refine Fr.iteP (fun q : Int32 × HSt => q.2) ?_ ?_ | with_reducible refine Fr.l1 (fun _ _ => ?_) | with_reducible refine Fr.ite ?_ ?_ | with_reducible refine Fr.sE (by assumption) (by first | decide | simp only [List.mem_cons, List.not_mem_nil, or_false, true_or, or_true, eq_self_iff_true]) ?_ | with_reducible refine Fr.jE (by assumption) ?_ | with_reducible refine Fr.rE (by assumption) (by first | decide | simp only [List.mem_cons, List.not_mem_nil, or_false, true_or, or_true, eq_self_iff_true]) ?_ | with_reducible refine Fr.iE (by assumption) ?_ ?_)
theorem w_X12_fault (S : HSt) (_o : Nat)  (r : Int32 × HSt) (e : f_X12_fault S _o = r) : Fr [(64, 0)] S r.2 := by
  rw [← e]
  exact v_X12_fault S _o
noncomputable def F_X12_isAct (S : HSt) (_o : Nat) (a1 : Int32) : Int32 × HSt := pr ((f_X12_in S a1.toInt64 (0 : Int64) ((gI S 68 (5 : Int32).toNatClampNeg) - (1 : Int32)).toInt64)) (S)
noncomputable def f_X12_isAct (S : HSt) (_o : Nat) (a1 : Int32) : Int32 := (F_X12_isAct S _o a1).1
set_option maxRecDepth 100000 in
theorem t_X12_isAct (G : GG) (l : Launch) {S : HSt} (hM : MS S) (a1 : Int32)  : AM G l yX12_isAct cX12_isAct 2 (some .boolean) (rmD 1 0 0) 0 0 [.ref 64, .int a1] S (FP (some (.int (f_X12_isAct S 64 a1))) (S)) := by
  refine AM.mk (by decide) (Nat.le_of_ble_eq_true rfl) ?_
  intro p e s m below meth c hC hSt _
  refine aw_iload_n hC 1 dX12_isAct_0 rfl rfl ?_
  refine aw_i2l hC dX12_isAct_1 ?_
  refine aw_lconst (v := 0) hC dX12_isAct_2 (by decide) ?_
  refine aw_aload_n hC 0 dX12_isAct_3 rfl rfl ?_
  refine aw_getP (b := 68) hC hSt 5 (ms_lt 64 (by decide) hM) (ms_k 64 12 0 (by decide) hM) rfl (by decide) w_920 rfl (ms_p 5 68 (by decide) hM) dX12_isAct_4 ?_
  refine aw_iconst (v := 5) hC dX12_isAct_7 (by decide) ?_
  refine aw_iald hC hSt (ms_lt 68 (by decide) hM) (ms_k 68 14 172 (by decide) hM) (vp_len (n := 172) (ms_l 68 14 172 (by decide) hM) (by unfold vp_in; decide)) dX12_isAct_8 ?_
  refine aw_iconst (v := 1) hC dX12_isAct_9 (by decide) ?_
  refine aw_isub hC dX12_isAct_10 ?_
  refine aw_i2l hC dX12_isAct_11 ?_
  refine aw_cS3r hC hSt (t_X12_in G l  _ _ _) w_945 w_951 w_952 w_953 rfl rfl (by decide +kernel) ⟨Nat.le_of_ble_eq_true rfl, Nat.le_of_ble_eq_true rfl⟩ (Nat.le_of_ble_eq_true rfl) dX12_isAct_12 ⟨Nat.zero_le _, Nat.zero_le _⟩ ?_
  refine aw_zret hC dX12_isAct_15 (Nat.le_refl _) (Nat.le_refl _) (Bz.n (b_X12_in _ _ _ _)) ?_
  exact FP.pI (rfl)
theorem b_X12_isAct (S : HSt) (_o : Nat) (a1 : Int32) : Bz (f_X12_isAct S _o a1) := by
  unfold f_X12_isAct F_X12_isAct
  (try dsimp only [bd])
  (repeat' split) <;> first | exact Or.inl rfl | exact Or.inr rfl | exact b_X12_in _ _ _ _
noncomputable def F_X12_deed (S : HSt) (_o : Nat) (a1 : Int32) (a2 : Int32) : Int32 × HSt := pr ((gI S 68 (((72 : Int32) + ((5 : Int32) * a1)) + a2).toNatClampNeg)) (S)
noncomputable def f_X12_deed (S : HSt) (_o : Nat) (a1 : Int32) (a2 : Int32) : Int32 := (F_X12_deed S _o a1 a2).1
def p_X12_deed (S : HSt) (_o : Nat) (a1 : Int32) (a2 : Int32) : Prop := (vp_in (((72 : Int32) + ((5 : Int32) * a1)) + a2) 172)
set_option maxRecDepth 100000 in
theorem t_X12_deed (G : GG) (l : Launch) {S : HSt} (hM : MS S) (a1 : Int32) (a2 : Int32) (hp : p_X12_deed S 64 a1 a2) : AM G l yX12_deed cX12_deed 3 (some .int) (rmD 0 0 0) 0 0 [.ref 64, .int a1, .int a2] S (FP (some (.int (f_X12_deed S 64 a1 a2))) (S)) := by
  have h0 := hp
  unfold p_X12_deed at h0
  refine AM.mk (by decide) (Nat.le_of_ble_eq_true rfl) ?_
  intro p e s m below meth c hC hSt _
  refine aw_aload_n hC 0 dX12_deed_0 rfl rfl ?_
  refine aw_getP (b := 68) hC hSt 5 (ms_lt 64 (by decide) hM) (ms_k 64 12 0 (by decide) hM) rfl (by decide) w_920 rfl (ms_p 5 68 (by decide) hM) dX12_deed_1 ?_
  refine aw_bipush (v := 72) hC dX12_deed_4 (by decide) ?_
  refine aw_iconst (v := 5) hC dX12_deed_6 (by decide) ?_
  refine aw_iload_n hC 1 dX12_deed_7 rfl rfl ?_
  refine aw_imul hC dX12_deed_8 ?_
  refine aw_iadd hC dX12_deed_9 ?_
  refine aw_iload_n hC 2 dX12_deed_10 rfl rfl ?_
  refine aw_iadd hC dX12_deed_11 ?_
  refine aw_iald hC hSt (ms_lt 68 (by decide) hM) (ms_k 68 14 172 (by decide) hM) (vp_len (n := 172) (ms_l 68 14 172 (by decide) hM) (h0)) dX12_deed_12 ?_
  refine aw_iret hC dX12_deed_13 (Nat.le_refl _) (Nat.le_refl _) ?_
  exact FP.pI (rfl)
noncomputable def F_X12_isBeast (S : HSt) (_o : Nat) (a1 : Int32) : Int32 × HSt := pr ((f_X12_in S a1.toInt64 (0 : Int64) ((gI S 68 (2 : Int32).toNatClampNeg) - (1 : Int32)).toInt64)) (S)
noncomputable def f_X12_isBeast (S : HSt) (_o : Nat) (a1 : Int32) : Int32 := (F_X12_isBeast S _o a1).1
set_option maxRecDepth 100000 in
theorem t_X12_isBeast (G : GG) (l : Launch) {S : HSt} (hM : MS S) (a1 : Int32)  : AM G l yX12_isBeast cX12_isBeast 2 (some .boolean) (rmD 1 0 0) 0 0 [.ref 64, .int a1] S (FP (some (.int (f_X12_isBeast S 64 a1))) (S)) := by
  refine AM.mk (by decide) (Nat.le_of_ble_eq_true rfl) ?_
  intro p e s m below meth c hC hSt _
  refine aw_iload_n hC 1 dX12_isBeast_0 rfl rfl ?_
  refine aw_i2l hC dX12_isBeast_1 ?_
  refine aw_lconst (v := 0) hC dX12_isBeast_2 (by decide) ?_
  refine aw_aload_n hC 0 dX12_isBeast_3 rfl rfl ?_
  refine aw_getP (b := 68) hC hSt 5 (ms_lt 64 (by decide) hM) (ms_k 64 12 0 (by decide) hM) rfl (by decide) w_920 rfl (ms_p 5 68 (by decide) hM) dX12_isBeast_4 ?_
  refine aw_iconst (v := 2) hC dX12_isBeast_7 (by decide) ?_
  refine aw_iald hC hSt (ms_lt 68 (by decide) hM) (ms_k 68 14 172 (by decide) hM) (vp_len (n := 172) (ms_l 68 14 172 (by decide) hM) (by unfold vp_in; decide)) dX12_isBeast_8 ?_
  refine aw_iconst (v := 1) hC dX12_isBeast_9 (by decide) ?_
  refine aw_isub hC dX12_isBeast_10 ?_
  refine aw_i2l hC dX12_isBeast_11 ?_
  refine aw_cS3r hC hSt (t_X12_in G l  _ _ _) w_945 w_951 w_952 w_953 rfl rfl (by decide +kernel) ⟨Nat.le_of_ble_eq_true rfl, Nat.le_of_ble_eq_true rfl⟩ (Nat.le_of_ble_eq_true rfl) dX12_isBeast_12 ⟨Nat.zero_le _, Nat.zero_le _⟩ ?_
  refine aw_zret hC dX12_isBeast_15 (Nat.le_refl _) (Nat.le_refl _) (Bz.n (b_X12_in _ _ _ _)) ?_
  exact FP.pI (rfl)
theorem b_X12_isBeast (S : HSt) (_o : Nat) (a1 : Int32) : Bz (f_X12_isBeast S _o a1) := by
  unfold f_X12_isBeast F_X12_isBeast
  (try dsimp only [bd])
  (repeat' split) <;> first | exact Or.inl rfl | exact Or.inr rfl | exact b_X12_in _ _ _ _
noncomputable def F_X12_beast (S : HSt) (_o : Nat) (a1 : Int32) (a2 : Int32) : Int32 × HSt := pr ((gI S 68 (((24 : Int32) + ((5 : Int32) * a1)) + a2).toNatClampNeg)) (S)
noncomputable def f_X12_beast (S : HSt) (_o : Nat) (a1 : Int32) (a2 : Int32) : Int32 := (F_X12_beast S _o a1 a2).1
def p_X12_beast (S : HSt) (_o : Nat) (a1 : Int32) (a2 : Int32) : Prop := (vp_in (((24 : Int32) + ((5 : Int32) * a1)) + a2) 172)
set_option maxRecDepth 100000 in
theorem t_X12_beast (G : GG) (l : Launch) {S : HSt} (hM : MS S) (a1 : Int32) (a2 : Int32) (hp : p_X12_beast S 64 a1 a2) : AM G l yX12_beast cX12_beast 3 (some .int) (rmD 0 0 0) 0 0 [.ref 64, .int a1, .int a2] S (FP (some (.int (f_X12_beast S 64 a1 a2))) (S)) := by
  have h0 := hp
  unfold p_X12_beast at h0
  refine AM.mk (by decide) (Nat.le_of_ble_eq_true rfl) ?_
  intro p e s m below meth c hC hSt _
  refine aw_aload_n hC 0 dX12_beast_0 rfl rfl ?_
  refine aw_getP (b := 68) hC hSt 5 (ms_lt 64 (by decide) hM) (ms_k 64 12 0 (by decide) hM) rfl (by decide) w_920 rfl (ms_p 5 68 (by decide) hM) dX12_beast_1 ?_
  refine aw_bipush (v := 24) hC dX12_beast_4 (by decide) ?_
  refine aw_iconst (v := 5) hC dX12_beast_6 (by decide) ?_
  refine aw_iload_n hC 1 dX12_beast_7 rfl rfl ?_
  refine aw_imul hC dX12_beast_8 ?_
  refine aw_iadd hC dX12_beast_9 ?_
  refine aw_iload_n hC 2 dX12_beast_10 rfl rfl ?_
  refine aw_iadd hC dX12_beast_11 ?_
  refine aw_iald hC hSt (ms_lt 68 (by decide) hM) (ms_k 68 14 172 (by decide) hM) (vp_len (n := 172) (ms_l 68 14 172 (by decide) hM) (h0)) dX12_beast_12 ?_
  refine aw_iret hC dX12_beast_13 (Nat.le_refl _) (Nat.le_refl _) ?_
  exact FP.pI (rfl)
noncomputable def f_X12_act (S : HSt) (_o : Nat) (a1 : Int32) (a2 : Int32) : Int64 × HSt := bd ((sI S 64 0 (0 : Int32))) fun S1 => bd ((if (f_X12_isAct S1 64 a1) = 0 then (-9000000000000000001 : Int64) else (if (f_X12_in S1 a2.toInt64 (0 : Int64) (3 : Int64)) = 0 then (-9000000000000000001 : Int64) else (f_X12_deed S1 64 a1 (a2 + (1 : Int32))).toInt64))) fun x4 => pr (x4) (S1)
def p_X12_act (S : HSt) (_o : Nat) (a1 : Int32) (a2 : Int32) : Prop := (∀ S1 : HSt, (sI S 64 0 (0 : Int32)) = S1 → (¬ (f_X12_isAct S1 64 a1) = 0) → (¬ (f_X12_in S1 a2.toInt64 (0 : Int64) (3 : Int64)) = 0) → p_X12_deed S1 64 a1 (a2 + (1 : Int32)))
set_option maxRecDepth 100000 in
theorem t_X12_act (G : GG) (l : Launch) {S : HSt} (hM : MS S) (a1 : Int32) (a2 : Int32) (hp : p_X12_act S 64 a1 a2) : AM G l yX12_act cX12_act 3 (some .long) (rmD 2 0 0) 0 0 [.ref 64, .int a1, .int a2] S (FP (some (.long (f_X12_act S 64 a1 a2).1)) ((f_X12_act S 64 a1 a2).2)) := by
  have h0 := hp
  unfold p_X12_act at h0
  refine AM.mk (by decide) (Nat.le_of_ble_eq_true rfl) ?_
  intro p e s m below meth c hC hSt _
  refine aw_aload_n hC 0 dX12_act_0 rfl rfl ?_
  refine aw_iconst (v := 0) hC dX12_act_1 (by decide) ?_
  refine aw_putI hC hSt 0 (ms_lt 64 (by decide) hM) (ms_k 64 12 0 (by decide) hM) rfl (by decide) w_955 rfl rfl rfl rfl dX12_act_2 ?_
  generalize eS1 : (sI S 64 0 (0 : Int32)) = S1
  have hM : MS S1 := MS.of (by rw [← eS1]; exact shp_sI _ _ _ _) hM
  refine aw_aload_n hC 0 dX12_act_5 rfl rfl ?_
  refine aw_iload_n hC 1 dX12_act_6 rfl rfl ?_
  refine aw_cV1r hC hSt (t_X12_isAct G l hM _) w_1079 w_1085 w_1086 w_1087 w_953 rfl rfl (by decide +kernel) ⟨Nat.le_of_ble_eq_true rfl, Nat.le_of_ble_eq_true rfl⟩ (ms_lt 64 (by decide) hM) (ms_k 64 12 0 (by decide) hM) rfl (Nat.le_of_ble_eq_true rfl) dX12_act_7 ⟨Nat.zero_le _, Nat.zero_le _⟩ ?_
  refine aw_cut (S' := S1) (pc' := 40) (lv' := [(0, .ref 64), (1, .int a1), (2, .int a2)]) (st' := [.long (if (f_X12_isAct S1 64 a1) = 0 then (-9000000000000000001 : Int64) else (if (f_X12_in S1 a2.toInt64 (0 : Int64) (3 : Int64)) = 0 then (-9000000000000000001 : Int64) else (f_X12_deed S1 64 a1 (a2 + (1 : Int32))).toInt64))]) ?_ (fun Jc2 => ?_)
  · generalize ex4 : (if (f_X12_isAct S1 64 a1) = 0 then (-9000000000000000001 : Int64) else (if (f_X12_in S1 a2.toInt64 (0 : Int64) (3 : Int64)) = 0 then (-9000000000000000001 : Int64) else (f_X12_deed S1 64 a1 (a2 + (1 : Int32))).toInt64)) = x4
    refine aw_lret hC dX12_act_40 (Nat.le_refl _) (Nat.le_refl _) ?_
    exact FP.qJ ((bd_eq eS1).trans ((bd_eq ex4).trans (rfl)))
  · refine aw_if_eq hC 25 dX12_act_10 (by decide) (fun c2 => ?_) (fun c2 => ?_)
    · refine aw_ldc2 (v := -9000000000000000001) hC w_957 dX12_act_25 ?_
      refine aw_goto hC 40 dX12_act_28 (by decide) ?_
      simp only [bd_def, if_pos c2] at Jc2 ⊢
      exact Jc2
    · refine aw_iload_n hC 2 dX12_act_13 rfl rfl ?_
      refine aw_i2l hC dX12_act_14 ?_
      refine aw_lconst (v := 0) hC dX12_act_15 (by decide) ?_
      refine aw_ldc2 (v := 3) hC w_1084 dX12_act_16 ?_
      refine aw_cS3r hC hSt (t_X12_in G l  _ _ _) w_945 w_951 w_952 w_953 rfl rfl (by decide +kernel) ⟨Nat.le_of_ble_eq_true rfl, Nat.le_of_ble_eq_true rfl⟩ (Nat.le_of_ble_eq_true rfl) dX12_act_19 ⟨Nat.zero_le _, Nat.zero_le _⟩ ?_
      refine aw_if_ne hC 31 dX12_act_22 (by decide) (fun c3 => ?_) (fun c3 => ?_)
      · refine aw_aload_n hC 0 dX12_act_31 rfl rfl ?_
        refine aw_iload_n hC 1 dX12_act_32 rfl rfl ?_
        refine aw_iload_n hC 2 dX12_act_33 rfl rfl ?_
        refine aw_iconst (v := 1) hC dX12_act_34 (by decide) ?_
        refine aw_iadd hC dX12_act_35 ?_
        refine aw_cV2r hC hSt (t_X12_deed G l hM _ _ (h0 S1 eS1 c2 c3)) w_1080 w_1088 w_1089 w_1090 w_953 rfl rfl (by decide +kernel) ⟨Nat.le_of_ble_eq_true rfl, Nat.le_of_ble_eq_true rfl⟩ (ms_lt 64 (by decide) hM) (ms_k 64 12 0 (by decide) hM) rfl (Nat.le_of_ble_eq_true rfl) dX12_act_36 ⟨Nat.zero_le _, Nat.zero_le _⟩ ?_
        refine aw_i2l hC dX12_act_39 ?_
        simp only [bd_def, if_neg c2, if_neg c3] at Jc2 ⊢
        exact Jc2
      · refine aw_ldc2 (v := -9000000000000000001) hC w_957 dX12_act_25 ?_
        refine aw_goto hC 40 dX12_act_28 (by decide) ?_
        simp only [bd_def, if_neg c2, if_pos c3] at Jc2 ⊢
        exact Jc2
theorem q_X12_act (S : HSt) (_o : Nat) (a1 : Int32) (a2 : Int32) : shp ((f_X12_act S _o a1 a2).2) = shp S := by
  unfold f_X12_act
  repeat' (first | with_reducible refine shpr1 ?_ | with_reducible rfl | with_reducible refine (shp_sI _ _ _ _).trans ?_ | with_reducible refine (shp_sJ _ _ _ _).trans ?_ | with_reducible refine shi ?_ ?_ | with_reducible refine shb (fun _ _ => ?_) | with_reducible refine shiP (fun q : Int64 × HSt => q.2) ?_ ?_ | with_reducible refine shbP (fun q : Int64 × HSt => q.2) (fun _ _ => ?_) | (subst_vars; with_reducible rfl) | (subst_vars; with_reducible refine (shp_sI _ _ _ _).trans ?_) | (subst_vars; with_reducible refine (shp_sJ _ _ _ _).trans ?_) | (subst_vars; with_reducible refine shi ?_ ?_) | (subst_vars; with_reducible refine shb (fun _ _ => ?_)))
theorem v_X12_act (S : HSt) (_o : Nat) (a1 : Int32) (a2 : Int32) : Fr [(64, 0)] S ((f_X12_act S _o a1 a2).2) := by
  unfold f_X12_act
  repeat' (first | with_reducible refine frpr1 ?_ | with_reducible exact Fr.refl _ _ | with_reducible refine Fr.lP (fun q : Int64 × HSt => q.2) (fun _ _ => ?_) | with_reducible refine Fr.iteP (fun q : Int64 × HSt => q.2) ?_ ?_ | with_reducible refine Fr.l1 (fun _ _ => ?_) | with_reducible refine Fr.ite ?_ ?_ | with_reducible refine Fr.sE (by assumption) (by first | decide | simp only [List.mem_cons, List.not_mem_nil, or_false, true_or, or_true, eq_self_iff_true]) ?_ | with_reducible refine Fr.jE (by assumption) ?_ | with_reducible refine Fr.rE (by assumption) (by first | decide | simp only [List.mem_cons, List.not_mem_nil, or_false, true_or, or_true, eq_self_iff_true]) ?_ | with_reducible refine Fr.iE (by assumption) ?_ ?_)
theorem w_X12_act (S : HSt) (_o : Nat) (a1 : Int32) (a2 : Int32) (r : Int64 × HSt) (e : f_X12_act S _o a1 a2 = r) : Fr [(64, 0)] S r.2 := by
  rw [← e]
  exact v_X12_act S _o a1 a2
noncomputable def f_X12_first (S : HSt) (_o : Nat)  : HSt := bd ((sI S 64 20 (20 : Int32))) fun S1 => bd ((sI S1 64 21 (0 : Int32))) fun S2 => bd ((sI S2 64 22 (0 : Int32))) fun S3 => bd ((sI S3 64 23 (0 : Int32))) fun S4 => bd ((sI S4 64 24 (0 : Int32))) fun S5 => bd ((sI S5 64 25 (0 : Int32))) fun S6 => bd ((sI S6 64 26 (-1000000 : Int32))) fun S7 => S7
set_option maxRecDepth 100000 in
theorem t_X12_first (G : GG) (l : Launch) {S : HSt} (hM : MS S)   : AM G l yX12_first cX12_first 1 none (rmD 0 0 0) 0 0 [.ref 64] S (FP none (f_X12_first S 64)) := by
  refine AM.mk (by decide) (Nat.le_of_ble_eq_true rfl) ?_
  intro p e s m below meth c hC hSt _
  refine aw_aload_n hC 0 dX12_first_0 rfl rfl ?_
  refine aw_bipush (v := 20) hC dX12_first_1 (by decide) ?_
  refine aw_putI hC hSt 20 (ms_lt 64 (by decide) hM) (ms_k 64 12 0 (by decide) hM) rfl (by decide) w_1032 rfl rfl rfl rfl dX12_first_3 ?_
  generalize eS1 : (sI S 64 20 (20 : Int32)) = S1
  have hM : MS S1 := MS.of (by rw [← eS1]; exact shp_sI _ _ _ _) hM
  refine aw_aload_n hC 0 dX12_first_6 rfl rfl ?_
  refine aw_iconst (v := 0) hC dX12_first_7 (by decide) ?_
  refine aw_putI hC hSt 21 (ms_lt 64 (by decide) hM) (ms_k 64 12 0 (by decide) hM) rfl (by decide) w_1033 rfl rfl rfl rfl dX12_first_8 ?_
  generalize eS2 : (sI S1 64 21 (0 : Int32)) = S2
  have hM : MS S2 := MS.of (by rw [← eS2]; exact shp_sI _ _ _ _) hM
  refine aw_aload_n hC 0 dX12_first_11 rfl rfl ?_
  refine aw_iconst (v := 0) hC dX12_first_12 (by decide) ?_
  refine aw_putI hC hSt 22 (ms_lt 64 (by decide) hM) (ms_k 64 12 0 (by decide) hM) rfl (by decide) w_1034 rfl rfl rfl rfl dX12_first_13 ?_
  generalize eS3 : (sI S2 64 22 (0 : Int32)) = S3
  have hM : MS S3 := MS.of (by rw [← eS3]; exact shp_sI _ _ _ _) hM
  refine aw_aload_n hC 0 dX12_first_16 rfl rfl ?_
  refine aw_iconst (v := 0) hC dX12_first_17 (by decide) ?_
  refine aw_putI hC hSt 23 (ms_lt 64 (by decide) hM) (ms_k 64 12 0 (by decide) hM) rfl (by decide) w_1035 rfl rfl rfl rfl dX12_first_18 ?_
  generalize eS4 : (sI S3 64 23 (0 : Int32)) = S4
  have hM : MS S4 := MS.of (by rw [← eS4]; exact shp_sI _ _ _ _) hM
  refine aw_aload_n hC 0 dX12_first_21 rfl rfl ?_
  refine aw_iconst (v := 0) hC dX12_first_22 (by decide) ?_
  refine aw_putI hC hSt 24 (ms_lt 64 (by decide) hM) (ms_k 64 12 0 (by decide) hM) rfl (by decide) w_1036 rfl rfl rfl rfl dX12_first_23 ?_
  generalize eS5 : (sI S4 64 24 (0 : Int32)) = S5
  have hM : MS S5 := MS.of (by rw [← eS5]; exact shp_sI _ _ _ _) hM
  refine aw_aload_n hC 0 dX12_first_26 rfl rfl ?_
  refine aw_iconst (v := 0) hC dX12_first_27 (by decide) ?_
  refine aw_putI hC hSt 25 (ms_lt 64 (by decide) hM) (ms_k 64 12 0 (by decide) hM) rfl (by decide) w_1037 rfl rfl (by decide) (by decide) dX12_first_28 ?_
  generalize eS6 : (sI S5 64 25 (0 : Int32)) = S6
  have hM : MS S6 := MS.of (by rw [← eS6]; exact shp_sI _ _ _ _) hM
  refine aw_aload_n hC 0 dX12_first_31 rfl rfl ?_
  refine aw_ldc (v := -1000000) hC w_923 dX12_first_32 ?_
  refine aw_putI hC hSt 26 (ms_lt 64 (by decide) hM) (ms_k 64 12 0 (by decide) hM) rfl (by decide) w_1038 rfl rfl rfl rfl dX12_first_34 ?_
  generalize eS7 : (sI S6 64 26 (-1000000 : Int32)) = S7
  have hM : MS S7 := MS.of (by rw [← eS7]; exact shp_sI _ _ _ _) hM
  refine aw_vret hC dX12_first_37 (Nat.le_refl _) (Nat.le_refl _) ?_
  exact FP.qV ((bd_eq eS1).trans ((bd_eq eS2).trans ((bd_eq eS3).trans ((bd_eq eS4).trans ((bd_eq eS5).trans ((bd_eq eS6).trans ((bd_eq eS7).trans (rfl))))))))
theorem q_X12_first (S : HSt) (_o : Nat)  : shp (f_X12_first S _o) = shp S := by
  unfold f_X12_first
  repeat' (first | with_reducible rfl | with_reducible refine (shp_sI _ _ _ _).trans ?_ | with_reducible refine (shp_sJ _ _ _ _).trans ?_ | with_reducible refine shi ?_ ?_ | with_reducible refine shb (fun _ _ => ?_) | (subst_vars; with_reducible rfl) | (subst_vars; with_reducible refine (shp_sI _ _ _ _).trans ?_) | (subst_vars; with_reducible refine (shp_sJ _ _ _ _).trans ?_) | (subst_vars; with_reducible refine shi ?_ ?_) | (subst_vars; with_reducible refine shb (fun _ _ => ?_)))
theorem v_X12_first (S : HSt) (_o : Nat)  : Fr [(64, 20), (64, 21), (64, 22), (64, 23), (64, 24), (64, 25), (64, 26)] S (f_X12_first S _o) := by
  unfold f_X12_first
  repeat' (first | with_reducible exact Fr.refl _ _ | with_reducible refine Fr.l1 (fun _ _ => ?_) | with_reducible refine Fr.ite ?_ ?_ | with_reducible refine Fr.sE (by assumption) (by first | decide | simp only [List.mem_cons, List.not_mem_nil, or_false, true_or, or_true, eq_self_iff_true]) ?_ | with_reducible refine Fr.jE (by assumption) ?_ | with_reducible refine Fr.rE (by assumption) (by first | decide | simp only [List.mem_cons, List.not_mem_nil, or_false, true_or, or_true, eq_self_iff_true]) ?_ | with_reducible refine Fr.iE (by assumption) ?_ ?_)
theorem w_X12_first (S : HSt) (_o : Nat)  (r : HSt) (e : f_X12_first S _o = r) : Fr [(64, 20), (64, 21), (64, 22), (64, 23), (64, 24), (64, 25), (64, 26)] S r := by
  rw [← e]
  exact v_X12_first S _o
noncomputable def f_X12_layLive (S : HSt) (_o : Nat)  : HSt := bd ((sI S 64 20 (gI S 71 (0 : Int32).toNatClampNeg))) fun S1 => bd ((sI S1 64 21 (gI S1 71 (1 : Int32).toNatClampNeg))) fun S2 => bd ((sI S2 64 22 (gI S2 71 (2 : Int32).toNatClampNeg))) fun S3 => bd ((sI S3 64 23 (gI S3 71 (3 : Int32).toNatClampNeg))) fun S4 => bd ((sI S4 64 24 (gI S4 71 (4 : Int32).toNatClampNeg))) fun S5 => bd ((if (gI S5 71 (5 : Int32).toNatClampNeg) = (1 : Int32) then (1 : Int32) else (0 : Int32))) fun x7 => bd ((sI S5 64 25 x7)) fun S8 => bd ((sI S8 64 26 (gI S8 71 (6 : Int32).toNatClampNeg))) fun S9 => S9
set_option maxRecDepth 100000 in
theorem t_X12_layLive (G : GG) (l : Launch) {S : HSt} (hM : MS S)   : AM G l yX12_layLive cX12_layLive 1 none (rmD 0 0 0) 0 0 [.ref 64] S (FP none (f_X12_layLive S 64)) := by
  refine AM.mk (by decide) (Nat.le_of_ble_eq_true rfl) ?_
  intro p e s m below meth c hC hSt _
  refine aw_aload_n hC 0 dX12_layLive_0 rfl rfl ?_
  refine aw_aload_n hC 0 dX12_layLive_1 rfl rfl ?_
  refine aw_getP (b := 71) hC hSt 27 (ms_lt 64 (by decide) hM) (ms_k 64 12 0 (by decide) hM) rfl (by decide) w_925 rfl (ms_p 27 71 (by decide) hM) dX12_layLive_2 ?_
  refine aw_iconst (v := 0) hC dX12_layLive_5 (by decide) ?_
  refine aw_iald hC hSt (ms_lt 71 (by decide) hM) (ms_k 71 14 7 (by decide) hM) (vp_len (n := 7) (ms_l 71 14 7 (by decide) hM) (by unfold vp_in; decide)) dX12_layLive_6 ?_
  refine aw_putI hC hSt 20 (ms_lt 64 (by decide) hM) (ms_k 64 12 0 (by decide) hM) rfl (by decide) w_1032 rfl rfl rfl rfl dX12_layLive_7 ?_
  generalize eS1 : (sI S 64 20 (gI S 71 (0 : Int32).toNatClampNeg)) = S1
  have hM : MS S1 := MS.of (by rw [← eS1]; exact shp_sI _ _ _ _) hM
  refine aw_aload_n hC 0 dX12_layLive_10 rfl rfl ?_
  refine aw_aload_n hC 0 dX12_layLive_11 rfl rfl ?_
  refine aw_getP (b := 71) hC hSt 27 (ms_lt 64 (by decide) hM) (ms_k 64 12 0 (by decide) hM) rfl (by decide) w_925 rfl (ms_p 27 71 (by decide) hM) dX12_layLive_12 ?_
  refine aw_iconst (v := 1) hC dX12_layLive_15 (by decide) ?_
  refine aw_iald hC hSt (ms_lt 71 (by decide) hM) (ms_k 71 14 7 (by decide) hM) (vp_len (n := 7) (ms_l 71 14 7 (by decide) hM) (by unfold vp_in; decide)) dX12_layLive_16 ?_
  refine aw_putI hC hSt 21 (ms_lt 64 (by decide) hM) (ms_k 64 12 0 (by decide) hM) rfl (by decide) w_1033 rfl rfl rfl rfl dX12_layLive_17 ?_
  generalize eS2 : (sI S1 64 21 (gI S1 71 (1 : Int32).toNatClampNeg)) = S2
  have hM : MS S2 := MS.of (by rw [← eS2]; exact shp_sI _ _ _ _) hM
  refine aw_aload_n hC 0 dX12_layLive_20 rfl rfl ?_
  refine aw_aload_n hC 0 dX12_layLive_21 rfl rfl ?_
  refine aw_getP (b := 71) hC hSt 27 (ms_lt 64 (by decide) hM) (ms_k 64 12 0 (by decide) hM) rfl (by decide) w_925 rfl (ms_p 27 71 (by decide) hM) dX12_layLive_22 ?_
  refine aw_iconst (v := 2) hC dX12_layLive_25 (by decide) ?_
  refine aw_iald hC hSt (ms_lt 71 (by decide) hM) (ms_k 71 14 7 (by decide) hM) (vp_len (n := 7) (ms_l 71 14 7 (by decide) hM) (by unfold vp_in; decide)) dX12_layLive_26 ?_
  refine aw_putI hC hSt 22 (ms_lt 64 (by decide) hM) (ms_k 64 12 0 (by decide) hM) rfl (by decide) w_1034 rfl rfl rfl rfl dX12_layLive_27 ?_
  generalize eS3 : (sI S2 64 22 (gI S2 71 (2 : Int32).toNatClampNeg)) = S3
  have hM : MS S3 := MS.of (by rw [← eS3]; exact shp_sI _ _ _ _) hM
  refine aw_aload_n hC 0 dX12_layLive_30 rfl rfl ?_
  refine aw_aload_n hC 0 dX12_layLive_31 rfl rfl ?_
  refine aw_getP (b := 71) hC hSt 27 (ms_lt 64 (by decide) hM) (ms_k 64 12 0 (by decide) hM) rfl (by decide) w_925 rfl (ms_p 27 71 (by decide) hM) dX12_layLive_32 ?_
  refine aw_iconst (v := 3) hC dX12_layLive_35 (by decide) ?_
  refine aw_iald hC hSt (ms_lt 71 (by decide) hM) (ms_k 71 14 7 (by decide) hM) (vp_len (n := 7) (ms_l 71 14 7 (by decide) hM) (by unfold vp_in; decide)) dX12_layLive_36 ?_
  refine aw_putI hC hSt 23 (ms_lt 64 (by decide) hM) (ms_k 64 12 0 (by decide) hM) rfl (by decide) w_1035 rfl rfl rfl rfl dX12_layLive_37 ?_
  generalize eS4 : (sI S3 64 23 (gI S3 71 (3 : Int32).toNatClampNeg)) = S4
  have hM : MS S4 := MS.of (by rw [← eS4]; exact shp_sI _ _ _ _) hM
  refine aw_aload_n hC 0 dX12_layLive_40 rfl rfl ?_
  refine aw_aload_n hC 0 dX12_layLive_41 rfl rfl ?_
  refine aw_getP (b := 71) hC hSt 27 (ms_lt 64 (by decide) hM) (ms_k 64 12 0 (by decide) hM) rfl (by decide) w_925 rfl (ms_p 27 71 (by decide) hM) dX12_layLive_42 ?_
  refine aw_iconst (v := 4) hC dX12_layLive_45 (by decide) ?_
  refine aw_iald hC hSt (ms_lt 71 (by decide) hM) (ms_k 71 14 7 (by decide) hM) (vp_len (n := 7) (ms_l 71 14 7 (by decide) hM) (by unfold vp_in; decide)) dX12_layLive_46 ?_
  refine aw_putI hC hSt 24 (ms_lt 64 (by decide) hM) (ms_k 64 12 0 (by decide) hM) rfl (by decide) w_1036 rfl rfl rfl rfl dX12_layLive_47 ?_
  generalize eS5 : (sI S4 64 24 (gI S4 71 (4 : Int32).toNatClampNeg)) = S5
  have hM : MS S5 := MS.of (by rw [← eS5]; exact shp_sI _ _ _ _) hM
  refine aw_aload_n hC 0 dX12_layLive_50 rfl rfl ?_
  refine aw_aload_n hC 0 dX12_layLive_51 rfl rfl ?_
  refine aw_getP (b := 71) hC hSt 27 (ms_lt 64 (by decide) hM) (ms_k 64 12 0 (by decide) hM) rfl (by decide) w_925 rfl (ms_p 27 71 (by decide) hM) dX12_layLive_52 ?_
  refine aw_iconst (v := 5) hC dX12_layLive_55 (by decide) ?_
  refine aw_iald hC hSt (ms_lt 71 (by decide) hM) (ms_k 71 14 7 (by decide) hM) (vp_len (n := 7) (ms_l 71 14 7 (by decide) hM) (by unfold vp_in; decide)) dX12_layLive_56 ?_
  refine aw_iconst (v := 1) hC dX12_layLive_57 (by decide) ?_
  refine aw_cut (S' := S5) (pc' := 66) (lv' := [(0, .ref 64)]) (st' := [.int (if (gI S5 71 (5 : Int32).toNatClampNeg) = (1 : Int32) then (1 : Int32) else (0 : Int32)), .ref 64]) ?_ (fun Jc6 => ?_)
  · generalize ex7 : (if (gI S5 71 (5 : Int32).toNatClampNeg) = (1 : Int32) then (1 : Int32) else (0 : Int32)) = x7
    refine aw_putI hC hSt 25 (ms_lt 64 (by decide) hM) (ms_k 64 12 0 (by decide) hM) rfl (by decide) w_1037 rfl rfl (Bz.n (ex7 ▸ (Bz.ite (Or.inr rfl) (Or.inl rfl)))) (Bz.f (ex7 ▸ (Bz.ite (Or.inr rfl) (Or.inl rfl)))) dX12_layLive_66 ?_
    generalize eS8 : (sI S5 64 25 x7) = S8
    have hM : MS S8 := MS.of (by rw [← eS8]; exact shp_sI _ _ _ _) hM
    refine aw_aload_n hC 0 dX12_layLive_69 rfl rfl ?_
    refine aw_aload_n hC 0 dX12_layLive_70 rfl rfl ?_
    refine aw_getP (b := 71) hC hSt 27 (ms_lt 64 (by decide) hM) (ms_k 64 12 0 (by decide) hM) rfl (by decide) w_925 rfl (ms_p 27 71 (by decide) hM) dX12_layLive_71 ?_
    refine aw_bipush (v := 6) hC dX12_layLive_74 (by decide) ?_
    refine aw_iald hC hSt (ms_lt 71 (by decide) hM) (ms_k 71 14 7 (by decide) hM) (vp_len (n := 7) (ms_l 71 14 7 (by decide) hM) (by unfold vp_in; decide)) dX12_layLive_76 ?_
    refine aw_putI hC hSt 26 (ms_lt 64 (by decide) hM) (ms_k 64 12 0 (by decide) hM) rfl (by decide) w_1038 rfl rfl rfl rfl dX12_layLive_77 ?_
    generalize eS9 : (sI S8 64 26 (gI S8 71 (6 : Int32).toNatClampNeg)) = S9
    have hM : MS S9 := MS.of (by rw [← eS9]; exact shp_sI _ _ _ _) hM
    refine aw_vret hC dX12_layLive_80 (Nat.le_refl _) (Nat.le_refl _) ?_
    exact FP.qV ((bd_eq eS1).trans ((bd_eq eS2).trans ((bd_eq eS3).trans ((bd_eq eS4).trans ((bd_eq eS5).trans ((bd_eq ex7).trans ((bd_eq eS8).trans ((bd_eq eS9).trans (rfl)))))))))
  · refine aw_icmp_ne hC 65 dX12_layLive_58 (by decide) (fun c6 => ?_) (fun c6 => ?_)
    · refine aw_iconst (v := 0) hC dX12_layLive_65 (by decide) ?_
      simp only [bd_def, if_neg c6] at Jc6 ⊢
      exact Jc6
    · refine aw_iconst (v := 1) hC dX12_layLive_61 (by decide) ?_
      refine aw_goto hC 66 dX12_layLive_62 (by decide) ?_
      simp only [bd_def, if_pos c6] at Jc6 ⊢
      exact Jc6
theorem q_X12_layLive (S : HSt) (_o : Nat)  : shp (f_X12_layLive S _o) = shp S := by
  unfold f_X12_layLive
  repeat' (first | with_reducible rfl | with_reducible refine (shp_sI _ _ _ _).trans ?_ | with_reducible refine (shp_sJ _ _ _ _).trans ?_ | with_reducible refine shi ?_ ?_ | with_reducible refine shb (fun _ _ => ?_) | (subst_vars; with_reducible rfl) | (subst_vars; with_reducible refine (shp_sI _ _ _ _).trans ?_) | (subst_vars; with_reducible refine (shp_sJ _ _ _ _).trans ?_) | (subst_vars; with_reducible refine shi ?_ ?_) | (subst_vars; with_reducible refine shb (fun _ _ => ?_)))
theorem v_X12_layLive (S : HSt) (_o : Nat)  : Fr [(64, 20), (64, 21), (64, 22), (64, 23), (64, 24), (64, 25), (64, 26)] S (f_X12_layLive S _o) := by
  unfold f_X12_layLive
  repeat' (first | with_reducible exact Fr.refl _ _ | with_reducible refine Fr.l1 (fun _ _ => ?_) | with_reducible refine Fr.ite ?_ ?_ | with_reducible refine Fr.sE (by assumption) (by first | decide | simp only [List.mem_cons, List.not_mem_nil, or_false, true_or, or_true, eq_self_iff_true]) ?_ | with_reducible refine Fr.jE (by assumption) ?_ | with_reducible refine Fr.rE (by assumption) (by first | decide | simp only [List.mem_cons, List.not_mem_nil, or_false, true_or, or_true, eq_self_iff_true]) ?_ | with_reducible refine Fr.iE (by assumption) ?_ ?_)
theorem w_X12_layLive (S : HSt) (_o : Nat)  (r : HSt) (e : f_X12_layLive S _o = r) : Fr [(64, 20), (64, 21), (64, 22), (64, 23), (64, 24), (64, 25), (64, 26)] S r := by
  rw [← e]
  exact v_X12_layLive S _o
noncomputable def F_X12_of (S : HSt) (_o : Nat) (a1 : Int32) : Int32 × HSt := if a1 = (0 : Int32) then (pr ((gI S 64 20)) (S)) else (if a1 = (1 : Int32) then (pr ((gI S 64 21)) (S)) else (if a1 = (2 : Int32) then (pr ((gI S 64 22)) (S)) else (if a1 = (3 : Int32) then (pr ((gI S 64 23)) (S)) else (if a1 = (4 : Int32) then (pr ((gI S 64 24)) (S)) else (if a1 = (5 : Int32) then (bd ((if (gI S 64 25) = 0 then (0 : Int32) else (1 : Int32))) fun x3 => pr (x3) (S)) else (pr ((gI S 64 26)) (S)))))))
noncomputable def f_X12_of (S : HSt) (_o : Nat) (a1 : Int32) : Int32 := (F_X12_of S _o a1).1
set_option maxRecDepth 100000 in
theorem t_X12_of (G : GG) (l : Launch) {S : HSt} (hM : MS S) (a1 : Int32)  : AM G l yX12_of cX12_of 2 (some .int) (rmD 0 0 0) 0 0 [.ref 64, .int a1] S (FP (some (.int (f_X12_of S 64 a1))) (S)) := by
  refine AM.mk (by decide) (Nat.le_of_ble_eq_true rfl) ?_
  intro p e s m below meth c hC hSt _
  refine aw_iload_n hC 1 dX12_of_0 rfl rfl ?_
  refine aw_switchE hC dX12_of_1 78 (by decide) [40, 45, 50, 55, 60, 65] rfl (by decide) (by decide) (fun hdc1 => ?_) (fun kc1 hkc1 hxc1 => ?_)
  · have c1_0 : ¬ a1 = (0 : Int32) := hdc1 0 (by decide)
    have c1_1 : ¬ a1 = (1 : Int32) := hdc1 1 (by decide)
    have c1_2 : ¬ a1 = (2 : Int32) := hdc1 2 (by decide)
    have c1_3 : ¬ a1 = (3 : Int32) := hdc1 3 (by decide)
    have c1_4 : ¬ a1 = (4 : Int32) := hdc1 4 (by decide)
    have c1_5 : ¬ a1 = (5 : Int32) := hdc1 5 (by decide)
    refine aw_aload_n hC 0 dX12_of_78 rfl rfl ?_
    refine aw_getI hC hSt 26 (ms_lt 64 (by decide) hM) (ms_k 64 12 0 (by decide) hM) rfl (by decide) w_1038 rfl dX12_of_79 ?_
    refine aw_iret hC dX12_of_82 (Nat.le_refl _) (Nat.le_refl _) ?_
    exact FP.pI ((if_neg c1_0).trans ((if_neg c1_1).trans ((if_neg c1_2).trans ((if_neg c1_3).trans ((if_neg c1_4).trans ((if_neg c1_5).trans (rfl)))))))
  · match kc1, hkc1, hxc1 with
    | 0, _, hxc1 =>
      have c1_0 : a1 = (0 : Int32) := hxc1
      refine aw_at (pc' := 40) rfl ?_
      refine aw_aload_n hC 0 dX12_of_40 rfl rfl ?_
      refine aw_getI hC hSt 20 (ms_lt 64 (by decide) hM) (ms_k 64 12 0 (by decide) hM) rfl (by decide) w_1032 rfl dX12_of_41 ?_
      refine aw_iret hC dX12_of_44 (Nat.le_refl _) (Nat.le_refl _) ?_
      exact FP.pI ((if_pos c1_0).trans (rfl))
    | 1, _, hxc1 =>
      have c1_1 : a1 = (1 : Int32) := hxc1
      have c1_0 : ¬ a1 = (0 : Int32) := by rw [c1_1]; decide
      refine aw_at (pc' := 45) rfl ?_
      refine aw_aload_n hC 0 dX12_of_45 rfl rfl ?_
      refine aw_getI hC hSt 21 (ms_lt 64 (by decide) hM) (ms_k 64 12 0 (by decide) hM) rfl (by decide) w_1033 rfl dX12_of_46 ?_
      refine aw_iret hC dX12_of_49 (Nat.le_refl _) (Nat.le_refl _) ?_
      exact FP.pI ((if_neg c1_0).trans ((if_pos c1_1).trans (rfl)))
    | 2, _, hxc1 =>
      have c1_2 : a1 = (2 : Int32) := hxc1
      have c1_0 : ¬ a1 = (0 : Int32) := by rw [c1_2]; decide
      have c1_1 : ¬ a1 = (1 : Int32) := by rw [c1_2]; decide
      refine aw_at (pc' := 50) rfl ?_
      refine aw_aload_n hC 0 dX12_of_50 rfl rfl ?_
      refine aw_getI hC hSt 22 (ms_lt 64 (by decide) hM) (ms_k 64 12 0 (by decide) hM) rfl (by decide) w_1034 rfl dX12_of_51 ?_
      refine aw_iret hC dX12_of_54 (Nat.le_refl _) (Nat.le_refl _) ?_
      exact FP.pI ((if_neg c1_0).trans ((if_neg c1_1).trans ((if_pos c1_2).trans (rfl))))
    | 3, _, hxc1 =>
      have c1_3 : a1 = (3 : Int32) := hxc1
      have c1_0 : ¬ a1 = (0 : Int32) := by rw [c1_3]; decide
      have c1_1 : ¬ a1 = (1 : Int32) := by rw [c1_3]; decide
      have c1_2 : ¬ a1 = (2 : Int32) := by rw [c1_3]; decide
      refine aw_at (pc' := 55) rfl ?_
      refine aw_aload_n hC 0 dX12_of_55 rfl rfl ?_
      refine aw_getI hC hSt 23 (ms_lt 64 (by decide) hM) (ms_k 64 12 0 (by decide) hM) rfl (by decide) w_1035 rfl dX12_of_56 ?_
      refine aw_iret hC dX12_of_59 (Nat.le_refl _) (Nat.le_refl _) ?_
      exact FP.pI ((if_neg c1_0).trans ((if_neg c1_1).trans ((if_neg c1_2).trans ((if_pos c1_3).trans (rfl)))))
    | 4, _, hxc1 =>
      have c1_4 : a1 = (4 : Int32) := hxc1
      have c1_0 : ¬ a1 = (0 : Int32) := by rw [c1_4]; decide
      have c1_1 : ¬ a1 = (1 : Int32) := by rw [c1_4]; decide
      have c1_2 : ¬ a1 = (2 : Int32) := by rw [c1_4]; decide
      have c1_3 : ¬ a1 = (3 : Int32) := by rw [c1_4]; decide
      refine aw_at (pc' := 60) rfl ?_
      refine aw_aload_n hC 0 dX12_of_60 rfl rfl ?_
      refine aw_getI hC hSt 24 (ms_lt 64 (by decide) hM) (ms_k 64 12 0 (by decide) hM) rfl (by decide) w_1036 rfl dX12_of_61 ?_
      refine aw_iret hC dX12_of_64 (Nat.le_refl _) (Nat.le_refl _) ?_
      exact FP.pI ((if_neg c1_0).trans ((if_neg c1_1).trans ((if_neg c1_2).trans ((if_neg c1_3).trans ((if_pos c1_4).trans (rfl))))))
    | 5, _, hxc1 =>
      have c1_5 : a1 = (5 : Int32) := hxc1
      have c1_0 : ¬ a1 = (0 : Int32) := by rw [c1_5]; decide
      have c1_1 : ¬ a1 = (1 : Int32) := by rw [c1_5]; decide
      have c1_2 : ¬ a1 = (2 : Int32) := by rw [c1_5]; decide
      have c1_3 : ¬ a1 = (3 : Int32) := by rw [c1_5]; decide
      have c1_4 : ¬ a1 = (4 : Int32) := by rw [c1_5]; decide
      refine aw_at (pc' := 65) rfl ?_
      refine aw_aload_n hC 0 dX12_of_65 rfl rfl ?_
      refine aw_getI hC hSt 25 (ms_lt 64 (by decide) hM) (ms_k 64 12 0 (by decide) hM) rfl (by decide) w_1037 rfl dX12_of_66 ?_
      refine aw_cut (S' := S) (pc' := 77) (lv' := [(0, .ref 64), (1, .int a1)]) (st' := [.int (if (gI S 64 25) = 0 then (0 : Int32) else (1 : Int32))]) ?_ (fun Jc2 => ?_)
      · generalize ex3 : (if (gI S 64 25) = 0 then (0 : Int32) else (1 : Int32)) = x3
        refine aw_iret hC dX12_of_77 (Nat.le_refl _) (Nat.le_refl _) ?_
        exact FP.pI ((if_neg c1_0).trans ((if_neg c1_1).trans ((if_neg c1_2).trans ((if_neg c1_3).trans ((if_neg c1_4).trans ((if_pos c1_5).trans ((bd_eq ex3).trans (rfl))))))))
      · refine aw_if_eq hC 76 dX12_of_69 (by decide) (fun c2 => ?_) (fun c2 => ?_)
        · refine aw_iconst (v := 0) hC dX12_of_76 (by decide) ?_
          simp only [bd_def, if_pos c2] at Jc2 ⊢
          exact Jc2
        · refine aw_iconst (v := 1) hC dX12_of_72 (by decide) ?_
          refine aw_goto hC 77 dX12_of_73 (by decide) ?_
          simp only [bd_def, if_neg c2] at Jc2 ⊢
          exact Jc2
    | kc1 + 6, hkc1, _ => exact absurd hkc1 (by simp)
noncomputable def L_X12_keepLive_2 : Nat → HSt → Int32 → Int32 × HSt
  | 0, S, v1 => (v1, S)
  | n + 1, S, v1 =>
    if (7 : Int32) ≤ v1 then ((pr (v1) (S))) else (bd ((sI S 71 v1.toNatClampNeg (f_X12_of S 64 v1))) fun S1002 => L_X12_keepLive_2 n S1002 (v1 + (1 : Int32)))
def T_X12_keepLive_2 : Nat → HSt → Int32 → Prop
  | 0, _, _ => False
  | n + 1, S, v1 => ((¬ (7 : Int32) ≤ v1) → vp_in v1 7) ∧ ((¬ (7 : Int32) ≤ v1) → ∀ S1002 : HSt, (sI S 71 v1.toNatClampNeg (f_X12_of S 64 v1)) = S1002 → T_X12_keepLive_2 n S1002 (v1 + (1 : Int32)))
theorem qL_X12_keepLive_2 : ∀ (n : Nat) (S : HSt) (v1 : Int32), shp (L_X12_keepLive_2 n S v1).2 = shp S := by
  intro n
  induction n with
  | zero => intros; rfl
  | succ n ih =>
    intro S v1
    unfold L_X12_keepLive_2
    repeat' (first | with_reducible refine shpr1 ?_ | with_reducible rfl | with_reducible refine (ih _ _).trans ?_ | with_reducible refine (shp_sI _ _ _ _).trans ?_ | with_reducible refine (shp_sJ _ _ _ _).trans ?_ | with_reducible refine shi ?_ ?_ | with_reducible refine shb (fun _ _ => ?_) | with_reducible refine shiP (fun q : Int32 × HSt => q.2) ?_ ?_ | with_reducible refine shbP (fun q : Int32 × HSt => q.2) (fun _ _ => ?_) | (subst_vars; with_reducible rfl) | (subst_vars; with_reducible refine (ih _ _).trans ?_) | (subst_vars; with_reducible refine (shp_sI _ _ _ _).trans ?_) | (subst_vars; with_reducible refine (shp_sJ _ _ _ _).trans ?_) | (subst_vars; with_reducible refine shi ?_ ?_) | (subst_vars; with_reducible refine shb (fun _ _ => ?_)))
theorem vL_X12_keepLive_2 : ∀ (n : Nat) (S : HSt) (v1 : Int32), Fr [(71, 1000)] S (L_X12_keepLive_2 n S v1).2 := by
  intro n
  induction n with
  | zero => intros; exact Fr.refl _ _
  | succ n ih =>
    intro S v1
    unfold L_X12_keepLive_2
    repeat' (first | with_reducible refine frpr1 ?_ | with_reducible exact Fr.refl _ _ | with_reducible refine Fr.lP (fun q : Int32 × HSt => q.2) (fun _ _ => ?_) | with_reducible refine Fr.iteP (fun q : Int32 × HSt => q.2) ?_ ?_ | with_reducible refine Fr.l1 (fun _ _ => ?_) | with_reducible refine Fr.ite ?_ ?_ | with_reducible refine Fr.sE (by assumption) (by first | decide | simp only [List.mem_cons, List.not_mem_nil, or_false, true_or, or_true, eq_self_iff_true]) ?_ | with_reducible refine Fr.jE (by assumption) ?_ | with_reducible refine Fr.rE (by assumption) (by first | decide | simp only [List.mem_cons, List.not_mem_nil, or_false, true_or, or_true, eq_self_iff_true]) ?_ | with_reducible refine Fr.iE (by assumption) ?_ ?_ | with_reducible refine Fr.tr (ih _ _) (by first | decide | simp only [List.mem_cons, List.not_mem_nil, or_false, forall_eq_or_imp, forall_eq, true_or, or_true, and_self, eq_self_iff_true]) ?_)
theorem wL_X12_keepLive_2 (n : Nat) (S : HSt) (v1 : Int32) (r : Int32 × HSt) (e : L_X12_keepLive_2 n S v1 = r) : Fr [(71, 1000)] S r.2 := by
  rw [← e]
  exact vL_X12_keepLive_2 n S v1
set_option maxRecDepth 100000 in
theorem l_X12_keepLive_2 {p : Program} {l : Launch} {e : Env} {s : State} {m : MethodId} {args : Array Value} {below : List Frame} {meth : Method} {c : Code} {G : GG} {Q : State → Prop} (hC : ACx p s m args meth c cX12_keepLive RX12 2 none) (hSt : St G s)  : ∀ (n : Nat) (S : HSt) (v1 : Int32), MS S → T_X12_keepLive_2 n S v1 → AW p l e (rmD 1 0 0) s m args below meth c G 2 Q (L_X12_keepLive_2 n S v1).2 0 0 25 [(0, .ref 64), (1, .int (L_X12_keepLive_2 n S v1).1)] [] → AW p l e (rmD 1 0 0) s m args below meth c G 2 Q S 0 0 2 [(0, .ref 64), (1, .int v1)] [] := by
  intro n
  induction n with
  | zero => intro S v1 _ hT; exact hT.elim
  | succ n ih =>
    intro S v1 hM hT hk
    unfold T_X12_keepLive_2 at hT
    obtain ⟨h0, h1⟩ := hT
    refine aw_iload_n hC 1 dX12_keepLive_2 rfl rfl ?_
    refine aw_bipush (v := 7) hC dX12_keepLive_3 (by decide) ?_
    refine aw_icmp_ge hC 25 dX12_keepLive_5 (by decide) (fun c1001 => ?_) (fun c1001 => ?_)
    · refine aw_sub [0, 1] rfl ?_
      have E : L_X12_keepLive_2 (n + 1) S v1 = _ := (if_pos c1001).trans (rfl)
      rw [E] at hk
      exact hk
    · refine aw_aload_n hC 0 dX12_keepLive_8 rfl rfl ?_
      refine aw_getP (b := 71) hC hSt 27 (ms_lt 64 (by decide) hM) (ms_k 64 12 0 (by decide) hM) rfl (by decide) w_925 rfl (ms_p 27 71 (by decide) hM) dX12_keepLive_9 ?_
      refine aw_iload_n hC 1 dX12_keepLive_12 rfl rfl ?_
      refine aw_aload_n hC 0 dX12_keepLive_13 rfl rfl ?_
      refine aw_iload_n hC 1 dX12_keepLive_14 rfl rfl ?_
      refine aw_cV1r hC hSt (t_X12_of G l hM _) w_1039 w_1041 w_1042 w_1043 w_953 rfl rfl (by decide +kernel) ⟨Nat.le_of_ble_eq_true rfl, Nat.le_of_ble_eq_true rfl⟩ (ms_lt 64 (by decide) hM) (ms_k 64 12 0 (by decide) hM) rfl (Nat.le_of_ble_eq_true rfl) dX12_keepLive_15 ⟨Nat.zero_le _, Nat.zero_le _⟩ ?_
      refine aw_iast hC hSt (ms_lt 71 (by decide) hM) (ms_k 71 14 7 (by decide) hM) (vp_len (n := 7) (ms_l 71 14 7 (by decide) hM) (h0 c1001)) dX12_keepLive_18 ?_
      generalize eS1002 : (sI S 71 v1.toNatClampNeg (f_X12_of S 64 v1)) = S1002
      have hM : MS S1002 := MS.of (by rw [← eS1002]; exact shp_sI _ _ _ _) hM
      refine aw_iinc (v := (v1 + (1 : Int32))) hC 1 [(1, .int _), (0, .ref 64)] dX12_keepLive_19 rfl rfl (by decide) rfl ?_
      refine aw_goto hC 2 dX12_keepLive_22 (by decide) ?_
      refine aw_sub [1, 0] rfl ?_
      have hTn := (h1 c1001 S1002 eS1002)
      have hMn : MS S1002 := hM
      have E : L_X12_keepLive_2 (n + 1) S v1 = _ := (if_neg c1001).trans ((bd_eq eS1002).trans (rfl))
      rw [E] at hk
      exact ih _ _ hMn hTn hk
noncomputable def f_X12_keepLive (S : HSt) (_o : Nat)  : HSt := bd (L_X12_keepLive_2 1000 S (0 : Int32)) fun r1 => r1.2
def p_X12_keepLive (S : HSt) (_o : Nat)  : Prop := (T_X12_keepLive_2 1000 S (0 : Int32))
set_option maxRecDepth 100000 in
theorem t_X12_keepLive (G : GG) (l : Launch) {S : HSt} (hM : MS S)  (hp : p_X12_keepLive S 64) : AM G l yX12_keepLive cX12_keepLive 2 none (rmD 1 0 0) 0 0 [.ref 64] S (FP none (f_X12_keepLive S 64)) := by
  have h0 := hp
  unfold p_X12_keepLive at h0
  refine AM.mk (by decide) (Nat.le_of_ble_eq_true rfl) ?_
  intro p e s m below meth c hC hSt _
  refine aw_iconst (v := 0) hC dX12_keepLive_0 (by decide) ?_
  refine aw_istore_n hC [(1, .int _), (0, .ref 64)] dX12_keepLive_1 rfl (by decide) rfl ?_
  refine aw_sub [1, 0] rfl ?_
  refine l_X12_keepLive_2 hC hSt 1000 _ _ hM (h0) ?_
  generalize er1 : L_X12_keepLive_2 1000 S (0 : Int32) = r1
  have hM : MS r1.2 := MS.of (by rw [← er1]; exact qL_X12_keepLive_2 _ _ _) hM
  refine aw_vret hC dX12_keepLive_25 (Nat.le_refl _) (Nat.le_refl _) ?_
  exact FP.qV ((bd_eq er1).trans (rfl))
theorem q_X12_keepLive (S : HSt) (_o : Nat)  : shp (f_X12_keepLive S _o) = shp S := by
  unfold f_X12_keepLive
  repeat' (first | with_reducible rfl | with_reducible refine (qL_X12_keepLive_2 _ _ _).trans ?_ | with_reducible refine (shp_sI _ _ _ _).trans ?_ | with_reducible refine (shp_sJ _ _ _ _).trans ?_ | with_reducible refine shi ?_ ?_ | with_reducible refine shb (fun _ _ => ?_) | (subst_vars; with_reducible rfl) | (subst_vars; with_reducible refine (qL_X12_keepLive_2 _ _ _).trans ?_) | (subst_vars; with_reducible refine (shp_sI _ _ _ _).trans ?_) | (subst_vars; with_reducible refine (shp_sJ _ _ _ _).trans ?_) | (subst_vars; with_reducible refine shi ?_ ?_) | (subst_vars; with_reducible refine shb (fun _ _ => ?_)))
theorem v_X12_keepLive (S : HSt) (_o : Nat)  : Fr [(71, 1000)] S (f_X12_keepLive S _o) := by
  unfold f_X12_keepLive
  repeat' (first | with_reducible exact Fr.refl _ _ | with_reducible refine Fr.l1 (fun _ _ => ?_) | with_reducible refine Fr.ite ?_ ?_ | with_reducible refine Fr.sE (by assumption) (by first | decide | simp only [List.mem_cons, List.not_mem_nil, or_false, true_or, or_true, eq_self_iff_true]) ?_ | with_reducible refine Fr.jE (by assumption) ?_ | with_reducible refine Fr.rE (by assumption) (by first | decide | simp only [List.mem_cons, List.not_mem_nil, or_false, true_or, or_true, eq_self_iff_true]) ?_ | with_reducible refine Fr.iE (by assumption) ?_ ?_ | with_reducible refine Fr.tr (wL_X12_keepLive_2 _ _ _ _ (by assumption)) (by first | decide | simp only [List.mem_cons, List.not_mem_nil, or_false, forall_eq_or_imp, forall_eq, true_or, or_true, and_self, eq_self_iff_true]) ?_)
theorem w_X12_keepLive (S : HSt) (_o : Nat)  (r : HSt) (e : f_X12_keepLive S _o = r) : Fr [(71, 1000)] S r := by
  rw [← e]
  exact v_X12_keepLive S _o
noncomputable def F_X12_ropeOf (S : HSt) (_o : Nat) (a1 : Int32) : Int32 × HSt := pr ((gI S 68 (((6 : Int32) + ((3 : Int32) * (gI S 64 18))) + a1).toNatClampNeg)) (S)
noncomputable def f_X12_ropeOf (S : HSt) (_o : Nat) (a1 : Int32) : Int32 := (F_X12_ropeOf S _o a1).1
def p_X12_ropeOf (S : HSt) (_o : Nat) (a1 : Int32) : Prop := (vp_in (((6 : Int32) + ((3 : Int32) * (gI S 64 18))) + a1) 172)
set_option maxRecDepth 100000 in
theorem t_X12_ropeOf (G : GG) (l : Launch) {S : HSt} (hM : MS S) (a1 : Int32) (hp : p_X12_ropeOf S 64 a1) : AM G l yX12_ropeOf cX12_ropeOf 2 (some .int) (rmD 0 0 0) 0 0 [.ref 64, .int a1] S (FP (some (.int (f_X12_ropeOf S 64 a1))) (S)) := by
  have h0 := hp
  unfold p_X12_ropeOf at h0
  refine AM.mk (by decide) (Nat.le_of_ble_eq_true rfl) ?_
  intro p e s m below meth c hC hSt _
  refine aw_aload_n hC 0 dX12_ropeOf_0 rfl rfl ?_
  refine aw_getP (b := 68) hC hSt 5 (ms_lt 64 (by decide) hM) (ms_k 64 12 0 (by decide) hM) rfl (by decide) w_920 rfl (ms_p 5 68 (by decide) hM) dX12_ropeOf_1 ?_
  refine aw_bipush (v := 6) hC dX12_ropeOf_4 (by decide) ?_
  refine aw_iconst (v := 3) hC dX12_ropeOf_6 (by decide) ?_
  refine aw_aload_n hC 0 dX12_ropeOf_7 rfl rfl ?_
  refine aw_getI hC hSt 18 (ms_lt 64 (by decide) hM) (ms_k 64 12 0 (by decide) hM) rfl (by decide) w_1052 rfl dX12_ropeOf_8 ?_
  refine aw_imul hC dX12_ropeOf_11 ?_
  refine aw_iadd hC dX12_ropeOf_12 ?_
  refine aw_iload_n hC 1 dX12_ropeOf_13 rfl rfl ?_
  refine aw_iadd hC dX12_ropeOf_14 ?_
  refine aw_iald hC hSt (ms_lt 68 (by decide) hM) (ms_k 68 14 172 (by decide) hM) (vp_len (n := 172) (ms_l 68 14 172 (by decide) hM) (h0)) dX12_ropeOf_15 ?_
  refine aw_iret hC dX12_ropeOf_16 (Nat.le_refl _) (Nat.le_refl _) ?_
  exact FP.pI (rfl)
noncomputable def F_X12_horseOf (S : HSt) (_o : Nat) (a1 : Int32) : Int32 × HSt := bd ((if (gI S 64 19) = (-1000000 : Int32) then (0 : Int32) else (gI S 68 (((15 : Int32) + ((3 : Int32) * (gI S 64 19))) + a1).toNatClampNeg))) fun x2 => pr (x2) (S)
noncomputable def f_X12_horseOf (S : HSt) (_o : Nat) (a1 : Int32) : Int32 := (F_X12_horseOf S _o a1).1
def p_X12_horseOf (S : HSt) (_o : Nat) (a1 : Int32) : Prop := ((¬ (gI S 64 19) = (-1000000 : Int32)) → vp_in (((15 : Int32) + ((3 : Int32) * (gI S 64 19))) + a1) 172)
set_option maxRecDepth 100000 in
theorem t_X12_horseOf (G : GG) (l : Launch) {S : HSt} (hM : MS S) (a1 : Int32) (hp : p_X12_horseOf S 64 a1) : AM G l yX12_horseOf cX12_horseOf 2 (some .int) (rmD 0 0 0) 0 0 [.ref 64, .int a1] S (FP (some (.int (f_X12_horseOf S 64 a1))) (S)) := by
  have h0 := hp
  unfold p_X12_horseOf at h0
  refine AM.mk (by decide) (Nat.le_of_ble_eq_true rfl) ?_
  intro p e s m below meth c hC hSt _
  refine aw_aload_n hC 0 dX12_horseOf_0 rfl rfl ?_
  refine aw_getI hC hSt 19 (ms_lt 64 (by decide) hM) (ms_k 64 12 0 (by decide) hM) rfl (by decide) w_924 rfl dX12_horseOf_1 ?_
  refine aw_ldc (v := -1000000) hC w_923 dX12_horseOf_4 ?_
  refine aw_cut (S' := S) (pc' := 29) (lv' := [(0, .ref 64), (1, .int a1)]) (st' := [.int (if (gI S 64 19) = (-1000000 : Int32) then (0 : Int32) else (gI S 68 (((15 : Int32) + ((3 : Int32) * (gI S 64 19))) + a1).toNatClampNeg))]) ?_ (fun Jc1 => ?_)
  · generalize ex2 : (if (gI S 64 19) = (-1000000 : Int32) then (0 : Int32) else (gI S 68 (((15 : Int32) + ((3 : Int32) * (gI S 64 19))) + a1).toNatClampNeg)) = x2
    refine aw_iret hC dX12_horseOf_29 (Nat.le_refl _) (Nat.le_refl _) ?_
    exact FP.pI ((bd_eq ex2).trans (rfl))
  · refine aw_icmp_ne hC 13 dX12_horseOf_6 (by decide) (fun c1 => ?_) (fun c1 => ?_)
    · refine aw_aload_n hC 0 dX12_horseOf_13 rfl rfl ?_
      refine aw_getP (b := 68) hC hSt 5 (ms_lt 64 (by decide) hM) (ms_k 64 12 0 (by decide) hM) rfl (by decide) w_920 rfl (ms_p 5 68 (by decide) hM) dX12_horseOf_14 ?_
      refine aw_bipush (v := 15) hC dX12_horseOf_17 (by decide) ?_
      refine aw_iconst (v := 3) hC dX12_horseOf_19 (by decide) ?_
      refine aw_aload_n hC 0 dX12_horseOf_20 rfl rfl ?_
      refine aw_getI hC hSt 19 (ms_lt 64 (by decide) hM) (ms_k 64 12 0 (by decide) hM) rfl (by decide) w_924 rfl dX12_horseOf_21 ?_
      refine aw_imul hC dX12_horseOf_24 ?_
      refine aw_iadd hC dX12_horseOf_25 ?_
      refine aw_iload_n hC 1 dX12_horseOf_26 rfl rfl ?_
      refine aw_iadd hC dX12_horseOf_27 ?_
      refine aw_iald hC hSt (ms_lt 68 (by decide) hM) (ms_k 68 14 172 (by decide) hM) (vp_len (n := 172) (ms_l 68 14 172 (by decide) hM) (h0 c1)) dX12_horseOf_28 ?_
      simp only [bd_def, if_neg c1] at Jc1 ⊢
      exact Jc1
    · refine aw_iconst (v := 0) hC dX12_horseOf_9 (by decide) ?_
      refine aw_goto hC 29 dX12_horseOf_10 (by decide) ?_
      simp only [bd_def, if_pos c1] at Jc1 ⊢
      exact Jc1
noncomputable def F_X12_needOf (S : HSt) (_o : Nat) (a1 : Int32) : Int32 × HSt := bd ((if (f_X12_ropeOf S 64 (2 : Int32)) = (1 : Int32) then (2 : Int32) else (0 : Int32))) fun x2 => bd (((((4 : Int32) + (a1 / (20 : Int32))) + x2) - ((f_X12_ropeOf S 64 (1 : Int32)) / (4 : Int32)))) fun x3 => bd ((if (1 : Int32) ≤ x3 then x3 else (1 : Int32))) fun x5 => pr (x5) (S)
noncomputable def f_X12_needOf (S : HSt) (_o : Nat) (a1 : Int32) : Int32 := (F_X12_needOf S _o a1).1
def p_X12_needOf (S : HSt) (_o : Nat) (a1 : Int32) : Prop := (p_X12_ropeOf S 64 (2 : Int32)) ∧ (∀ x2 : Int32, (if (f_X12_ropeOf S 64 (2 : Int32)) = (1 : Int32) then (2 : Int32) else (0 : Int32)) = x2 → p_X12_ropeOf S 64 (1 : Int32))
set_option maxRecDepth 100000 in
theorem t_X12_needOf (G : GG) (l : Launch) {S : HSt} (hM : MS S) (a1 : Int32) (hp : p_X12_needOf S 64 a1) : AM G l yX12_needOf cX12_needOf 3 (some .int) (rmD 1 0 0) 0 0 [.ref 64, .int a1] S (FP (some (.int (f_X12_needOf S 64 a1))) (S)) := by
  obtain ⟨h0, h1⟩ := hp
  refine AM.mk (by decide) (Nat.le_of_ble_eq_true rfl) ?_
  intro p e s m below meth c hC hSt _
  refine aw_iconst (v := 4) hC dX12_needOf_0 (by decide) ?_
  refine aw_iload_n hC 1 dX12_needOf_1 rfl rfl ?_
  refine aw_bipush (v := 20) hC dX12_needOf_2 (by decide) ?_
  refine aw_idiv hC dX12_needOf_4 (by decide) ?_
  refine aw_iadd hC dX12_needOf_5 ?_
  refine aw_aload_n hC 0 dX12_needOf_6 rfl rfl ?_
  refine aw_iconst (v := 2) hC dX12_needOf_7 (by decide) ?_
  refine aw_cV1r hC hSt (t_X12_ropeOf G l hM _ (h0)) w_1092 w_1095 w_1096 w_1097 w_953 rfl rfl (by decide +kernel) ⟨Nat.le_of_ble_eq_true rfl, Nat.le_of_ble_eq_true rfl⟩ (ms_lt 64 (by decide) hM) (ms_k 64 12 0 (by decide) hM) rfl (Nat.le_of_ble_eq_true rfl) dX12_needOf_8 ⟨Nat.zero_le _, Nat.zero_le _⟩ ?_
  refine aw_iconst (v := 1) hC dX12_needOf_11 (by decide) ?_
  refine aw_cut (S' := S) (pc' := 20) (lv' := [(0, .ref 64), (1, .int a1)]) (st' := [.int (if (f_X12_ropeOf S 64 (2 : Int32)) = (1 : Int32) then (2 : Int32) else (0 : Int32)), .int ((4 : Int32) + (a1 / (20 : Int32)))]) ?_ (fun Jc1 => ?_)
  · generalize ex2 : (if (f_X12_ropeOf S 64 (2 : Int32)) = (1 : Int32) then (2 : Int32) else (0 : Int32)) = x2
    refine aw_iadd hC dX12_needOf_20 ?_
    refine aw_aload_n hC 0 dX12_needOf_21 rfl rfl ?_
    refine aw_iconst (v := 1) hC dX12_needOf_22 (by decide) ?_
    refine aw_cV1r hC hSt (t_X12_ropeOf G l hM _ (h1 x2 ex2)) w_1092 w_1095 w_1096 w_1097 w_953 rfl rfl (by decide +kernel) ⟨Nat.le_of_ble_eq_true rfl, Nat.le_of_ble_eq_true rfl⟩ (ms_lt 64 (by decide) hM) (ms_k 64 12 0 (by decide) hM) rfl (Nat.le_of_ble_eq_true rfl) dX12_needOf_23 ⟨Nat.zero_le _, Nat.zero_le _⟩ ?_
    refine aw_iconst (v := 4) hC dX12_needOf_26 (by decide) ?_
    refine aw_idiv hC dX12_needOf_27 (by decide) ?_
    refine aw_isub hC dX12_needOf_28 ?_
    refine aw_istore_n hC [(2, .int _), (0, .ref 64), (1, .int _)] dX12_needOf_29 rfl (by decide) rfl ?_
    generalize ex3 : ((((4 : Int32) + (a1 / (20 : Int32))) + x2) - ((f_X12_ropeOf S 64 (1 : Int32)) / (4 : Int32))) = x3
    refine aw_iload_n hC 0 dX12_needOf_30 rfl rfl ?_
    refine aw_iconst (v := 1) hC dX12_needOf_31 (by decide) ?_
    refine aw_cut (S' := S) (pc' := 40) (lv' := [(2, .int x3), (0, .ref 64), (1, .int a1)]) (st' := [.int (if (1 : Int32) ≤ x3 then x3 else (1 : Int32))]) ?_ (fun Jc4 => ?_)
    · generalize ex5 : (if (1 : Int32) ≤ x3 then x3 else (1 : Int32)) = x5
      refine aw_iret hC dX12_needOf_40 (Nat.le_refl _) (Nat.le_refl _) ?_
      exact FP.pI ((bd_eq ex2).trans ((bd_eq ex3).trans ((bd_eq ex5).trans (rfl))))
    · refine aw_icmp_ge hC 39 dX12_needOf_32 (by decide) (fun c4 => ?_) (fun c4 => ?_)
      · refine aw_iload_n hC 0 dX12_needOf_39 rfl rfl ?_
        simp only [bd_def, if_pos c4] at Jc4 ⊢
        exact Jc4
      · refine aw_iconst (v := 1) hC dX12_needOf_35 (by decide) ?_
        refine aw_goto hC 40 dX12_needOf_36 (by decide) ?_
        simp only [bd_def, if_neg c4] at Jc4 ⊢
        exact Jc4
  · refine aw_icmp_ne hC 19 dX12_needOf_12 (by decide) (fun c1 => ?_) (fun c1 => ?_)
    · refine aw_iconst (v := 0) hC dX12_needOf_19 (by decide) ?_
      simp only [bd_def, if_neg c1] at Jc1 ⊢
      exact Jc1
    · refine aw_iconst (v := 2) hC dX12_needOf_15 (by decide) ?_
      refine aw_goto hC 20 dX12_needOf_16 (by decide) ?_
      simp only [bd_def, if_pos c1] at Jc1 ⊢
      exact Jc1
noncomputable def F_X12_limit (S : HSt) (_o : Nat)  : Int32 × HSt := pr (((24 : Int32) + ((4 : Int32) * (f_X12_ropeOf S 64 (1 : Int32))))) (S)
noncomputable def f_X12_limit (S : HSt) (_o : Nat)  : Int32 := (F_X12_limit S _o).1
def p_X12_limit (S : HSt) (_o : Nat)  : Prop := (p_X12_ropeOf S 64 (1 : Int32))
set_option maxRecDepth 100000 in
theorem t_X12_limit (G : GG) (l : Launch) {S : HSt} (hM : MS S)  (hp : p_X12_limit S 64) : AM G l yX12_limit cX12_limit 1 (some .int) (rmD 1 0 0) 0 0 [.ref 64] S (FP (some (.int (f_X12_limit S 64))) (S)) := by
  have h0 := hp
  unfold p_X12_limit at h0
  refine AM.mk (by decide) (Nat.le_of_ble_eq_true rfl) ?_
  intro p e s m below meth c hC hSt _
  refine aw_bipush (v := 24) hC dX12_limit_0 (by decide) ?_
  refine aw_iconst (v := 4) hC dX12_limit_2 (by decide) ?_
  refine aw_aload_n hC 0 dX12_limit_3 rfl rfl ?_
  refine aw_iconst (v := 1) hC dX12_limit_4 (by decide) ?_
  refine aw_cV1r hC hSt (t_X12_ropeOf G l hM _ (h0)) w_1092 w_1095 w_1096 w_1097 w_953 rfl rfl (by decide +kernel) ⟨Nat.le_of_ble_eq_true rfl, Nat.le_of_ble_eq_true rfl⟩ (ms_lt 64 (by decide) hM) (ms_k 64 12 0 (by decide) hM) rfl (Nat.le_of_ble_eq_true rfl) dX12_limit_5 ⟨Nat.zero_le _, Nat.zero_le _⟩ ?_
  refine aw_imul hC dX12_limit_8 ?_
  refine aw_iadd hC dX12_limit_9 ?_
  refine aw_iret hC dX12_limit_10 (Nat.le_refl _) (Nat.le_refl _) ?_
  exact FP.pI (rfl)
noncomputable def F_X12_isStill (S : HSt) (_o : Nat)  : Int32 × HSt := bd ((if (gI S 64 25) = 0 then (if (gI S 64 20) = 0 then (1 : Int32) else (0 : Int32)) else (1 : Int32))) fun x3 => pr (x3) (S)
noncomputable def f_X12_isStill (S : HSt) (_o : Nat)  : Int32 := (F_X12_isStill S _o).1
set_option maxRecDepth 100000 in
theorem t_X12_isStill (G : GG) (l : Launch) {S : HSt} (hM : MS S)   : AM G l yX12_isStill cX12_isStill 1 (some .boolean) (rmD 0 0 0) 0 0 [.ref 64] S (FP (some (.int (f_X12_isStill S 64))) (S)) := by
  refine AM.mk (by decide) (Nat.le_of_ble_eq_true rfl) ?_
  intro p e s m below meth c hC hSt _
  refine aw_aload_n hC 0 dX12_isStill_0 rfl rfl ?_
  refine aw_getI hC hSt 25 (ms_lt 64 (by decide) hM) (ms_k 64 12 0 (by decide) hM) rfl (by decide) w_1037 rfl dX12_isStill_1 ?_
  refine aw_cut (S' := S) (pc' := 19) (lv' := [(0, .ref 64)]) (st' := [.int (if (gI S 64 25) = 0 then (if (gI S 64 20) = 0 then (1 : Int32) else (0 : Int32)) else (1 : Int32))]) ?_ (fun Jc1 => ?_)
  · generalize ex3 : (if (gI S 64 25) = 0 then (if (gI S 64 20) = 0 then (1 : Int32) else (0 : Int32)) else (1 : Int32)) = x3
    refine aw_zret hC dX12_isStill_19 (Nat.le_refl _) (Nat.le_refl _) (Bz.n (ex3 ▸ (Bz.ite (Bz.ite (Or.inr rfl) (Or.inl rfl)) (Or.inr rfl)))) ?_
    exact FP.pI ((bd_eq ex3).trans (rfl))
  · refine aw_if_ne hC 14 dX12_isStill_4 (by decide) (fun c1 => ?_) (fun c1 => ?_)
    · refine aw_iconst (v := 1) hC dX12_isStill_14 (by decide) ?_
      refine aw_goto hC 19 dX12_isStill_15 (by decide) ?_
      simp only [bd_def, if_neg c1] at Jc1 ⊢
      exact Jc1
    · refine aw_aload_n hC 0 dX12_isStill_7 rfl rfl ?_
      refine aw_getI hC hSt 20 (ms_lt 64 (by decide) hM) (ms_k 64 12 0 (by decide) hM) rfl (by decide) w_1032 rfl dX12_isStill_8 ?_
      refine aw_if_ne hC 18 dX12_isStill_11 (by decide) (fun c2 => ?_) (fun c2 => ?_)
      · refine aw_iconst (v := 0) hC dX12_isStill_18 (by decide) ?_
        simp only [bd_def, if_pos c1, if_neg c2] at Jc1 ⊢
        exact Jc1
      · refine aw_iconst (v := 1) hC dX12_isStill_14 (by decide) ?_
        refine aw_goto hC 19 dX12_isStill_15 (by decide) ?_
        simp only [bd_def, if_pos c1, if_pos c2] at Jc1 ⊢
        exact Jc1
theorem b_X12_isStill (S : HSt) (_o : Nat)  : Bz (f_X12_isStill S _o) := by
  unfold f_X12_isStill F_X12_isStill
  (try dsimp only [bd])
  (repeat' split) <;> first | exact Or.inl rfl | exact Or.inr rfl
noncomputable def F_X12_spinBy (S : HSt) (_o : Nat) (a1 : Int32) : Int32 × HSt := bd (((15 : Int32) - ((gI S 64 23) / (64 : Int32)))) fun x1 => bd ((if (1 : Int32) ≤ x1 then x1 else (1 : Int32))) fun x3 => bd ((((gI S 64 21) + a1) - (2 : Int32))) fun x4 => bd ((if 0 ≤ x4 then (if x4 ≤ x3 then x4 else x3) else (0 : Int32))) fun x7 => pr (x7) (S)
noncomputable def f_X12_spinBy (S : HSt) (_o : Nat) (a1 : Int32) : Int32 := (F_X12_spinBy S _o a1).1
set_option maxRecDepth 100000 in
theorem t_X12_spinBy (G : GG) (l : Launch) {S : HSt} (hM : MS S) (a1 : Int32)  : AM G l yX12_spinBy cX12_spinBy 4 (some .int) (rmD 0 0 0) 0 0 [.ref 64, .int a1] S (FP (some (.int (f_X12_spinBy S 64 a1))) (S)) := by
  refine AM.mk (by decide) (Nat.le_of_ble_eq_true rfl) ?_
  intro p e s m below meth c hC hSt _
  refine aw_bipush (v := 15) hC dX12_spinBy_0 (by decide) ?_
  refine aw_aload_n hC 0 dX12_spinBy_2 rfl rfl ?_
  refine aw_getI hC hSt 23 (ms_lt 64 (by decide) hM) (ms_k 64 12 0 (by decide) hM) rfl (by decide) w_1035 rfl dX12_spinBy_3 ?_
  refine aw_bipush (v := 64) hC dX12_spinBy_6 (by decide) ?_
  refine aw_idiv hC dX12_spinBy_8 (by decide) ?_
  refine aw_isub hC dX12_spinBy_9 ?_
  refine aw_istore_n hC [(2, .int _), (0, .ref 64), (1, .int _)] dX12_spinBy_10 rfl (by decide) rfl ?_
  generalize ex1 : ((15 : Int32) - ((gI S 64 23) / (64 : Int32))) = x1
  refine aw_iload_n hC 0 dX12_spinBy_11 rfl rfl ?_
  refine aw_iconst (v := 1) hC dX12_spinBy_12 (by decide) ?_
  refine aw_cut (S' := S) (pc' := 21) (lv' := [(2, .int x1), (0, .ref 64), (1, .int a1)]) (st' := [.int (if (1 : Int32) ≤ x1 then x1 else (1 : Int32))]) ?_ (fun Jc2 => ?_)
  · generalize ex3 : (if (1 : Int32) ≤ x1 then x1 else (1 : Int32)) = x3
    refine aw_istore_n hC [(2, .int _), (0, .ref 64), (1, .int _)] dX12_spinBy_21 rfl (by decide) rfl ?_
    refine aw_aload_n hC 1 dX12_spinBy_22 rfl rfl ?_
    refine aw_getI hC hSt 21 (ms_lt 64 (by decide) hM) (ms_k 64 12 0 (by decide) hM) rfl (by decide) w_1033 rfl dX12_spinBy_23 ?_
    refine aw_iload_n hC 2 dX12_spinBy_26 rfl rfl ?_
    refine aw_iadd hC dX12_spinBy_27 ?_
    refine aw_iconst (v := 2) hC dX12_spinBy_28 (by decide) ?_
    refine aw_isub hC dX12_spinBy_29 ?_
    refine aw_istore_n hC [(3, .int _), (2, .int _), (0, .ref 64), (1, .int _)] dX12_spinBy_30 rfl (by decide) rfl ?_
    generalize ex4 : (((gI S 64 21) + a1) - (2 : Int32)) = x4
    refine aw_iload_n hC 0 dX12_spinBy_31 rfl rfl ?_
    refine aw_cut (S' := S) (pc' := 49) (lv' := [(3, .int x4), (2, .int x3), (0, .ref 64), (1, .int a1)]) (st' := [.int (if 0 ≤ x4 then (if x4 ≤ x3 then x4 else x3) else (0 : Int32))]) ?_ (fun Jc5 => ?_)
    · generalize ex7 : (if 0 ≤ x4 then (if x4 ≤ x3 then x4 else x3) else (0 : Int32)) = x7
      refine aw_iret hC dX12_spinBy_49 (Nat.le_refl _) (Nat.le_refl _) ?_
      exact FP.pI ((bd_eq ex1).trans ((bd_eq ex3).trans ((bd_eq ex4).trans ((bd_eq ex7).trans (rfl)))))
    · refine aw_if_ge hC 39 dX12_spinBy_32 (by decide) (fun c5 => ?_) (fun c5 => ?_)
      · refine aw_iload_n hC 0 dX12_spinBy_39 rfl rfl ?_
        refine aw_iload_n hC 1 dX12_spinBy_40 rfl rfl ?_
        refine aw_icmp_le hC 48 dX12_spinBy_41 (by decide) (fun c6 => ?_) (fun c6 => ?_)
        · refine aw_iload_n hC 0 dX12_spinBy_48 rfl rfl ?_
          simp only [bd_def, if_pos c5, if_pos c6] at Jc5 ⊢
          exact Jc5
        · refine aw_iload_n hC 1 dX12_spinBy_44 rfl rfl ?_
          refine aw_goto hC 49 dX12_spinBy_45 (by decide) ?_
          simp only [bd_def, if_pos c5, if_neg c6] at Jc5 ⊢
          exact Jc5
      · refine aw_iconst (v := 0) hC dX12_spinBy_35 (by decide) ?_
        refine aw_goto hC 49 dX12_spinBy_36 (by decide) ?_
        simp only [bd_def, if_neg c5] at Jc5 ⊢
        exact Jc5
  · refine aw_icmp_ge hC 20 dX12_spinBy_13 (by decide) (fun c2 => ?_) (fun c2 => ?_)
    · refine aw_iload_n hC 0 dX12_spinBy_20 rfl rfl ?_
      simp only [bd_def, if_pos c2] at Jc2 ⊢
      exact Jc2
    · refine aw_iconst (v := 1) hC dX12_spinBy_16 (by decide) ?_
      refine aw_goto hC 21 dX12_spinBy_17 (by decide) ?_
      simp only [bd_def, if_neg c2] at Jc2 ⊢
      exact Jc2
noncomputable def f_X12_doTick (S : HSt) (_o : Nat) (a1 : Int32) (a2 : Int32) (a3 : Int32) (a4 : Int32) : HSt := bd ((sI S 64 24 ((gI S 64 24) + (1 : Int32)))) fun S1 => bd ((sI S1 64 21 (f_X12_spinBy S1 64 a2))) fun S2 => bd ((if a1 = 0 then (0 : Int32) else (2 : Int32))) fun x4 => bd (((f_X12_needOf S2 64 (gI S2 64 20)) + x4)) fun x5 => bd ((if (gI S2 64 21) < x5 then (0 : Int32) else (1 : Int32))) fun x7 => bd (((f_X12_ropeOf S2 64 (0 : Int32)) / (2 : Int32))) fun x8 => bd ((if x7 = 0 then (bd ((if a1 = 0 then (5 : Int32) else (3 : Int32))) fun x11 => bd ((sI S2 64 20 ((gI S2 64 20) - (x11 * (x5 - (gI S2 64 21)))))) fun S12 => bd ((if 0 ≤ (gI S12 64 20) then (gI S12 64 20) else (0 : Int32))) fun x14 => bd ((sI S12 64 20 x14)) fun S15 => S15) else (bd ((sI S2 64 20 ((gI S2 64 20) + ((a3 * (gI S2 64 21)) / (8 : Int32))))) fun S16 => bd ((if (gI S16 64 20) ≤ x8 then (gI S16 64 20) else x8)) fun x18 => bd ((sI S16 64 20 x18)) fun S19 => S19))) fun S20 => bd ((if a4 = (-1000000 : Int32) then (0 : Int32) else ((gI S20 64 21) - a4))) fun x22 => bd ((if a1 = 0 then x22 else (x22 / (2 : Int32)))) fun x24 => bd ((sI S20 64 22 ((gI S20 64 22) + x24))) fun S25 => bd ((sI S25 64 23 ((gI S25 64 23) + (gI S25 64 21)))) fun S26 => bd ((if (f_X12_limit S26 64) < (gI S26 64 22) then (1 : Int32) else (if (-(f_X12_limit S26 64)) ≤ (gI S26 64 22) then (0 : Int32) else (1 : Int32)))) fun x29 => bd ((sI S26 64 25 x29)) fun S30 => bd ((if (gI S30 64 25) = 0 then (if (gI S30 64 20) = 0 then (3 : Int32) else (if x7 = 0 then (2 : Int32) else (if (gI S30 64 20) = x8 then (1 : Int32) else (0 : Int32)))) else (4 : Int32))) fun x35 => bd ((sI S30 64 26 x35)) fun S36 => S36
def p_X12_doTick (S : HSt) (_o : Nat) (a1 : Int32) (a2 : Int32) (a3 : Int32) (a4 : Int32) : Prop := (∀ S1 : HSt, (sI S 64 24 ((gI S 64 24) + (1 : Int32))) = S1 → ∀ S2 : HSt, (sI S1 64 21 (f_X12_spinBy S1 64 a2)) = S2 → p_X12_needOf S2 64 (gI S2 64 20)) ∧ (∀ S1 : HSt, (sI S 64 24 ((gI S 64 24) + (1 : Int32))) = S1 → ∀ S2 : HSt, (sI S1 64 21 (f_X12_spinBy S1 64 a2)) = S2 → ∀ x4 : Int32, (if a1 = 0 then (0 : Int32) else (2 : Int32)) = x4 → ∀ x5 : Int32, ((f_X12_needOf S2 64 (gI S2 64 20)) + x4) = x5 → ∀ x7 : Int32, (if (gI S2 64 21) < x5 then (0 : Int32) else (1 : Int32)) = x7 → p_X12_ropeOf S2 64 (0 : Int32)) ∧ (∀ S1 : HSt, (sI S 64 24 ((gI S 64 24) + (1 : Int32))) = S1 → ∀ S2 : HSt, (sI S1 64 21 (f_X12_spinBy S1 64 a2)) = S2 → ∀ x4 : Int32, (if a1 = 0 then (0 : Int32) else (2 : Int32)) = x4 → ∀ x5 : Int32, ((f_X12_needOf S2 64 (gI S2 64 20)) + x4) = x5 → ∀ x7 : Int32, (if (gI S2 64 21) < x5 then (0 : Int32) else (1 : Int32)) = x7 → ∀ x8 : Int32, ((f_X12_ropeOf S2 64 (0 : Int32)) / (2 : Int32)) = x8 → ∀ S20 : HSt, (if x7 = 0 then (bd ((if a1 = 0 then (5 : Int32) else (3 : Int32))) fun x11 => bd ((sI S2 64 20 ((gI S2 64 20) - (x11 * (x5 - (gI S2 64 21)))))) fun S12 => bd ((if 0 ≤ (gI S12 64 20) then (gI S12 64 20) else (0 : Int32))) fun x14 => bd ((sI S12 64 20 x14)) fun S15 => S15) else (bd ((sI S2 64 20 ((gI S2 64 20) + ((a3 * (gI S2 64 21)) / (8 : Int32))))) fun S16 => bd ((if (gI S16 64 20) ≤ x8 then (gI S16 64 20) else x8)) fun x18 => bd ((sI S16 64 20 x18)) fun S19 => S19)) = S20 → ∀ x22 : Int32, (if a4 = (-1000000 : Int32) then (0 : Int32) else ((gI S20 64 21) - a4)) = x22 → ∀ x24 : Int32, (if a1 = 0 then x22 else (x22 / (2 : Int32))) = x24 → ∀ S25 : HSt, (sI S20 64 22 ((gI S20 64 22) + x24)) = S25 → ∀ S26 : HSt, (sI S25 64 23 ((gI S25 64 23) + (gI S25 64 21))) = S26 → p_X12_limit S26 64) ∧ (∀ S1 : HSt, (sI S 64 24 ((gI S 64 24) + (1 : Int32))) = S1 → ∀ S2 : HSt, (sI S1 64 21 (f_X12_spinBy S1 64 a2)) = S2 → ∀ x4 : Int32, (if a1 = 0 then (0 : Int32) else (2 : Int32)) = x4 → ∀ x5 : Int32, ((f_X12_needOf S2 64 (gI S2 64 20)) + x4) = x5 → ∀ x7 : Int32, (if (gI S2 64 21) < x5 then (0 : Int32) else (1 : Int32)) = x7 → ∀ x8 : Int32, ((f_X12_ropeOf S2 64 (0 : Int32)) / (2 : Int32)) = x8 → ∀ S20 : HSt, (if x7 = 0 then (bd ((if a1 = 0 then (5 : Int32) else (3 : Int32))) fun x11 => bd ((sI S2 64 20 ((gI S2 64 20) - (x11 * (x5 - (gI S2 64 21)))))) fun S12 => bd ((if 0 ≤ (gI S12 64 20) then (gI S12 64 20) else (0 : Int32))) fun x14 => bd ((sI S12 64 20 x14)) fun S15 => S15) else (bd ((sI S2 64 20 ((gI S2 64 20) + ((a3 * (gI S2 64 21)) / (8 : Int32))))) fun S16 => bd ((if (gI S16 64 20) ≤ x8 then (gI S16 64 20) else x8)) fun x18 => bd ((sI S16 64 20 x18)) fun S19 => S19)) = S20 → ∀ x22 : Int32, (if a4 = (-1000000 : Int32) then (0 : Int32) else ((gI S20 64 21) - a4)) = x22 → ∀ x24 : Int32, (if a1 = 0 then x22 else (x22 / (2 : Int32))) = x24 → ∀ S25 : HSt, (sI S20 64 22 ((gI S20 64 22) + x24)) = S25 → ∀ S26 : HSt, (sI S25 64 23 ((gI S25 64 23) + (gI S25 64 21))) = S26 → (¬ (f_X12_limit S26 64) < (gI S26 64 22)) → p_X12_limit S26 64)
set_option maxRecDepth 100000 in
theorem t_X12_doTick (G : GG) (l : Launch) {S : HSt} (hM : MS S) (a1 : Int32) (a2 : Int32) (a3 : Int32) (a4 : Int32) (hp : p_X12_doTick S 64 a1 a2 a3 a4) : AM G l yX12_doTick cX12_doTick 9 none (rmD 2 0 0) 0 0 [.ref 64, .int a1, .int a2, .int a3, .int a4] S (FP none (f_X12_doTick S 64 a1 a2 a3 a4)) := by
  obtain ⟨h0, h1, h2, h3⟩ := hp
  refine AM.mk (by decide) (Nat.le_of_ble_eq_true rfl) ?_
  intro p e s m below meth c hC hSt _
  refine aw_aload_n hC 0 dX12_doTick_0 rfl rfl ?_
  refine aw_dup hC dX12_doTick_1 rfl ?_
  refine aw_getI hC hSt 24 (ms_lt 64 (by decide) hM) (ms_k 64 12 0 (by decide) hM) rfl (by decide) w_1036 rfl dX12_doTick_2 ?_
  refine aw_iconst (v := 1) hC dX12_doTick_5 (by decide) ?_
  refine aw_iadd hC dX12_doTick_6 ?_
  refine aw_putI hC hSt 24 (ms_lt 64 (by decide) hM) (ms_k 64 12 0 (by decide) hM) rfl (by decide) w_1036 rfl rfl rfl rfl dX12_doTick_7 ?_
  generalize eS1 : (sI S 64 24 ((gI S 64 24) + (1 : Int32))) = S1
  have hM : MS S1 := MS.of (by rw [← eS1]; exact shp_sI _ _ _ _) hM
  refine aw_aload_n hC 0 dX12_doTick_10 rfl rfl ?_
  refine aw_aload_n hC 0 dX12_doTick_11 rfl rfl ?_
  refine aw_iload_n hC 2 dX12_doTick_12 rfl rfl ?_
  refine aw_cV1r hC hSt (t_X12_spinBy G l hM _) w_1100 w_1101 w_1102 w_1103 w_953 rfl rfl (by decide +kernel) ⟨Nat.le_of_ble_eq_true rfl, Nat.le_of_ble_eq_true rfl⟩ (ms_lt 64 (by decide) hM) (ms_k 64 12 0 (by decide) hM) rfl (Nat.le_of_ble_eq_true rfl) dX12_doTick_13 ⟨Nat.zero_le _, Nat.zero_le _⟩ ?_
  refine aw_putI hC hSt 21 (ms_lt 64 (by decide) hM) (ms_k 64 12 0 (by decide) hM) rfl (by decide) w_1033 rfl rfl rfl rfl dX12_doTick_16 ?_
  generalize eS2 : (sI S1 64 21 (f_X12_spinBy S1 64 a2)) = S2
  have hM : MS S2 := MS.of (by rw [← eS2]; exact shp_sI _ _ _ _) hM
  refine aw_aload_n hC 0 dX12_doTick_19 rfl rfl ?_
  refine aw_aload_n hC 0 dX12_doTick_20 rfl rfl ?_
  refine aw_getI hC hSt 20 (ms_lt 64 (by decide) hM) (ms_k 64 12 0 (by decide) hM) rfl (by decide) w_1032 rfl dX12_doTick_21 ?_
  refine aw_cV1r hC hSt (t_X12_needOf G l hM _ (h0 S1 eS1 S2 eS2)) w_1094 w_1104 w_1105 w_1106 w_953 rfl rfl (by decide +kernel) ⟨Nat.le_of_ble_eq_true rfl, Nat.le_of_ble_eq_true rfl⟩ (ms_lt 64 (by decide) hM) (ms_k 64 12 0 (by decide) hM) rfl (Nat.le_of_ble_eq_true rfl) dX12_doTick_24 ⟨Nat.zero_le _, Nat.zero_le _⟩ ?_
  refine aw_iload_n hC 1 dX12_doTick_27 rfl rfl ?_
  refine aw_cut (S' := S2) (pc' := 36) (lv' := [(0, .ref 64), (1, .int a1), (2, .int a2), (3, .int a3), (4, .int a4)]) (st' := [.int (if a1 = 0 then (0 : Int32) else (2 : Int32)), .int (f_X12_needOf S2 64 (gI S2 64 20))]) ?_ (fun Jc3 => ?_)
  · generalize ex4 : (if a1 = 0 then (0 : Int32) else (2 : Int32)) = x4
    refine aw_iadd hC dX12_doTick_36 ?_
    refine aw_istore hC [(5, .int _), (0, .ref 64), (1, .int _), (2, .int _), (3, .int _), (4, .int _)] dX12_doTick_37 (by decide) rfl ?_
    generalize ex5 : ((f_X12_needOf S2 64 (gI S2 64 20)) + x4) = x5
    refine aw_aload_n hC 1 dX12_doTick_39 rfl rfl ?_
    refine aw_getI hC hSt 21 (ms_lt 64 (by decide) hM) (ms_k 64 12 0 (by decide) hM) rfl (by decide) w_1033 rfl dX12_doTick_40 ?_
    refine aw_iload hC 0 dX12_doTick_43 rfl ?_
    refine aw_cut (S' := S2) (pc' := 53) (lv' := [(5, .int x5), (0, .ref 64), (1, .int a1), (2, .int a2), (3, .int a3), (4, .int a4)]) (st' := [.int (if (gI S2 64 21) < x5 then (0 : Int32) else (1 : Int32))]) ?_ (fun Jc6 => ?_)
    · generalize ex7 : (if (gI S2 64 21) < x5 then (0 : Int32) else (1 : Int32)) = x7
      refine aw_istore hC [(6, .int _), (5, .int _), (0, .ref 64), (1, .int _), (2, .int _), (3, .int _), (4, .int _)] dX12_doTick_53 (by decide) rfl ?_
      refine aw_aload_n hC 2 dX12_doTick_55 rfl rfl ?_
      refine aw_iconst (v := 0) hC dX12_doTick_56 (by decide) ?_
      refine aw_cV1r hC hSt (t_X12_ropeOf G l hM _ (h1 S1 eS1 S2 eS2 x4 ex4 x5 ex5 x7 ex7)) w_1092 w_1095 w_1096 w_1097 w_953 rfl rfl (by decide +kernel) ⟨Nat.le_of_ble_eq_true rfl, Nat.le_of_ble_eq_true rfl⟩ (ms_lt 64 (by decide) hM) (ms_k 64 12 0 (by decide) hM) rfl (Nat.le_of_ble_eq_true rfl) dX12_doTick_57 ⟨Nat.zero_le _, Nat.zero_le _⟩ ?_
      refine aw_iconst (v := 2) hC dX12_doTick_60 (by decide) ?_
      refine aw_idiv hC dX12_doTick_61 (by decide) ?_
      refine aw_istore hC [(7, .int _), (6, .int _), (5, .int _), (0, .ref 64), (1, .int _), (2, .int _), (3, .int _), (4, .int _)] dX12_doTick_62 (by decide) rfl ?_
      generalize ex8 : ((f_X12_ropeOf S2 64 (0 : Int32)) / (2 : Int32)) = x8
      refine aw_iload hC 1 dX12_doTick_64 rfl ?_
      refine aw_cut (S' := (if x7 = 0 then (bd ((if a1 = 0 then (5 : Int32) else (3 : Int32))) fun x11 => bd ((sI S2 64 20 ((gI S2 64 20) - (x11 * (x5 - (gI S2 64 21)))))) fun S12 => bd ((if 0 ≤ (gI S12 64 20) then (gI S12 64 20) else (0 : Int32))) fun x14 => bd ((sI S12 64 20 x14)) fun S15 => S15) else (bd ((sI S2 64 20 ((gI S2 64 20) + ((a3 * (gI S2 64 21)) / (8 : Int32))))) fun S16 => bd ((if (gI S16 64 20) ≤ x8 then (gI S16 64 20) else x8)) fun x18 => bd ((sI S16 64 20 x18)) fun S19 => S19))) (pc' := 157) (lv' := [(7, .int x8), (6, .int x7), (5, .int x5), (0, .ref 64), (1, .int a1), (2, .int a2), (3, .int a3), (4, .int a4)]) (st' := []) ?_ (fun Jc9 => ?_)
      · generalize eS20 : (if x7 = 0 then (bd ((if a1 = 0 then (5 : Int32) else (3 : Int32))) fun x11 => bd ((sI S2 64 20 ((gI S2 64 20) - (x11 * (x5 - (gI S2 64 21)))))) fun S12 => bd ((if 0 ≤ (gI S12 64 20) then (gI S12 64 20) else (0 : Int32))) fun x14 => bd ((sI S12 64 20 x14)) fun S15 => S15) else (bd ((sI S2 64 20 ((gI S2 64 20) + ((a3 * (gI S2 64 21)) / (8 : Int32))))) fun S16 => bd ((if (gI S16 64 20) ≤ x8 then (gI S16 64 20) else x8)) fun x18 => bd ((sI S16 64 20 x18)) fun S19 => S19)) = S20
        have hM : MS S20 := MS.of (by rw [← eS20]; repeat' (first | with_reducible rfl | with_reducible refine (shp_sI _ _ _ _).trans ?_ | with_reducible refine (shp_sJ _ _ _ _).trans ?_ | with_reducible refine shi ?_ ?_ | with_reducible refine shb (fun _ _ => ?_) | (subst_vars; with_reducible rfl) | (subst_vars; with_reducible refine (shp_sI _ _ _ _).trans ?_) | (subst_vars; with_reducible refine (shp_sJ _ _ _ _).trans ?_) | (subst_vars; with_reducible refine shi ?_ ?_) | (subst_vars; with_reducible refine shb (fun _ _ => ?_)))) hM
        refine aw_iload hC 7 dX12_doTick_157 rfl ?_
        refine aw_ldc (v := -1000000) hC w_923 dX12_doTick_159 ?_
        refine aw_cut (S' := S20) (pc' := 175) (lv' := [(7, .int x8), (6, .int x7), (5, .int x5), (0, .ref 64), (1, .int a1), (2, .int a2), (3, .int a3), (4, .int a4)]) (st' := [.int (if a4 = (-1000000 : Int32) then (0 : Int32) else ((gI S20 64 21) - a4))]) ?_ (fun Jc21 => ?_)
        · generalize ex22 : (if a4 = (-1000000 : Int32) then (0 : Int32) else ((gI S20 64 21) - a4)) = x22
          refine aw_istore hC [(8, .int _), (7, .int _), (6, .int _), (5, .int _), (0, .ref 64), (1, .int _), (2, .int _), (3, .int _), (4, .int _)] dX12_doTick_175 (by decide) rfl ?_
          refine aw_aload_n hC 4 dX12_doTick_177 rfl rfl ?_
          refine aw_dup hC dX12_doTick_178 rfl ?_
          refine aw_getI hC hSt 22 (ms_lt 64 (by decide) hM) (ms_k 64 12 0 (by decide) hM) rfl (by decide) w_1034 rfl dX12_doTick_179 ?_
          refine aw_iload_n hC 5 dX12_doTick_182 rfl rfl ?_
          refine aw_cut (S' := S20) (pc' := 195) (lv' := [(8, .int x22), (7, .int x8), (6, .int x7), (5, .int x5), (0, .ref 64), (1, .int a1), (2, .int a2), (3, .int a3), (4, .int a4)]) (st' := [.int (if a1 = 0 then x22 else (x22 / (2 : Int32))), .int (gI S20 64 22), .ref 64]) ?_ (fun Jc23 => ?_)
          · generalize ex24 : (if a1 = 0 then x22 else (x22 / (2 : Int32))) = x24
            refine aw_iadd hC dX12_doTick_195 ?_
            refine aw_putI hC hSt 22 (ms_lt 64 (by decide) hM) (ms_k 64 12 0 (by decide) hM) rfl (by decide) w_1034 rfl rfl rfl rfl dX12_doTick_196 ?_
            generalize eS25 : (sI S20 64 22 ((gI S20 64 22) + x24)) = S25
            have hM : MS S25 := MS.of (by rw [← eS25]; exact shp_sI _ _ _ _) hM
            refine aw_aload_n hC 4 dX12_doTick_199 rfl rfl ?_
            refine aw_dup hC dX12_doTick_200 rfl ?_
            refine aw_getI hC hSt 23 (ms_lt 64 (by decide) hM) (ms_k 64 12 0 (by decide) hM) rfl (by decide) w_1035 rfl dX12_doTick_201 ?_
            refine aw_aload_n hC 4 dX12_doTick_204 rfl rfl ?_
            refine aw_getI hC hSt 21 (ms_lt 64 (by decide) hM) (ms_k 64 12 0 (by decide) hM) rfl (by decide) w_1033 rfl dX12_doTick_205 ?_
            refine aw_iadd hC dX12_doTick_208 ?_
            refine aw_putI hC hSt 23 (ms_lt 64 (by decide) hM) (ms_k 64 12 0 (by decide) hM) rfl (by decide) w_1035 rfl rfl rfl rfl dX12_doTick_209 ?_
            generalize eS26 : (sI S25 64 23 ((gI S25 64 23) + (gI S25 64 21))) = S26
            have hM : MS S26 := MS.of (by rw [← eS26]; exact shp_sI _ _ _ _) hM
            refine aw_aload_n hC 4 dX12_doTick_212 rfl rfl ?_
            refine aw_aload_n hC 4 dX12_doTick_213 rfl rfl ?_
            refine aw_getI hC hSt 22 (ms_lt 64 (by decide) hM) (ms_k 64 12 0 (by decide) hM) rfl (by decide) w_1034 rfl dX12_doTick_214 ?_
            refine aw_aload_n hC 4 dX12_doTick_217 rfl rfl ?_
            refine aw_cV0r hC hSt (t_X12_limit G l hM  (h2 S1 eS1 S2 eS2 x4 ex4 x5 ex5 x7 ex7 x8 ex8 S20 eS20 x22 ex22 x24 ex24 S25 eS25 S26 eS26)) w_1098 w_1107 w_1108 w_1109 w_953 rfl rfl (by decide +kernel) ⟨Nat.le_of_ble_eq_true rfl, Nat.le_of_ble_eq_true rfl⟩ (ms_lt 64 (by decide) hM) (ms_k 64 12 0 (by decide) hM) rfl (Nat.le_of_ble_eq_true rfl) dX12_doTick_218 ⟨Nat.zero_le _, Nat.zero_le _⟩ ?_
            refine aw_cut (S' := S26) (pc' := 241) (lv' := [(8, .int x22), (7, .int x8), (6, .int x7), (5, .int x5), (0, .ref 64), (1, .int a1), (2, .int a2), (3, .int a3), (4, .int a4)]) (st' := [.int (if (f_X12_limit S26 64) < (gI S26 64 22) then (1 : Int32) else (if (-(f_X12_limit S26 64)) ≤ (gI S26 64 22) then (0 : Int32) else (1 : Int32))), .ref 64]) ?_ (fun Jc27 => ?_)
            · generalize ex29 : (if (f_X12_limit S26 64) < (gI S26 64 22) then (1 : Int32) else (if (-(f_X12_limit S26 64)) ≤ (gI S26 64 22) then (0 : Int32) else (1 : Int32))) = x29
              refine aw_putI hC hSt 25 (ms_lt 64 (by decide) hM) (ms_k 64 12 0 (by decide) hM) rfl (by decide) w_1037 rfl rfl (Bz.n (ex29 ▸ (Bz.ite (Or.inr rfl) (Bz.ite (Or.inl rfl) (Or.inr rfl))))) (Bz.f (ex29 ▸ (Bz.ite (Or.inr rfl) (Bz.ite (Or.inl rfl) (Or.inr rfl))))) dX12_doTick_241 ?_
              generalize eS30 : (sI S26 64 25 x29) = S30
              have hM : MS S30 := MS.of (by rw [← eS30]; exact shp_sI _ _ _ _) hM
              refine aw_aload_n hC 4 dX12_doTick_244 rfl rfl ?_
              refine aw_aload_n hC 4 dX12_doTick_245 rfl rfl ?_
              refine aw_getI hC hSt 25 (ms_lt 64 (by decide) hM) (ms_k 64 12 0 (by decide) hM) rfl (by decide) w_1037 rfl dX12_doTick_246 ?_
              refine aw_cut (S' := S30) (pc' := 290) (lv' := [(8, .int x22), (7, .int x8), (6, .int x7), (5, .int x5), (0, .ref 64), (1, .int a1), (2, .int a2), (3, .int a3), (4, .int a4)]) (st' := [.int (if (gI S30 64 25) = 0 then (if (gI S30 64 20) = 0 then (3 : Int32) else (if x7 = 0 then (2 : Int32) else (if (gI S30 64 20) = x8 then (1 : Int32) else (0 : Int32)))) else (4 : Int32)), .ref 64]) ?_ (fun Jc31 => ?_)
              · generalize ex35 : (if (gI S30 64 25) = 0 then (if (gI S30 64 20) = 0 then (3 : Int32) else (if x7 = 0 then (2 : Int32) else (if (gI S30 64 20) = x8 then (1 : Int32) else (0 : Int32)))) else (4 : Int32)) = x35
                refine aw_putI hC hSt 26 (ms_lt 64 (by decide) hM) (ms_k 64 12 0 (by decide) hM) rfl (by decide) w_1038 rfl rfl rfl rfl dX12_doTick_290 ?_
                generalize eS36 : (sI S30 64 26 x35) = S36
                have hM : MS S36 := MS.of (by rw [← eS36]; exact shp_sI _ _ _ _) hM
                refine aw_vret hC dX12_doTick_293 (Nat.le_refl _) (Nat.le_refl _) ?_
                exact FP.qV ((bd_eq eS1).trans ((bd_eq eS2).trans ((bd_eq ex4).trans ((bd_eq ex5).trans ((bd_eq ex7).trans ((bd_eq ex8).trans ((bd_eq eS20).trans ((bd_eq ex22).trans ((bd_eq ex24).trans ((bd_eq eS25).trans ((bd_eq eS26).trans ((bd_eq ex29).trans ((bd_eq eS30).trans ((bd_eq ex35).trans ((bd_eq eS36).trans (rfl))))))))))))))))
              · refine aw_if_eq hC 256 dX12_doTick_249 (by decide) (fun c31 => ?_) (fun c31 => ?_)
                · refine aw_aload_n hC 4 dX12_doTick_256 rfl rfl ?_
                  refine aw_getI hC hSt 20 (ms_lt 64 (by decide) hM) (ms_k 64 12 0 (by decide) hM) rfl (by decide) w_1032 rfl dX12_doTick_257 ?_
                  refine aw_if_ne hC 267 dX12_doTick_260 (by decide) (fun c32 => ?_) (fun c32 => ?_)
                  · refine aw_iload hC 2 dX12_doTick_267 rfl ?_
                    refine aw_if_ne hC 276 dX12_doTick_269 (by decide) (fun c33 => ?_) (fun c33 => ?_)
                    · refine aw_aload_n hC 4 dX12_doTick_276 rfl rfl ?_
                      refine aw_getI hC hSt 20 (ms_lt 64 (by decide) hM) (ms_k 64 12 0 (by decide) hM) rfl (by decide) w_1032 rfl dX12_doTick_277 ?_
                      refine aw_iload hC 1 dX12_doTick_280 rfl ?_
                      refine aw_icmp_ne hC 289 dX12_doTick_282 (by decide) (fun c34 => ?_) (fun c34 => ?_)
                      · refine aw_iconst (v := 0) hC dX12_doTick_289 (by decide) ?_
                        simp only [bd_def, if_pos c31, if_neg c32, if_neg c33, if_neg c34] at Jc31 ⊢
                        exact Jc31
                      · refine aw_iconst (v := 1) hC dX12_doTick_285 (by decide) ?_
                        refine aw_goto hC 290 dX12_doTick_286 (by decide) ?_
                        simp only [bd_def, if_pos c31, if_neg c32, if_neg c33, if_pos c34] at Jc31 ⊢
                        exact Jc31
                    · refine aw_iconst (v := 2) hC dX12_doTick_272 (by decide) ?_
                      refine aw_goto hC 290 dX12_doTick_273 (by decide) ?_
                      simp only [bd_def, if_pos c31, if_neg c32, if_pos c33] at Jc31 ⊢
                      exact Jc31
                  · refine aw_iconst (v := 3) hC dX12_doTick_263 (by decide) ?_
                    refine aw_goto hC 290 dX12_doTick_264 (by decide) ?_
                    simp only [bd_def, if_pos c31, if_pos c32] at Jc31 ⊢
                    exact Jc31
                · refine aw_iconst (v := 4) hC dX12_doTick_252 (by decide) ?_
                  refine aw_goto hC 290 dX12_doTick_253 (by decide) ?_
                  simp only [bd_def, if_neg c31] at Jc31 ⊢
                  exact Jc31
            · refine aw_icmp_gt hC 236 dX12_doTick_221 (by decide) (fun c27 => ?_) (fun c27 => ?_)
              · refine aw_iconst (v := 1) hC dX12_doTick_236 (by decide) ?_
                refine aw_goto hC 241 dX12_doTick_237 (by decide) ?_
                simp only [bd_def, if_pos c27] at Jc27 ⊢
                exact Jc27
              · refine aw_aload_n hC 4 dX12_doTick_224 rfl rfl ?_
                refine aw_getI hC hSt 22 (ms_lt 64 (by decide) hM) (ms_k 64 12 0 (by decide) hM) rfl (by decide) w_1034 rfl dX12_doTick_225 ?_
                refine aw_aload_n hC 4 dX12_doTick_228 rfl rfl ?_
                refine aw_cV0r hC hSt (t_X12_limit G l hM  (h3 S1 eS1 S2 eS2 x4 ex4 x5 ex5 x7 ex7 x8 ex8 S20 eS20 x22 ex22 x24 ex24 S25 eS25 S26 eS26 c27)) w_1098 w_1107 w_1108 w_1109 w_953 rfl rfl (by decide +kernel) ⟨Nat.le_of_ble_eq_true rfl, Nat.le_of_ble_eq_true rfl⟩ (ms_lt 64 (by decide) hM) (ms_k 64 12 0 (by decide) hM) rfl (Nat.le_of_ble_eq_true rfl) dX12_doTick_229 ⟨Nat.zero_le _, Nat.zero_le _⟩ ?_
                refine aw_ineg hC dX12_doTick_232 ?_
                refine aw_icmp_ge hC 240 dX12_doTick_233 (by decide) (fun c28 => ?_) (fun c28 => ?_)
                · refine aw_iconst (v := 0) hC dX12_doTick_240 (by decide) ?_
                  simp only [bd_def, if_neg c27, if_pos c28] at Jc27 ⊢
                  exact Jc27
                · refine aw_iconst (v := 1) hC dX12_doTick_236 (by decide) ?_
                  refine aw_goto hC 241 dX12_doTick_237 (by decide) ?_
                  simp only [bd_def, if_neg c27, if_neg c28] at Jc27 ⊢
                  exact Jc27
          · refine aw_if_eq hC 193 dX12_doTick_183 (by decide) (fun c23 => ?_) (fun c23 => ?_)
            · refine aw_iload hC 0 dX12_doTick_193 rfl ?_
              simp only [bd_def, if_pos c23] at Jc23 ⊢
              exact Jc23
            · refine aw_iload hC 0 dX12_doTick_186 rfl ?_
              refine aw_iconst (v := 2) hC dX12_doTick_188 (by decide) ?_
              refine aw_idiv hC dX12_doTick_189 (by decide) ?_
              refine aw_goto hC 195 dX12_doTick_190 (by decide) ?_
              simp only [bd_def, if_neg c23] at Jc23 ⊢
              exact Jc23
        · refine aw_icmp_ne hC 168 dX12_doTick_161 (by decide) (fun c21 => ?_) (fun c21 => ?_)
          · refine aw_aload_n hC 3 dX12_doTick_168 rfl rfl ?_
            refine aw_getI hC hSt 21 (ms_lt 64 (by decide) hM) (ms_k 64 12 0 (by decide) hM) rfl (by decide) w_1033 rfl dX12_doTick_169 ?_
            refine aw_iload hC 7 dX12_doTick_172 rfl ?_
            refine aw_isub hC dX12_doTick_174 ?_
            simp only [bd_def, if_neg c21] at Jc21 ⊢
            exact Jc21
          · refine aw_iconst (v := 0) hC dX12_doTick_164 (by decide) ?_
            refine aw_goto hC 175 dX12_doTick_165 (by decide) ?_
            simp only [bd_def, if_pos c21] at Jc21 ⊢
            exact Jc21
      · refine aw_if_eq hC 112 dX12_doTick_66 (by decide) (fun c9 => ?_) (fun c9 => ?_)
        · refine aw_aload_n hC 3 dX12_doTick_112 rfl rfl ?_
          refine aw_dup hC dX12_doTick_113 rfl ?_
          refine aw_getI hC hSt 20 (ms_lt 64 (by decide) hM) (ms_k 64 12 0 (by decide) hM) rfl (by decide) w_1032 rfl dX12_doTick_114 ?_
          refine aw_iload_n hC 4 dX12_doTick_117 rfl rfl ?_
          refine aw_cut (S' := S2) (pc' := 126) (lv' := [(7, .int x8), (6, .int x7), (5, .int x5), (0, .ref 64), (1, .int a1), (2, .int a2), (3, .int a3), (4, .int a4)]) (st' := [.int (if a1 = 0 then (5 : Int32) else (3 : Int32)), .int (gI S2 64 20), .ref 64]) ?_ (fun Jc10 => ?_)
          · generalize ex11 : (if a1 = 0 then (5 : Int32) else (3 : Int32)) = x11
            refine aw_iload hC 2 dX12_doTick_126 rfl ?_
            refine aw_aload_n hC 3 dX12_doTick_128 rfl rfl ?_
            refine aw_getI hC hSt 21 (ms_lt 64 (by decide) hM) (ms_k 64 12 0 (by decide) hM) rfl (by decide) w_1033 rfl dX12_doTick_129 ?_
            refine aw_isub hC dX12_doTick_132 ?_
            refine aw_imul hC dX12_doTick_133 ?_
            refine aw_isub hC dX12_doTick_134 ?_
            refine aw_putI hC hSt 20 (ms_lt 64 (by decide) hM) (ms_k 64 12 0 (by decide) hM) rfl (by decide) w_1032 rfl rfl rfl rfl dX12_doTick_135 ?_
            generalize eS12 : (sI S2 64 20 ((gI S2 64 20) - (x11 * (x5 - (gI S2 64 21))))) = S12
            have hM : MS S12 := MS.of (by rw [← eS12]; exact shp_sI _ _ _ _) hM
            refine aw_aload_n hC 3 dX12_doTick_138 rfl rfl ?_
            refine aw_aload_n hC 3 dX12_doTick_139 rfl rfl ?_
            refine aw_getI hC hSt 20 (ms_lt 64 (by decide) hM) (ms_k 64 12 0 (by decide) hM) rfl (by decide) w_1032 rfl dX12_doTick_140 ?_
            refine aw_cut (S' := S12) (pc' := 154) (lv' := [(7, .int x8), (6, .int x7), (5, .int x5), (0, .ref 64), (1, .int a1), (2, .int a2), (3, .int a3), (4, .int a4)]) (st' := [.int (if 0 ≤ (gI S12 64 20) then (gI S12 64 20) else (0 : Int32)), .ref 64]) ?_ (fun Jc13 => ?_)
            · generalize ex14 : (if 0 ≤ (gI S12 64 20) then (gI S12 64 20) else (0 : Int32)) = x14
              refine aw_putI hC hSt 20 (ms_lt 64 (by decide) hM) (ms_k 64 12 0 (by decide) hM) rfl (by decide) w_1032 rfl rfl rfl rfl dX12_doTick_154 ?_
              generalize eS15 : (sI S12 64 20 x14) = S15
              have hM : MS S15 := MS.of (by rw [← eS15]; exact shp_sI _ _ _ _) hM
              subst eS15
              subst ex14
              subst eS12
              subst ex11
              simp only [bd_def, if_pos c9] at Jc9 ⊢
              exact Jc9
            · refine aw_if_ge hC 150 dX12_doTick_143 (by decide) (fun c13 => ?_) (fun c13 => ?_)
              · refine aw_aload_n hC 3 dX12_doTick_150 rfl rfl ?_
                refine aw_getI hC hSt 20 (ms_lt 64 (by decide) hM) (ms_k 64 12 0 (by decide) hM) rfl (by decide) w_1032 rfl dX12_doTick_151 ?_
                simp only [bd_def, if_pos c13] at Jc13 ⊢
                exact Jc13
              · refine aw_iconst (v := 0) hC dX12_doTick_146 (by decide) ?_
                refine aw_goto hC 154 dX12_doTick_147 (by decide) ?_
                simp only [bd_def, if_neg c13] at Jc13 ⊢
                exact Jc13
          · refine aw_if_eq hC 125 dX12_doTick_118 (by decide) (fun c10 => ?_) (fun c10 => ?_)
            · refine aw_iconst (v := 5) hC dX12_doTick_125 (by decide) ?_
              simp only [bd_def, if_pos c10] at Jc10 ⊢
              exact Jc10
            · refine aw_iconst (v := 3) hC dX12_doTick_121 (by decide) ?_
              refine aw_goto hC 126 dX12_doTick_122 (by decide) ?_
              simp only [bd_def, if_neg c10] at Jc10 ⊢
              exact Jc10
        · refine aw_aload_n hC 3 dX12_doTick_69 rfl rfl ?_
          refine aw_dup hC dX12_doTick_70 rfl ?_
          refine aw_getI hC hSt 20 (ms_lt 64 (by decide) hM) (ms_k 64 12 0 (by decide) hM) rfl (by decide) w_1032 rfl dX12_doTick_71 ?_
          refine aw_iload_n hC 6 dX12_doTick_74 rfl rfl ?_
          refine aw_aload_n hC 3 dX12_doTick_75 rfl rfl ?_
          refine aw_getI hC hSt 21 (ms_lt 64 (by decide) hM) (ms_k 64 12 0 (by decide) hM) rfl (by decide) w_1033 rfl dX12_doTick_76 ?_
          refine aw_imul hC dX12_doTick_79 ?_
          refine aw_bipush (v := 8) hC dX12_doTick_80 (by decide) ?_
          refine aw_idiv hC dX12_doTick_82 (by decide) ?_
          refine aw_iadd hC dX12_doTick_83 ?_
          refine aw_putI hC hSt 20 (ms_lt 64 (by decide) hM) (ms_k 64 12 0 (by decide) hM) rfl (by decide) w_1032 rfl rfl rfl rfl dX12_doTick_84 ?_
          generalize eS16 : (sI S2 64 20 ((gI S2 64 20) + ((a3 * (gI S2 64 21)) / (8 : Int32)))) = S16
          have hM : MS S16 := MS.of (by rw [← eS16]; exact shp_sI _ _ _ _) hM
          refine aw_aload_n hC 3 dX12_doTick_87 rfl rfl ?_
          refine aw_aload_n hC 3 dX12_doTick_88 rfl rfl ?_
          refine aw_getI hC hSt 20 (ms_lt 64 (by decide) hM) (ms_k 64 12 0 (by decide) hM) rfl (by decide) w_1032 rfl dX12_doTick_89 ?_
          refine aw_iload hC 0 dX12_doTick_92 rfl ?_
          refine aw_cut (S' := S16) (pc' := 106) (lv' := [(7, .int x8), (6, .int x7), (5, .int x5), (0, .ref 64), (1, .int a1), (2, .int a2), (3, .int a3), (4, .int a4)]) (st' := [.int (if (gI S16 64 20) ≤ x8 then (gI S16 64 20) else x8), .ref 64]) ?_ (fun Jc17 => ?_)
          · generalize ex18 : (if (gI S16 64 20) ≤ x8 then (gI S16 64 20) else x8) = x18
            refine aw_putI hC hSt 20 (ms_lt 64 (by decide) hM) (ms_k 64 12 0 (by decide) hM) rfl (by decide) w_1032 rfl rfl rfl rfl dX12_doTick_106 ?_
            generalize eS19 : (sI S16 64 20 x18) = S19
            have hM : MS S19 := MS.of (by rw [← eS19]; exact shp_sI _ _ _ _) hM
            refine aw_goto hC 157 dX12_doTick_109 (by decide) ?_
            subst eS19
            subst ex18
            subst eS16
            simp only [bd_def, if_neg c9] at Jc9 ⊢
            exact Jc9
          · refine aw_icmp_le hC 102 dX12_doTick_94 (by decide) (fun c17 => ?_) (fun c17 => ?_)
            · refine aw_aload_n hC 3 dX12_doTick_102 rfl rfl ?_
              refine aw_getI hC hSt 20 (ms_lt 64 (by decide) hM) (ms_k 64 12 0 (by decide) hM) rfl (by decide) w_1032 rfl dX12_doTick_103 ?_
              simp only [bd_def, if_pos c17] at Jc17 ⊢
              exact Jc17
            · refine aw_iload hC 0 dX12_doTick_97 rfl ?_
              refine aw_goto hC 106 dX12_doTick_99 (by decide) ?_
              simp only [bd_def, if_neg c17] at Jc17 ⊢
              exact Jc17
    · refine aw_icmp_lt hC 52 dX12_doTick_45 (by decide) (fun c6 => ?_) (fun c6 => ?_)
      · refine aw_iconst (v := 0) hC dX12_doTick_52 (by decide) ?_
        simp only [bd_def, if_pos c6] at Jc6 ⊢
        exact Jc6
      · refine aw_iconst (v := 1) hC dX12_doTick_48 (by decide) ?_
        refine aw_goto hC 53 dX12_doTick_49 (by decide) ?_
        simp only [bd_def, if_neg c6] at Jc6 ⊢
        exact Jc6
  · refine aw_if_eq hC 35 dX12_doTick_28 (by decide) (fun c3 => ?_) (fun c3 => ?_)
    · refine aw_iconst (v := 0) hC dX12_doTick_35 (by decide) ?_
      simp only [bd_def, if_pos c3] at Jc3 ⊢
      exact Jc3
    · refine aw_iconst (v := 2) hC dX12_doTick_31 (by decide) ?_
      refine aw_goto hC 36 dX12_doTick_32 (by decide) ?_
      simp only [bd_def, if_neg c3] at Jc3 ⊢
      exact Jc3
theorem q_X12_doTick (S : HSt) (_o : Nat) (a1 : Int32) (a2 : Int32) (a3 : Int32) (a4 : Int32) : shp (f_X12_doTick S _o a1 a2 a3 a4) = shp S := by
  unfold f_X12_doTick
  repeat' (first | with_reducible rfl | with_reducible refine (shp_sI _ _ _ _).trans ?_ | with_reducible refine (shp_sJ _ _ _ _).trans ?_ | with_reducible refine shi ?_ ?_ | with_reducible refine shb (fun _ _ => ?_) | (subst_vars; with_reducible rfl) | (subst_vars; with_reducible refine (shp_sI _ _ _ _).trans ?_) | (subst_vars; with_reducible refine (shp_sJ _ _ _ _).trans ?_) | (subst_vars; with_reducible refine shi ?_ ?_) | (subst_vars; with_reducible refine shb (fun _ _ => ?_)))
theorem v_X12_doTick (S : HSt) (_o : Nat) (a1 : Int32) (a2 : Int32) (a3 : Int32) (a4 : Int32) : Fr [(64, 20), (64, 21), (64, 22), (64, 23), (64, 24), (64, 25), (64, 26)] S (f_X12_doTick S _o a1 a2 a3 a4) := by
  unfold f_X12_doTick
  repeat' (first | with_reducible exact Fr.refl _ _ | with_reducible refine Fr.l1 (fun _ _ => ?_) | with_reducible refine Fr.ite ?_ ?_ | with_reducible refine Fr.sE (by assumption) (by first | decide | simp only [List.mem_cons, List.not_mem_nil, or_false, true_or, or_true, eq_self_iff_true]) ?_ | with_reducible refine Fr.jE (by assumption) ?_ | with_reducible refine Fr.rE (by assumption) (by first | decide | simp only [List.mem_cons, List.not_mem_nil, or_false, true_or, or_true, eq_self_iff_true]) ?_ | with_reducible refine Fr.iE (by assumption) ?_ ?_)
theorem w_X12_doTick (S : HSt) (_o : Nat) (a1 : Int32) (a2 : Int32) (a3 : Int32) (a4 : Int32) (r : HSt) (e : f_X12_doTick S _o a1 a2 a3 a4 = r) : Fr [(64, 20), (64, 21), (64, 22), (64, 23), (64, 24), (64, 25), (64, 26)] S r := by
  rw [← e]
  exact v_X12_doTick S _o a1 a2 a3 a4