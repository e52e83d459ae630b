noncomputable def f_X12_shut (S : HSt) (_o : Nat)  : HSt := bd ((sI S 64 20 (20 : Int32))) fun S1 => bd ((sI S1 64 21 (0 : Int32))) fun S2 => bd ((sI S2 64 22 (0 : Int32))) fun S3 => bd ((sI S3 64 25 (0 : Int32))) fun S4 => bd ((sI S4 64 24 ((gI S4 64 24) + (1 : Int32)))) fun S5 => bd ((sI S5 64 26 (-1000000 : Int32))) fun S6 => S6
set_option maxRecDepth 100000 in
theorem t_X12_shut (G : GG) (l : Launch) {S : HSt} (hM : MS S)   : AM G l yX12_shut cX12_shut 1 none (rmD 0 0 0) 0 0 [.ref 64] S (FP none (f_X12_shut S 64)) := by
  refine AM.mk (by decide) (Nat.le_of_ble_eq_true rfl) ?_
  intro p e s m below meth c hC hSt _
  refine aw_aload_n hC 0 dX12_shut_0 rfl rfl ?_
  refine aw_bipush (v := 20) hC dX12_shut_1 (by decide) ?_
  refine aw_putI hC hSt 20 (ms_lt 64 (by decide) hM) (ms_k 64 12 0 (by decide) hM) rfl (by decide) w_1032 rfl rfl rfl rfl dX12_shut_3 ?_
  generalize eS1 : (sI S 64 20 (20 : Int32)) = S1
  have hM : MS S1 := MS.of (by rw [← eS1]; exact shp_sI _ _ _ _) hM
  refine aw_aload_n hC 0 dX12_shut_6 rfl rfl ?_
  refine aw_iconst (v := 0) hC dX12_shut_7 (by decide) ?_
  refine aw_putI hC hSt 21 (ms_lt 64 (by decide) hM) (ms_k 64 12 0 (by decide) hM) rfl (by decide) w_1033 rfl rfl rfl rfl dX12_shut_8 ?_
  generalize eS2 : (sI S1 64 21 (0 : Int32)) = S2
  have hM : MS S2 := MS.of (by rw [← eS2]; exact shp_sI _ _ _ _) hM
  refine aw_aload_n hC 0 dX12_shut_11 rfl rfl ?_
  refine aw_iconst (v := 0) hC dX12_shut_12 (by decide) ?_
  refine aw_putI hC hSt 22 (ms_lt 64 (by decide) hM) (ms_k 64 12 0 (by decide) hM) rfl (by decide) w_1034 rfl rfl rfl rfl dX12_shut_13 ?_
  generalize eS3 : (sI S2 64 22 (0 : Int32)) = S3
  have hM : MS S3 := MS.of (by rw [← eS3]; exact shp_sI _ _ _ _) hM
  refine aw_aload_n hC 0 dX12_shut_16 rfl rfl ?_
  refine aw_iconst (v := 0) hC dX12_shut_17 (by decide) ?_
  refine aw_putI hC hSt 25 (ms_lt 64 (by decide) hM) (ms_k 64 12 0 (by decide) hM) rfl (by decide) w_1037 rfl rfl (by decide) (by decide) dX12_shut_18 ?_
  generalize eS4 : (sI S3 64 25 (0 : Int32)) = S4
  have hM : MS S4 := MS.of (by rw [← eS4]; exact shp_sI _ _ _ _) hM
  refine aw_aload_n hC 0 dX12_shut_21 rfl rfl ?_
  refine aw_dup hC dX12_shut_22 rfl ?_
  refine aw_getI hC hSt 24 (ms_lt 64 (by decide) hM) (ms_k 64 12 0 (by decide) hM) rfl (by decide) w_1036 rfl dX12_shut_23 ?_
  refine aw_iconst (v := 1) hC dX12_shut_26 (by decide) ?_
  refine aw_iadd hC dX12_shut_27 ?_
  refine aw_putI hC hSt 24 (ms_lt 64 (by decide) hM) (ms_k 64 12 0 (by decide) hM) rfl (by decide) w_1036 rfl rfl rfl rfl dX12_shut_28 ?_
  generalize eS5 : (sI S4 64 24 ((gI S4 64 24) + (1 : Int32))) = S5
  have hM : MS S5 := MS.of (by rw [← eS5]; exact shp_sI _ _ _ _) hM
  refine aw_aload_n hC 0 dX12_shut_31 rfl rfl ?_
  refine aw_ldc (v := -1000000) hC w_923 dX12_shut_32 ?_
  refine aw_putI hC hSt 26 (ms_lt 64 (by decide) hM) (ms_k 64 12 0 (by decide) hM) rfl (by decide) w_1038 rfl rfl rfl rfl dX12_shut_34 ?_
  generalize eS6 : (sI S5 64 26 (-1000000 : Int32)) = S6
  have hM : MS S6 := MS.of (by rw [← eS6]; exact shp_sI _ _ _ _) hM
  refine aw_vret hC dX12_shut_37 (Nat.le_refl _) (Nat.le_refl _) ?_
  exact FP.qV ((bd_eq eS1).trans ((bd_eq eS2).trans ((bd_eq eS3).trans ((bd_eq eS4).trans ((bd_eq eS5).trans ((bd_eq eS6).trans (rfl)))))))
theorem q_X12_shut (S : HSt) (_o : Nat)  : shp (f_X12_shut S _o) = shp S := by
  unfold f_X12_shut
  repeat' (first | with_reducible rfl | with_reducible refine (shp_sI _ _ _ _).trans ?_ | with_reducible refine (shp_sJ _ _ _ _).trans ?_ | with_reducible refine shi ?_ ?_ | with_reducible refine shb (fun _ _ => ?_) | (subst_vars; with_reducible rfl) | (subst_vars; with_reducible refine (shp_sI _ _ _ _).trans ?_) | (subst_vars; with_reducible refine (shp_sJ _ _ _ _).trans ?_) | (subst_vars; with_reducible refine shi ?_ ?_) | (subst_vars; with_reducible refine shb (fun _ _ => ?_)))
theorem v_X12_shut (S : HSt) (_o : Nat)  : Fr [(64, 20), (64, 21), (64, 22), (64, 24), (64, 25), (64, 26)] S (f_X12_shut S _o) := by
  unfold f_X12_shut
  repeat' (first | with_reducible exact Fr.refl _ _ | with_reducible refine Fr.l1 (fun _ _ => ?_) | with_reducible refine Fr.ite ?_ ?_ | with_reducible refine Fr.sE (by assumption) (by first | decide | simp only [List.mem_cons, List.not_mem_nil, or_false, true_or, or_true, eq_self_iff_true]) ?_ | with_reducible refine Fr.jE (by assumption) ?_ | with_reducible refine Fr.rE (by assumption) (by first | decide | simp only [List.mem_cons, List.not_mem_nil, or_false, true_or, or_true, eq_self_iff_true]) ?_ | with_reducible refine Fr.iE (by assumption) ?_ ?_)
theorem w_X12_shut (S : HSt) (_o : Nat)  (r : HSt) (e : f_X12_shut S _o = r) : Fr [(64, 20), (64, 21), (64, 22), (64, 24), (64, 25), (64, 26)] S r := by
  rw [← e]
  exact v_X12_shut S _o
noncomputable def f_X12_doClose (S : HSt) (_o : Nat)  : HSt := bd (f_X12_shut S 64) fun r1 => bd ((sI r1 64 23 ((gI r1 64 23) / (2 : Int32)))) fun S2 => S2
set_option maxRecDepth 100000 in
theorem t_X12_doClose (G : GG) (l : Launch) {S : HSt} (hM : MS S)   : AM G l yX12_doClose cX12_doClose 1 none (rmD 1 0 0) 0 0 [.ref 64] S (FP none (f_X12_doClose S 64)) := by
  refine AM.mk (by decide) (Nat.le_of_ble_eq_true rfl) ?_
  intro p e s m below meth c hC hSt _
  refine aw_aload_n hC 0 dX12_doClose_0 rfl rfl ?_
  refine aw_cV0v hC hSt (t_X12_shut G l hM ) w_1111 w_1113 w_1114 w_1115 w_953 rfl rfl (by decide +kernel) ⟨Nat.le_of_ble_eq_true rfl, Nat.le_of_ble_eq_true rfl⟩ (ms_lt 64 (by decide) hM) (ms_k 64 12 0 (by decide) hM) rfl (Nat.le_of_ble_eq_true rfl) dX12_doClose_1 ⟨Nat.zero_le _, Nat.zero_le _⟩ ?_
  generalize er1 : f_X12_shut S 64 = r1
  have hM : MS r1 := MS.of (by rw [← er1]; exact q_X12_shut _ _) hM
  refine aw_aload_n hC 0 dX12_doClose_4 rfl rfl ?_
  refine aw_dup hC dX12_doClose_5 rfl ?_
  refine aw_getI hC hSt 23 (ms_lt 64 (by decide) hM) (ms_k 64 12 0 (by decide) hM) rfl (by decide) w_1035 rfl dX12_doClose_6 ?_
  refine aw_iconst (v := 2) hC dX12_doClose_9 (by decide) ?_
  refine aw_idiv hC dX12_doClose_10 (by decide) ?_
  refine aw_putI hC hSt 23 (ms_lt 64 (by decide) hM) (ms_k 64 12 0 (by decide) hM) rfl (by decide) w_1035 rfl rfl rfl rfl dX12_doClose_11 ?_
  generalize eS2 : (sI r1 64 23 ((gI r1 64 23) / (2 : Int32))) = S2
  have hM : MS S2 := MS.of (by rw [← eS2]; exact shp_sI _ _ _ _) hM
  refine aw_vret hC dX12_doClose_14 (Nat.le_refl _) (Nat.le_refl _) ?_
  exact FP.qV ((bd_eq er1).trans ((bd_eq eS2).trans (rfl)))
theorem q_X12_doClose (S : HSt) (_o : Nat)  : shp (f_X12_doClose S _o) = shp S := by
  unfold f_X12_doClose
  repeat' (first | with_reducible rfl | with_reducible refine (q_X12_shut _ _).trans ?_ | with_reducible refine (shp_sI _ _ _ _).trans ?_ | with_reducible refine (shp_sJ _ _ _ _).trans ?_ | with_reducible refine shi ?_ ?_ | with_reducible refine shb (fun _ _ => ?_) | (subst_vars; with_reducible rfl) | (subst_vars; with_reducible refine (q_X12_shut _ _).trans ?_) | (subst_vars; with_reducible refine (shp_sI _ _ _ _).trans ?_) | (subst_vars; with_reducible refine (shp_sJ _ _ _ _).trans ?_) | (subst_vars; with_reducible refine shi ?_ ?_) | (subst_vars; with_reducible refine shb (fun _ _ => ?_)))
theorem v_X12_doClose (S : HSt) (_o : Nat)  : Fr [(64, 20), (64, 21), (64, 22), (64, 23), (64, 24), (64, 25), (64, 26)] S (f_X12_doClose S _o) := by
  unfold f_X12_doClose
  repeat' (first | with_reducible exact Fr.refl _ _ | with_reducible refine Fr.l1 (fun _ _ => ?_) | with_reducible refine Fr.ite ?_ ?_ | with_reducible refine Fr.sE (by assumption) (by first | decide | simp only [List.mem_cons, List.not_mem_nil, or_false, true_or, or_true, eq_self_iff_true]) ?_ | with_reducible refine Fr.jE (by assumption) ?_ | with_reducible refine Fr.rE (by assumption) (by first | decide | simp only [List.mem_cons, List.not_mem_nil, or_false, true_or, or_true, eq_self_iff_true]) ?_ | with_reducible refine Fr.iE (by assumption) ?_ ?_ | with_reducible refine Fr.tr (w_X12_shut _ _ _ (by assumption)) (by first | decide | simp only [List.mem_cons, List.not_mem_nil, or_false, forall_eq_or_imp, forall_eq, true_or, or_true, and_self, eq_self_iff_true]) ?_)
theorem w_X12_doClose (S : HSt) (_o : Nat)  (r : HSt) (e : f_X12_doClose S _o = r) : Fr [(64, 20), (64, 21), (64, 22), (64, 23), (64, 24), (64, 25), (64, 26)] S r := by
  rw [← e]
  exact v_X12_doClose S _o
noncomputable def f_X12_missBy (S : HSt) (_o : Nat) (a1 : Int32) (a2 : Int32) (a3 : Int32) : Int32 × HSt := if (f_X12_isStill S 64) = 0 then (bd ((if (f_X12_beast S 64 a2 (0 : Int32)) ≤ (f_X12_horseOf S 64 (1 : Int32)) then (f_X12_beast S 64 a2 (0 : Int32)) else (f_X12_horseOf S 64 (1 : Int32)))) fun x3 => bd (((f_X12_beast S 64 a2 (0 : Int32)) - ((f_X12_horseOf S 64 (0 : Int32)) * (gI S 64 24)))) fun x4 => bd ((if x3 ≤ x4 then x4 else x3)) fun x6 => bd ((a3 - (f_X12_beast S 64 a2 (1 : Int32)))) fun x7 => bd ((if x7 ≤ 0 then (if x7 = 0 then (if x6 = 0 then (1 : Int32) else (31 : Int32)) else (31 : Int32)) else (((x6 + x7) - (1 : Int32)) / x7))) fun x11 => bd ((if (1 : Int32) ≤ x11 then x11 else (1 : Int32))) fun x13 => if x13 ≤ (30 : Int32) then (bd ((sI S 64 28 x13)) fun S15 => bd ((if a1 = 0 then (((gI S15 64 20) - ((6 : Int32) * x13)) - (f_X12_beast S15 64 a2 (2 : Int32))) else (((gI S15 64 20) - ((4 : Int32) * x13)) - ((f_X12_beast S15 64 a2 (2 : Int32)) / (2 : Int32))))) fun x17 => bd ((if 0 ≤ x17 then ((-x17) - (1 : Int32)) else (-x17))) fun x19 => pr (x19) (S15)) else (pr ((500 : Int32)) (S))) else (pr ((999 : Int32)) (S))
def p_X12_missBy (S : HSt) (_o : Nat) (a1 : Int32) (a2 : Int32) (a3 : Int32) : Prop := (((f_X12_isStill S 64) = 0) → p_X12_horseOf S 64 (1 : Int32)) ∧ (((f_X12_isStill S 64) = 0) → p_X12_beast S 64 a2 (0 : Int32)) ∧ (((f_X12_isStill S 64) = 0) → ((f_X12_beast S 64 a2 (0 : Int32)) ≤ (f_X12_horseOf S 64 (1 : Int32))) → p_X12_beast S 64 a2 (0 : Int32)) ∧ (((f_X12_isStill S 64) = 0) → (¬ (f_X12_beast S 64 a2 (0 : Int32)) ≤ (f_X12_horseOf S 64 (1 : Int32))) → p_X12_horseOf S 64 (1 : Int32)) ∧ (((f_X12_isStill S 64) = 0) → ∀ x3 : Int32, (if (f_X12_beast S 64 a2 (0 : Int32)) ≤ (f_X12_horseOf S 64 (1 : Int32)) then (f_X12_beast S 64 a2 (0 : Int32)) else (f_X12_horseOf S 64 (1 : Int32))) = x3 → p_X12_beast S 64 a2 (0 : Int32)) ∧ (((f_X12_isStill S 64) = 0) → ∀ x3 : Int32, (if (f_X12_beast S 64 a2 (0 : Int32)) ≤ (f_X12_horseOf S 64 (1 : Int32)) then (f_X12_beast S 64 a2 (0 : Int32)) else (f_X12_horseOf S 64 (1 : Int32))) = x3 → p_X12_horseOf S 64 (0 : Int32)) ∧ (((f_X12_isStill S 64) = 0) → ∀ x3 : Int32, (if (f_X12_beast S 64 a2 (0 : Int32)) ≤ (f_X12_horseOf S 64 (1 : Int32)) then (f_X12_beast S 64 a2 (0 : Int32)) else (f_X12_horseOf S 64 (1 : Int32))) = x3 → ∀ x4 : Int32, ((f_X12_beast S 64 a2 (0 : Int32)) - ((f_X12_horseOf S 64 (0 : Int32)) * (gI S 64 24))) = x4 → ∀ x6 : Int32, (if x3 ≤ x4 then x4 else x3) = x6 → p_X12_beast S 64 a2 (1 : Int32)) ∧ (((f_X12_isStill S 64) = 0) → ∀ x3 : Int32, (if (f_X12_beast S 64 a2 (0 : Int32)) ≤ (f_X12_horseOf S 64 (1 : Int32)) then (f_X12_beast S 64 a2 (0 : Int32)) else (f_X12_horseOf S 64 (1 : Int32))) = x3 → ∀ x4 : Int32, ((f_X12_beast S 64 a2 (0 : Int32)) - ((f_X12_horseOf S 64 (0 : Int32)) * (gI S 64 24))) = x4 → ∀ x6 : Int32, (if x3 ≤ x4 then x4 else x3) = x6 → ∀ x7 : Int32, (a3 - (f_X12_beast S 64 a2 (1 : Int32))) = x7 → (¬ x7 ≤ 0) → ¬ x7 = 0) ∧ (((f_X12_isStill S 64) = 0) → ∀ x3 : Int32, (if (f_X12_beast S 64 a2 (0 : Int32)) ≤ (f_X12_horseOf S 64 (1 : Int32)) then (f_X12_beast S 64 a2 (0 : Int32)) else (f_X12_horseOf S 64 (1 : Int32))) = x3 → ∀ x4 : Int32, ((f_X12_beast S 64 a2 (0 : Int32)) - ((f_X12_horseOf S 64 (0 : Int32)) * (gI S 64 24))) = x4 → ∀ x6 : Int32, (if x3 ≤ x4 then x4 else x3) = x6 → ∀ x7 : Int32, (a3 - (f_X12_beast S 64 a2 (1 : Int32))) = x7 → ∀ x11 : Int32, (if x7 ≤ 0 then (if x7 = 0 then (if x6 = 0 then (1 : Int32) else (31 : Int32)) else (31 : Int32)) else (((x6 + x7) - (1 : Int32)) / x7)) = x11 → ∀ x13 : Int32, (if (1 : Int32) ≤ x11 then x11 else (1 : Int32)) = x13 → (x13 ≤ (30 : Int32)) → ∀ S15 : HSt, (sI S 64 28 x13) = S15 → (a1 = 0) → p_X12_beast S15 64 a2 (2 : Int32)) ∧ (((f_X12_isStill S 64) = 0) → ∀ x3 : Int32, (if (f_X12_beast S 64 a2 (0 : Int32)) ≤ (f_X12_horseOf S 64 (1 : Int32)) then (f_X12_beast S 64 a2 (0 : Int32)) else (f_X12_horseOf S 64 (1 : Int32))) = x3 → ∀ x4 : Int32, ((f_X12_beast S 64 a2 (0 : Int32)) - ((f_X12_horseOf S 64 (0 : Int32)) * (gI S 64 24))) = x4 → ∀ x6 : Int32, (if x3 ≤ x4 then x4 else x3) = x6 → ∀ x7 : Int32, (a3 - (f_X12_beast S 64 a2 (1 : Int32))) = x7 → ∀ x11 : Int32, (if x7 ≤ 0 then (if x7 = 0 then (if x6 = 0 then (1 : Int32) else (31 : Int32)) else (31 : Int32)) else (((x6 + x7) - (1 : Int32)) / x7)) = x11 → ∀ x13 : Int32, (if (1 : Int32) ≤ x11 then x11 else (1 : Int32)) = x13 → (x13 ≤ (30 : Int32)) → ∀ S15 : HSt, (sI S 64 28 x13) = S15 → (¬ a1 = 0) → p_X12_beast S15 64 a2 (2 : Int32))
set_option maxRecDepth 100000 in
theorem t_X12_missBy (G : GG) (l : Launch) {S : HSt} (hM : MS S) (a1 : Int32) (a2 : Int32) (a3 : Int32) (hp : p_X12_missBy S 64 a1 a2 a3) : AM G l yX12_missBy cX12_missBy 9 (some .int) (rmD 1 0 0) 0 0 [.ref 64, .int a1, .int a2, .int a3] S (FP (some (.int (f_X12_missBy S 64 a1 a2 a3).1)) ((f_X12_missBy S 64 a1 a2 a3).2)) := by
  obtain ⟨h0, h1, h2, h3, h4, h5, h6, h7, h8, h9⟩ := hp
  refine AM.mk (by decide) (Nat.le_of_ble_eq_true rfl) ?_
  intro p e s m below meth c hC hSt _
  refine aw_aload_n hC 0 dX12_missBy_0 rfl rfl ?_
  refine aw_cV0r hC hSt (t_X12_isStill G l hM ) w_1099 w_1118 w_1119 w_1120 w_953 rfl rfl (by decide +kernel) ⟨Nat.le_of_ble_eq_true rfl, Nat.le_of_ble_eq_true rfl⟩ (ms_lt 64 (by decide) hM) (ms_k 64 12 0 (by decide) hM) rfl (Nat.le_of_ble_eq_true rfl) dX12_missBy_1 ⟨Nat.zero_le _, Nat.zero_le _⟩ ?_
  refine aw_if_eq hC 11 dX12_missBy_4 (by decide) (fun c1 => ?_) (fun c1 => ?_)
  · refine aw_aload_n hC 0 dX12_missBy_11 rfl rfl ?_
    refine aw_iconst (v := 1) hC dX12_missBy_12 (by decide) ?_
    refine aw_cV1r hC hSt (t_X12_horseOf G l hM _ (h0 c1)) w_1093 w_1121 w_1122 w_1123 w_953 rfl rfl (by decide +kernel) ⟨Nat.le_of_ble_eq_true rfl, Nat.le_of_ble_eq_true rfl⟩ (ms_lt 64 (by decide) hM) (ms_k 64 12 0 (by decide) hM) rfl (Nat.le_of_ble_eq_true rfl) dX12_missBy_13 ⟨Nat.zero_le _, Nat.zero_le _⟩ ?_
    refine aw_aload_n hC 0 dX12_missBy_16 rfl rfl ?_
    refine aw_iload_n hC 2 dX12_missBy_17 rfl rfl ?_
    refine aw_iconst (v := 0) hC dX12_missBy_18 (by decide) ?_
    refine aw_cV2r hC hSt (t_X12_beast G l hM _ _ (h1 c1)) w_1082 w_1124 w_1125 w_1126 w_953 rfl rfl (by decide +kernel) ⟨Nat.le_of_ble_eq_true rfl, Nat.le_of_ble_eq_true rfl⟩ (ms_lt 64 (by decide) hM) (ms_k 64 12 0 (by decide) hM) rfl (Nat.le_of_ble_eq_true rfl) dX12_missBy_19 ⟨Nat.zero_le _, Nat.zero_le _⟩ ?_
    refine aw_cut (S' := S) (pc' := 39) (lv' := [(0, .ref 64), (1, .int a1), (2, .int a2), (3, .int a3)]) (st' := [.int (if (f_X12_beast S 64 a2 (0 : Int32)) ≤ (f_X12_horseOf S 64 (1 : Int32)) then (f_X12_beast S 64 a2 (0 : Int32)) else (f_X12_horseOf S 64 (1 : Int32)))]) ?_ (fun Jc2 => ?_)
    · generalize ex3 : (if (f_X12_beast S 64 a2 (0 : Int32)) ≤ (f_X12_horseOf S 64 (1 : Int32)) then (f_X12_beast S 64 a2 (0 : Int32)) else (f_X12_horseOf S 64 (1 : Int32))) = x3
      refine aw_istore hC [(4, .int _), (0, .ref 64), (1, .int _), (2, .int _), (3, .int _)] dX12_missBy_39 (by decide) rfl ?_
      refine aw_aload_n hC 1 dX12_missBy_41 rfl rfl ?_
      refine aw_iload_n hC 3 dX12_missBy_42 rfl rfl ?_
      refine aw_iconst (v := 0) hC dX12_missBy_43 (by decide) ?_
      refine aw_cV2r hC hSt (t_X12_beast G l hM _ _ (h4 c1 x3 ex3)) w_1082 w_1124 w_1125 w_1126 w_953 rfl rfl (by decide +kernel) ⟨Nat.le_of_ble_eq_true rfl, Nat.le_of_ble_eq_true rfl⟩ (ms_lt 64 (by decide) hM) (ms_k 64 12 0 (by decide) hM) rfl (Nat.le_of_ble_eq_true rfl) dX12_missBy_44 ⟨Nat.zero_le _, Nat.zero_le _⟩ ?_
      refine aw_aload_n hC 1 dX12_missBy_47 rfl rfl ?_
      refine aw_iconst (v := 0) hC dX12_missBy_48 (by decide) ?_
      refine aw_cV1r hC hSt (t_X12_horseOf G l hM _ (h5 c1 x3 ex3)) w_1093 w_1121 w_1122 w_1123 w_953 rfl rfl (by decide +kernel) ⟨Nat.le_of_ble_eq_true rfl, Nat.le_of_ble_eq_true rfl⟩ (ms_lt 64 (by decide) hM) (ms_k 64 12 0 (by decide) hM) rfl (Nat.le_of_ble_eq_true rfl) dX12_missBy_49 ⟨Nat.zero_le _, Nat.zero_le _⟩ ?_
      refine aw_aload_n hC 1 dX12_missBy_52 rfl rfl ?_
      refine aw_getI hC hSt 24 (ms_lt 64 (by decide) hM) (ms_k 64 12 0 (by decide) hM) rfl (by decide) w_1036 rfl dX12_missBy_53 ?_
      refine aw_imul hC dX12_missBy_56 ?_
      refine aw_isub hC dX12_missBy_57 ?_
      refine aw_istore hC [(5, .int _), (4, .int _), (0, .ref 64), (1, .int _), (2, .int _), (3, .int _)] dX12_missBy_58 (by decide) rfl ?_
      generalize ex4 : ((f_X12_beast S 64 a2 (0 : Int32)) - ((f_X12_horseOf S 64 (0 : Int32)) * (gI S 64 24))) = x4
      refine aw_iload hC 0 dX12_missBy_60 rfl ?_
      refine aw_iload hC 1 dX12_missBy_62 rfl ?_
      refine aw_cut (S' := S) (pc' := 74) (lv' := [(5, .int x4), (4, .int x3), (0, .ref 64), (1, .int a1), (2, .int a2), (3, .int a3)]) (st' := [.int (if x3 ≤ x4 then x4 else x3)]) ?_ (fun Jc5 => ?_)
      · generalize ex6 : (if x3 ≤ x4 then x4 else x3) = x6
        refine aw_istore hC [(5, .int _), (4, .int _), (0, .ref 64), (1, .int _), (2, .int _), (3, .int _)] dX12_missBy_74 (by decide) rfl ?_
        refine aw_iload_n hC 5 dX12_missBy_76 rfl rfl ?_
        refine aw_aload_n hC 2 dX12_missBy_77 rfl rfl ?_
        refine aw_iload_n hC 4 dX12_missBy_78 rfl rfl ?_
        refine aw_iconst (v := 1) hC dX12_missBy_79 (by decide) ?_
        refine aw_cV2r hC hSt (t_X12_beast G l hM _ _ (h6 c1 x3 ex3 x4 ex4 x6 ex6)) w_1082 w_1124 w_1125 w_1126 w_953 rfl rfl (by decide +kernel) ⟨Nat.le_of_ble_eq_true rfl, Nat.le_of_ble_eq_true rfl⟩ (ms_lt 64 (by decide) hM) (ms_k 64 12 0 (by decide) hM) rfl (Nat.le_of_ble_eq_true rfl) dX12_missBy_80 ⟨Nat.zero_le _, Nat.zero_le _⟩ ?_
        refine aw_isub hC dX12_missBy_83 ?_
        refine aw_istore hC [(6, .int _), (5, .int _), (4, .int _), (0, .ref 64), (1, .int _), (2, .int _), (3, .int _)] dX12_missBy_84 (by decide) rfl ?_
        generalize ex7 : (a3 - (f_X12_beast S 64 a2 (1 : Int32))) = x7
        refine aw_iload hC 0 dX12_missBy_86 rfl ?_
        refine aw_cut (S' := S) (pc' := 120) (lv' := [(6, .int x7), (5, .int x6), (4, .int x3), (0, .ref 64), (1, .int a1), (2, .int a2), (3, .int a3)]) (st' := [.int (if x7 ≤ 0 then (if x7 = 0 then (if x6 = 0 then (1 : Int32) else (31 : Int32)) else (31 : Int32)) else (((x6 + x7) - (1 : Int32)) / x7))]) ?_ (fun Jc8 => ?_)
        · generalize ex11 : (if x7 ≤ 0 then (if x7 = 0 then (if x6 = 0 then (1 : Int32) else (31 : Int32)) else (31 : Int32)) else (((x6 + x7) - (1 : Int32)) / x7)) = x11
          refine aw_istore hC [(7, .int _), (6, .int _), (5, .int _), (4, .int _), (0, .ref 64), (1, .int _), (2, .int _), (3, .int _)] dX12_missBy_120 (by decide) rfl ?_
          refine aw_iload hC 0 dX12_missBy_122 rfl ?_
          refine aw_iconst (v := 1) hC dX12_missBy_124 (by decide) ?_
          refine aw_cut (S' := S) (pc' := 134) (lv' := [(7, .int x11), (6, .int x7), (5, .int x6), (4, .int x3), (0, .ref 64), (1, .int a1), (2, .int a2), (3, .int a3)]) (st' := [.int (if (1 : Int32) ≤ x11 then x11 else (1 : Int32))]) ?_ (fun Jc12 => ?_)
          · generalize ex13 : (if (1 : Int32) ≤ x11 then x11 else (1 : Int32)) = x13
            refine aw_istore hC [(7, .int _), (6, .int _), (5, .int _), (4, .int _), (0, .ref 64), (1, .int _), (2, .int _), (3, .int _)] dX12_missBy_134 (by decide) rfl ?_
            refine aw_iload hC 0 dX12_missBy_136 rfl ?_
            refine aw_bipush (v := 30) hC dX12_missBy_138 (by decide) ?_
            refine aw_icmp_le hC 147 dX12_missBy_140 (by decide) (fun c14 => ?_) (fun c14 => ?_)
            · refine aw_aload_n hC 4 dX12_missBy_147 rfl rfl ?_
              refine aw_iload hC 0 dX12_missBy_148 rfl ?_
              refine aw_putI hC hSt 28 (ms_lt 64 (by decide) hM) (ms_k 64 12 0 (by decide) hM) rfl (by decide) w_1117 rfl rfl rfl rfl dX12_missBy_150 ?_
              generalize eS15 : (sI S 64 28 x13) = S15
              have hM : MS S15 := MS.of (by rw [← eS15]; exact shp_sI _ _ _ _) hM
              refine aw_iload_n hC 5 dX12_missBy_153 rfl rfl ?_
              refine aw_cut (S' := S15) (pc' := 195) (lv' := [(7, .int x13), (6, .int x7), (5, .int x6), (4, .int x3), (0, .ref 64), (1, .int a1), (2, .int a2), (3, .int a3)]) (st' := [.int (if a1 = 0 then (((gI S15 64 20) - ((6 : Int32) * x13)) - (f_X12_beast S15 64 a2 (2 : Int32))) else (((gI S15 64 20) - ((4 : Int32) * x13)) - ((f_X12_beast S15 64 a2 (2 : Int32)) / (2 : Int32))))]) ?_ (fun Jc16 => ?_)
              · generalize ex17 : (if a1 = 0 then (((gI S15 64 20) - ((6 : Int32) * x13)) - (f_X12_beast S15 64 a2 (2 : Int32))) else (((gI S15 64 20) - ((4 : Int32) * x13)) - ((f_X12_beast S15 64 a2 (2 : Int32)) / (2 : Int32)))) = x17
                refine aw_istore hC [(8, .int _), (7, .int _), (6, .int _), (5, .int _), (4, .int _), (0, .ref 64), (1, .int _), (2, .int _), (3, .int _)] dX12_missBy_195 (by decide) rfl ?_
                refine aw_iload hC 0 dX12_missBy_197 rfl ?_
                refine aw_cut (S' := S15) (pc' := 213) (lv' := [(8, .int x17), (7, .int x13), (6, .int x7), (5, .int x6), (4, .int x3), (0, .ref 64), (1, .int a1), (2, .int a2), (3, .int a3)]) (st' := [.int (if 0 ≤ x17 then ((-x17) - (1 : Int32)) else (-x17))]) ?_ (fun Jc18 => ?_)
                · generalize ex19 : (if 0 ≤ x17 then ((-x17) - (1 : Int32)) else (-x17)) = x19
                  refine aw_iret hC dX12_missBy_213 (Nat.le_refl _) (Nat.le_refl _) ?_
                  exact FP.qI ((if_pos c1).trans ((bd_eq ex3).trans ((bd_eq ex4).trans ((bd_eq ex6).trans ((bd_eq ex7).trans ((bd_eq ex11).trans ((bd_eq ex13).trans ((if_pos c14).trans ((bd_eq eS15).trans ((bd_eq ex17).trans ((bd_eq ex19).trans (rfl))))))))))))
                · refine aw_if_ge hC 208 dX12_missBy_199 (by decide) (fun c18 => ?_) (fun c18 => ?_)
                  · refine aw_iload hC 0 dX12_missBy_208 rfl ?_
                    refine aw_ineg hC dX12_missBy_210 ?_
                    refine aw_iconst (v := 1) hC dX12_missBy_211 (by decide) ?_
                    refine aw_isub hC dX12_missBy_212 ?_
                    simp only [bd_def, if_pos c18] at Jc18 ⊢
                    exact Jc18
                  · refine aw_iload hC 0 dX12_missBy_202 rfl ?_
                    refine aw_ineg hC dX12_missBy_204 ?_
                    refine aw_goto hC 213 dX12_missBy_205 (by decide) ?_
                    simp only [bd_def, if_neg c18] at Jc18 ⊢
                    exact Jc18
              · refine aw_if_eq hC 178 dX12_missBy_154 (by decide) (fun c16 => ?_) (fun c16 => ?_)
                · refine aw_aload_n hC 4 dX12_missBy_178 rfl rfl ?_
                  refine aw_getI hC hSt 20 (ms_lt 64 (by decide) hM) (ms_k 64 12 0 (by decide) hM) rfl (by decide) w_1032 rfl dX12_missBy_179 ?_
                  refine aw_bipush (v := 6) hC dX12_missBy_182 (by decide) ?_
                  refine aw_iload hC 0 dX12_missBy_184 rfl ?_
                  refine aw_imul hC dX12_missBy_186 ?_
                  refine aw_isub hC dX12_missBy_187 ?_
                  refine aw_aload_n hC 4 dX12_missBy_188 rfl rfl ?_
                  refine aw_iload_n hC 6 dX12_missBy_189 rfl rfl ?_
                  refine aw_iconst (v := 2) hC dX12_missBy_190 (by decide) ?_
                  refine aw_cV2r hC hSt (t_X12_beast G l hM _ _ (h8 c1 x3 ex3 x4 ex4 x6 ex6 x7 ex7 x11 ex11 x13 ex13 c14 S15 eS15 c16)) w_1082 w_1124 w_1125 w_1126 w_953 rfl rfl (by decide +kernel) ⟨Nat.le_of_ble_eq_true rfl, Nat.le_of_ble_eq_true rfl⟩ (ms_lt 64 (by decide) hM) (ms_k 64 12 0 (by decide) hM) rfl (Nat.le_of_ble_eq_true rfl) dX12_missBy_191 ⟨Nat.zero_le _, Nat.zero_le _⟩ ?_
                  refine aw_isub hC dX12_missBy_194 ?_
                  simp only [bd_def, if_pos c16] at Jc16 ⊢
                  exact Jc16
                · refine aw_aload_n hC 4 dX12_missBy_157 rfl rfl ?_
                  refine aw_getI hC hSt 20 (ms_lt 64 (by decide) hM) (ms_k 64 12 0 (by decide) hM) rfl (by decide) w_1032 rfl dX12_missBy_158 ?_
                  refine aw_iconst (v := 4) hC dX12_missBy_161 (by decide) ?_
                  refine aw_iload hC 0 dX12_missBy_162 rfl ?_
                  refine aw_imul hC dX12_missBy_164 ?_
                  refine aw_isub hC dX12_missBy_165 ?_
                  refine aw_aload_n hC 4 dX12_missBy_166 rfl rfl ?_
                  refine aw_iload_n hC 6 dX12_missBy_167 rfl rfl ?_
                  refine aw_iconst (v := 2) hC dX12_missBy_168 (by decide) ?_
                  refine aw_cV2r hC hSt (t_X12_beast G l hM _ _ (h9 c1 x3 ex3 x4 ex4 x6 ex6 x7 ex7 x11 ex11 x13 ex13 c14 S15 eS15 c16)) w_1082 w_1124 w_1125 w_1126 w_953 rfl rfl (by decide +kernel) ⟨Nat.le_of_ble_eq_true rfl, Nat.le_of_ble_eq_true rfl⟩ (ms_lt 64 (by decide) hM) (ms_k 64 12 0 (by decide) hM) rfl (Nat.le_of_ble_eq_true rfl) dX12_missBy_169 ⟨Nat.zero_le _, Nat.zero_le _⟩ ?_
                  refine aw_iconst (v := 2) hC dX12_missBy_172 (by decide) ?_
                  refine aw_idiv hC dX12_missBy_173 (by decide) ?_
                  refine aw_isub hC dX12_missBy_174 ?_
                  refine aw_goto hC 195 dX12_missBy_175 (by decide) ?_
                  simp only [bd_def, if_neg c16] at Jc16 ⊢
                  exact Jc16
            · refine aw_sipush (v := 500) hC dX12_missBy_143 (by decide) ?_
              refine aw_iret hC dX12_missBy_146 (Nat.le_refl _) (Nat.le_refl _) ?_
              exact FP.qI ((if_pos c1).trans ((bd_eq ex3).trans ((bd_eq ex4).trans ((bd_eq ex6).trans ((bd_eq ex7).trans ((bd_eq ex11).trans ((bd_eq ex13).trans ((if_neg c14).trans (rfl)))))))))
          · refine aw_icmp_ge hC 132 dX12_missBy_125 (by decide) (fun c12 => ?_) (fun c12 => ?_)
            · refine aw_iload hC 0 dX12_missBy_132 rfl ?_
              simp only [bd_def, if_pos c12] at Jc12 ⊢
              exact Jc12
            · refine aw_iconst (v := 1) hC dX12_missBy_128 (by decide) ?_
              refine aw_goto hC 134 dX12_missBy_129 (by decide) ?_
              simp only [bd_def, if_neg c12] at Jc12 ⊢
              exact Jc12
        · refine aw_if_le hC 104 dX12_missBy_88 (by decide) (fun c8 => ?_) (fun c8 => ?_)
          · refine aw_iload hC 0 dX12_missBy_104 rfl ?_
            refine aw_if_ne hC 118 dX12_missBy_106 (by decide) (fun c9 => ?_) (fun c9 => ?_)
            · refine aw_bipush (v := 31) hC dX12_missBy_118 (by decide) ?_
              simp only [bd_def, if_pos c8, if_neg c9] at Jc8 ⊢
              exact Jc8
            · refine aw_iload hC 1 dX12_missBy_109 rfl ?_
              refine aw_if_ne hC 118 dX12_missBy_111 (by decide) (fun c10 => ?_) (fun c10 => ?_)
              · refine aw_bipush (v := 31) hC dX12_missBy_118 (by decide) ?_
                simp only [bd_def, if_pos c8, if_pos c9, if_neg c10] at Jc8 ⊢
                exact Jc8
              · refine aw_iconst (v := 1) hC dX12_missBy_114 (by decide) ?_
                refine aw_goto hC 120 dX12_missBy_115 (by decide) ?_
                simp only [bd_def, if_pos c8, if_pos c9, if_pos c10] at Jc8 ⊢
                exact Jc8
          · refine aw_iload hC 1 dX12_missBy_91 rfl ?_
            refine aw_iload hC 0 dX12_missBy_93 rfl ?_
            refine aw_iadd hC dX12_missBy_95 ?_
            refine aw_iconst (v := 1) hC dX12_missBy_96 (by decide) ?_
            refine aw_isub hC dX12_missBy_97 ?_
            refine aw_iload hC 0 dX12_missBy_98 rfl ?_
            refine aw_idiv hC dX12_missBy_100 ((h7 c1 x3 ex3 x4 ex4 x6 ex6 x7 ex7 c8)) ?_
            refine aw_goto hC 120 dX12_missBy_101 (by decide) ?_
            simp only [bd_def, if_neg c8] at Jc8 ⊢
            exact Jc8
      · refine aw_icmp_ge hC 72 dX12_missBy_64 (by decide) (fun c5 => ?_) (fun c5 => ?_)
        · refine aw_iload hC 0 dX12_missBy_72 rfl ?_
          simp only [bd_def, if_pos c5] at Jc5 ⊢
          exact Jc5
        · refine aw_iload hC 1 dX12_missBy_67 rfl ?_
          refine aw_goto hC 74 dX12_missBy_69 (by decide) ?_
          simp only [bd_def, if_neg c5] at Jc5 ⊢
          exact Jc5
    · refine aw_icmp_ge hC 33 dX12_missBy_22 (by decide) (fun c2 => ?_) (fun c2 => ?_)
      · refine aw_aload_n hC 0 dX12_missBy_33 rfl rfl ?_
        refine aw_iload_n hC 2 dX12_missBy_34 rfl rfl ?_
        refine aw_iconst (v := 0) hC dX12_missBy_35 (by decide) ?_
        refine aw_cV2r hC hSt (t_X12_beast G l hM _ _ (h2 c1 c2)) w_1082 w_1124 w_1125 w_1126 w_953 rfl rfl (by decide +kernel) ⟨Nat.le_of_ble_eq_true rfl, Nat.le_of_ble_eq_true rfl⟩ (ms_lt 64 (by decide) hM) (ms_k 64 12 0 (by decide) hM) rfl (Nat.le_of_ble_eq_true rfl) dX12_missBy_36 ⟨Nat.zero_le _, Nat.zero_le _⟩ ?_
        simp only [bd_def, if_pos c2] at Jc2 ⊢
        exact Jc2
      · refine aw_aload_n hC 0 dX12_missBy_25 rfl rfl ?_
        refine aw_iconst (v := 1) hC dX12_missBy_26 (by decide) ?_
        refine aw_cV1r hC hSt (t_X12_horseOf G l hM _ (h3 c1 c2)) w_1093 w_1121 w_1122 w_1123 w_953 rfl rfl (by decide +kernel) ⟨Nat.le_of_ble_eq_true rfl, Nat.le_of_ble_eq_true rfl⟩ (ms_lt 64 (by decide) hM) (ms_k 64 12 0 (by decide) hM) rfl (Nat.le_of_ble_eq_true rfl) dX12_missBy_27 ⟨Nat.zero_le _, Nat.zero_le _⟩ ?_
        refine aw_goto hC 39 dX12_missBy_30 (by decide) ?_
        simp only [bd_def, if_neg c2] at Jc2 ⊢
        exact Jc2
  · refine aw_sipush (v := 999) hC dX12_missBy_7 (by decide) ?_
    refine aw_iret hC dX12_missBy_10 (Nat.le_refl _) (Nat.le_refl _) ?_
    exact FP.qI ((if_neg c1).trans (rfl))
theorem q_X12_missBy (S : HSt) (_o : Nat) (a1 : Int32) (a2 : Int32) (a3 : Int32) : shp ((f_X12_missBy S _o a1 a2 a3).2) = shp S := by
  unfold f_X12_missBy
  repeat' (first | with_reducible refine shpr1 ?_ | with_reducible rfl | with_reducible refine (shp_sI _ _ _ _).trans ?_ | with_reducible refine (shp_sJ _ _ _ _).trans ?_ | with_reducible refine shi ?_ ?_ | with_reducible refine shb (fun _ _ => ?_) | with_reducible refine shiP (fun q : Int32 × HSt => q.2) ?_ ?_ | with_reducible refine shbP (fun q : Int32 × HSt => q.2) (fun _ _ => ?_) | (subst_vars; with_reducible rfl) | (subst_vars; with_reducible refine (shp_sI _ _ _ _).trans ?_) | (subst_vars; with_reducible refine (shp_sJ _ _ _ _).trans ?_) | (subst_vars; with_reducible refine shi ?_ ?_) | (subst_vars; with_reducible refine shb (fun _ _ => ?_)))
theorem v_X12_missBy (S : HSt) (_o : Nat) (a1 : Int32) (a2 : Int32) (a3 : Int32) : Fr [(64, 28)] S ((f_X12_missBy S _o a1 a2 a3).2) := by
  unfold f_X12_missBy
  repeat' (first | with_reducible refine frpr1 ?_ | with_reducible exact Fr.refl _ _ | with_reducible refine Fr.lP (fun q : Int32 × HSt => q.2) (fun _ _ => ?_) | with_reducible refine Fr.iteP (fun q : Int32 × HSt => q.2) ?_ ?_ | with_reducible refine Fr.l1 (fun _ _ => ?_) | with_reducible refine Fr.ite ?_ ?_ | with_reducible refine Fr.sE (by assumption) (by first | decide | simp only [List.mem_cons, List.not_mem_nil, or_false, true_or, or_true, eq_self_iff_true]) ?_ | with_reducible refine Fr.jE (by assumption) ?_ | with_reducible refine Fr.rE (by assumption) (by first | decide | simp only [List.mem_cons, List.not_mem_nil, or_false, true_or, or_true, eq_self_iff_true]) ?_ | with_reducible refine Fr.iE (by assumption) ?_ ?_)
theorem w_X12_missBy (S : HSt) (_o : Nat) (a1 : Int32) (a2 : Int32) (a3 : Int32) (r : Int32 × HSt) (e : f_X12_missBy S _o a1 a2 a3 = r) : Fr [(64, 28)] S r.2 := by
  rw [← e]
  exact v_X12_missBy S _o a1 a2 a3
noncomputable def f_X12_oddsBy (S : HSt) (_o : Nat) (a1 : Int32) (a2 : Int32) (a3 : Int32) : Int32 × HSt := bd (f_X12_missBy S 64 a1 a2 a3) fun r1 => if r1.1 ≤ 0 then (bd ((if a1 = 0 then ((12 : Int32) - (f_X12_beast r1.2 64 a2 (4 : Int32))) else (if ((gI r1.2 64 28) - (gI r1.2 64 28) / (f_X12_beast r1.2 64 a2 (3 : Int32)) * (f_X12_beast r1.2 64 a2 (3 : Int32))) = 0 then (12 : Int32) else (4 : Int32)))) fun x5 => pr (x5) (r1.2)) else (pr ((0 : Int32)) (r1.2))
def p_X12_oddsBy (S : HSt) (_o : Nat) (a1 : Int32) (a2 : Int32) (a3 : Int32) : Prop := (p_X12_missBy S 64 a1 a2 a3) ∧ (∀ r1, f_X12_missBy S 64 a1 a2 a3 = r1 → (r1.1 ≤ 0) → (¬ a1 = 0) → p_X12_beast r1.2 64 a2 (3 : Int32)) ∧ (∀ r1, f_X12_missBy S 64 a1 a2 a3 = r1 → (r1.1 ≤ 0) → (¬ a1 = 0) → ¬ (f_X12_beast r1.2 64 a2 (3 : Int32)) = 0) ∧ (∀ r1, f_X12_missBy S 64 a1 a2 a3 = r1 → (r1.1 ≤ 0) → (a1 = 0) → p_X12_beast r1.2 64 a2 (4 : Int32))
set_option maxRecDepth 100000 in
theorem t_X12_oddsBy (G : GG) (l : Launch) {S : HSt} (hM : MS S) (a1 : Int32) (a2 : Int32) (a3 : Int32) (hp : p_X12_oddsBy S 64 a1 a2 a3) : AM G l yX12_oddsBy cX12_oddsBy 4 (some .int) (rmD 2 0 0) 0 0 [.ref 64, .int a1, .int a2, .int a3] S (FP (some (.int (f_X12_oddsBy S 64 a1 a2 a3).1)) ((f_X12_oddsBy S 64 a1 a2 a3).2)) := by
  obtain ⟨h0, h1, h2, h3⟩ := hp
  refine AM.mk (by decide) (Nat.le_of_ble_eq_true rfl) ?_
  intro p e s m below meth c hC hSt _
  refine aw_aload_n hC 0 dX12_oddsBy_0 rfl rfl ?_
  refine aw_iload_n hC 1 dX12_oddsBy_1 rfl rfl ?_
  refine aw_iload_n hC 2 dX12_oddsBy_2 rfl rfl ?_
  refine aw_iload_n hC 3 dX12_oddsBy_3 rfl rfl ?_
  refine aw_cV3r hC hSt (t_X12_missBy G l hM _ _ _ (h0)) w_1116 w_1128 w_1129 w_1130 w_953 rfl rfl (by decide +kernel) ⟨Nat.le_of_ble_eq_true rfl, Nat.le_of_ble_eq_true rfl⟩ (ms_lt 64 (by decide) hM) (ms_k 64 12 0 (by decide) hM) rfl (Nat.le_of_ble_eq_true rfl) dX12_oddsBy_4 ⟨Nat.zero_le _, Nat.zero_le _⟩ ?_
  generalize er1 : f_X12_missBy S 64 a1 a2 a3 = r1
  have hM : MS r1.2 := MS.of (by rw [← er1]; exact q_X12_missBy _ _ _ _ _) hM
  refine aw_if_le hC 12 dX12_oddsBy_7 (by decide) (fun c2 => ?_) (fun c2 => ?_)
  · refine aw_iload_n hC 1 dX12_oddsBy_12 rfl rfl ?_
    refine aw_cut (S' := r1.2) (pc' := 48) (lv' := [(0, .ref 64), (1, .int a1), (2, .int a2), (3, .int a3)]) (st' := [.int (if a1 = 0 then ((12 : Int32) - (f_X12_beast r1.2 64 a2 (4 : Int32))) else (if ((gI r1.2 64 28) - (gI r1.2 64 28) / (f_X12_beast r1.2 64 a2 (3 : Int32)) * (f_X12_beast r1.2 64 a2 (3 : Int32))) = 0 then (12 : Int32) else (4 : Int32)))]) ?_ (fun Jc3 => ?_)
    · generalize ex5 : (if a1 = 0 then ((12 : Int32) - (f_X12_beast r1.2 64 a2 (4 : Int32))) else (if ((gI r1.2 64 28) - (gI r1.2 64 28) / (f_X12_beast r1.2 64 a2 (3 : Int32)) * (f_X12_beast r1.2 64 a2 (3 : Int32))) = 0 then (12 : Int32) else (4 : Int32))) = x5
      refine aw_iret hC dX12_oddsBy_48 (Nat.le_refl _) (Nat.le_refl _) ?_
      exact FP.qI ((bd_eq er1).trans ((if_pos c2).trans ((bd_eq ex5).trans (rfl))))
    · refine aw_if_ne hC 28 dX12_oddsBy_13 (by decide) (fun c3 => ?_) (fun c3 => ?_)
      · refine aw_aload_n hC 0 dX12_oddsBy_28 rfl rfl ?_
        refine aw_getI hC hSt 28 (ms_lt 64 (by decide) hM) (ms_k 64 12 0 (by decide) hM) rfl (by decide) w_1117 rfl dX12_oddsBy_29 ?_
        refine aw_aload_n hC 0 dX12_oddsBy_32 rfl rfl ?_
        refine aw_iload_n hC 2 dX12_oddsBy_33 rfl rfl ?_
        refine aw_iconst (v := 3) hC dX12_oddsBy_34 (by decide) ?_
        refine aw_cV2r hC hSt (t_X12_beast G l hM _ _ (h1 r1 er1 c2 c3)) w_1082 w_1124 w_1125 w_1126 w_953 rfl rfl (by decide +kernel) ⟨Nat.le_of_ble_eq_true rfl, Nat.le_of_ble_eq_true rfl⟩ (ms_lt 64 (by decide) hM) (ms_k 64 12 0 (by decide) hM) rfl (Nat.le_of_ble_eq_true rfl) dX12_oddsBy_35 ⟨Nat.zero_le _, Nat.zero_le _⟩ ?_
        refine aw_irem hC dX12_oddsBy_38 ((h2 r1 er1 c2 c3)) ?_
        refine aw_if_ne hC 47 dX12_oddsBy_39 (by decide) (fun c4 => ?_) (fun c4 => ?_)
        · refine aw_iconst (v := 4) hC dX12_oddsBy_47 (by decide) ?_
          simp only [bd_def, if_neg c3, if_neg c4] at Jc3 ⊢
          exact Jc3
        · refine aw_bipush (v := 12) hC dX12_oddsBy_42 (by decide) ?_
          refine aw_goto hC 48 dX12_oddsBy_44 (by decide) ?_
          simp only [bd_def, if_neg c3, if_pos c4] at Jc3 ⊢
          exact Jc3
      · refine aw_bipush (v := 12) hC dX12_oddsBy_16 (by decide) ?_
        refine aw_aload_n hC 0 dX12_oddsBy_18 rfl rfl ?_
        refine aw_iload_n hC 2 dX12_oddsBy_19 rfl rfl ?_
        refine aw_iconst (v := 4) hC dX12_oddsBy_20 (by decide) ?_
        refine aw_cV2r hC hSt (t_X12_beast G l hM _ _ (h3 r1 er1 c2 c3)) w_1082 w_1124 w_1125 w_1126 w_953 rfl rfl (by decide +kernel) ⟨Nat.le_of_ble_eq_true rfl, Nat.le_of_ble_eq_true rfl⟩ (ms_lt 64 (by decide) hM) (ms_k 64 12 0 (by decide) hM) rfl (Nat.le_of_ble_eq_true rfl) dX12_oddsBy_21 ⟨Nat.zero_le _, Nat.zero_le _⟩ ?_
        refine aw_isub hC dX12_oddsBy_24 ?_
        refine aw_goto hC 48 dX12_oddsBy_25 (by decide) ?_
        simp only [bd_def, if_pos c3] at Jc3 ⊢
        exact Jc3
  · refine aw_iconst (v := 0) hC dX12_oddsBy_10 (by decide) ?_
    refine aw_iret hC dX12_oddsBy_11 (Nat.le_refl _) (Nat.le_refl _) ?_
    exact FP.qI ((bd_eq er1).trans ((if_neg c2).trans (rfl)))
theorem q_X12_oddsBy (S : HSt) (_o : Nat) (a1 : Int32) (a2 : Int32) (a3 : Int32) : shp ((f_X12_oddsBy S _o a1 a2 a3).2) = shp S := by
  unfold f_X12_oddsBy
  repeat' (first | with_reducible refine shpr1 ?_ | with_reducible rfl | with_reducible refine (q_X12_missBy _ _ _ _ _).trans ?_ | with_reducible refine (shp_sI _ _ _ _).trans ?_ | with_reducible refine (shp_sJ _ _ _ _).trans ?_ | with_reducible refine shi ?_ ?_ | with_reducible refine shb (fun _ _ => ?_) | with_reducible refine shiP (fun q : Int32 × HSt => q.2) ?_ ?_ | with_reducible refine shbP (fun q : Int32 × HSt => q.2) (fun _ _ => ?_) | (subst_vars; with_reducible rfl) | (subst_vars; with_reducible refine (q_X12_missBy _ _ _ _ _).trans ?_) | (subst_vars; with_reducible refine (shp_sI _ _ _ _).trans ?_) | (subst_vars; with_reducible refine (shp_sJ _ _ _ _).trans ?_) | (subst_vars; with_reducible refine shi ?_ ?_) | (subst_vars; with_reducible refine shb (fun _ _ => ?_)))
theorem v_X12_oddsBy (S : HSt) (_o : Nat) (a1 : Int32) (a2 : Int32) (a3 : Int32) : Fr [(64, 28)] S ((f_X12_oddsBy S _o a1 a2 a3).2) := by
  unfold f_X12_oddsBy
  repeat' (first | with_reducible refine frpr1 ?_ | with_reducible exact Fr.refl _ _ | with_reducible refine Fr.lP (fun q : Int32 × HSt => q.2) (fun _ _ => ?_) | with_reducible refine Fr.iteP (fun q : Int32 × HSt => q.2) ?_ ?_ | with_reducible refine Fr.l1 (fun _ _ => ?_) | with_reducible refine Fr.ite ?_ ?_ | with_reducible refine Fr.sE (by assumption) (by first | decide | simp only [List.mem_cons, List.not_mem_nil, or_false, true_or, or_true, eq_self_iff_true]) ?_ | with_reducible refine Fr.jE (by assumption) ?_ | with_reducible refine Fr.rE (by assumption) (by first | decide | simp only [List.mem_cons, List.not_mem_nil, or_false, true_or, or_true, eq_self_iff_true]) ?_ | with_reducible refine Fr.iE (by assumption) ?_ ?_ | with_reducible refine Fr.tr (w_X12_missBy _ _ _ _ _ _ (by assumption)) (by first | decide | simp only [List.mem_cons, List.not_mem_nil, or_false, forall_eq_or_imp, forall_eq, true_or, or_true, and_self, eq_self_iff_true]) ?_)
theorem w_X12_oddsBy (S : HSt) (_o : Nat) (a1 : Int32) (a2 : Int32) (a3 : Int32) (r : Int32 × HSt) (e : f_X12_oddsBy S _o a1 a2 a3 = r) : Fr [(64, 28)] S r.2 := by
  rw [← e]
  exact v_X12_oddsBy S _o a1 a2 a3
noncomputable def L_X12_oddsOf_17 : Nat → HSt → Int32 → Int32 → Int32 → Int32 → Int32 → Int32 × Int32 × Int32 × Int32 × Int32 × HSt
  | 0, S, v1, v2, v3, v4, v5 => (v1, v2, v3, v4, v5, S)
  | n + 1, S, v1, v2, v3, v4, v5 =>
    if ((gI S 64 21) + v3) < v5 then ((pr (v1) (pr (v2) (pr (v3) (pr (v4) (pr (v5) (S))))))) else (bd ((if 0 ≤ v5 then v5 else (0 : Int32))) fun x1005 => bd (f_X12_oddsBy S 64 v1 v2 x1005) fun r1006 => bd ((v4 + r1006.1)) fun x1007 => L_X12_oddsOf_17 n r1006.2 v1 v2 v3 x1007 (v5 + (1 : Int32)))
def T_X12_oddsOf_17 : Nat → HSt → Int32 → Int32 → Int32 → Int32 → Int32 → Prop
  | 0, _, _, _, _, _, _ => False
  | n + 1, S, v1, v2, v3, v4, v5 => ((¬ ((gI S 64 21) + v3) < v5) → ∀ x1005 : Int32, (if 0 ≤ v5 then v5 else (0 : Int32)) = x1005 → p_X12_oddsBy S 64 v1 v2 x1005) ∧ ((¬ ((gI S 64 21) + v3) < v5) → ∀ x1005 : Int32, (if 0 ≤ v5 then v5 else (0 : Int32)) = x1005 → ∀ r1006, f_X12_oddsBy S 64 v1 v2 x1005 = r1006 → ∀ x1007 : Int32, (v4 + r1006.1) = x1007 → T_X12_oddsOf_17 n r1006.2 v1 v2 v3 x1007 (v5 + (1 : Int32)))
theorem qL_X12_oddsOf_17 : ∀ (n : Nat) (S : HSt) (v1 : Int32) (v2 : Int32) (v3 : Int32) (v4 : Int32) (v5 : Int32), shp (L_X12_oddsOf_17 n S v1 v2 v3 v4 v5).2.2.2.2.2 = shp S := by
  intro n
  induction n with
  | zero => intros; rfl
  | succ n ih =>
    intro S v1 v2 v3 v4 v5
    unfold L_X12_oddsOf_17
    repeat' (first | with_reducible refine shpr5 ?_ | with_reducible rfl | with_reducible refine (ih _ _ _ _ _ _).trans ?_ | with_reducible refine (q_X12_oddsBy _ _ _ _ _).trans ?_ | with_reducible refine (shp_sI _ _ _ _).trans ?_ | with_reducible refine (shp_sJ _ _ _ _).trans ?_ | with_reducible refine shi ?_ ?_ | with_reducible refine shb (fun _ _ => ?_) | with_reducible refine shiP (fun q : Int32 × Int32 × Int32 × Int32 × Int32 × HSt => q.2.2.2.2.2) ?_ ?_ | with_reducible refine shbP (fun q : Int32 × Int32 × Int32 × Int32 × Int32 × HSt => q.2.2.2.2.2) (fun _ _ => ?_) | (subst_vars; with_reducible rfl) | (subst_vars; with_reducible refine (ih _ _ _ _ _ _).trans ?_) | (subst_vars; with_reducible refine (q_X12_oddsBy _ _ _ _ _).trans ?_) | (subst_vars; with_reducible refine (shp_sI _ _ _ _).trans ?_) | (subst_vars; with_reducible refine (shp_sJ _ _ _ _).trans ?_) | (subst_vars; with_reducible refine shi ?_ ?_) | (subst_vars; with_reducible refine shb (fun _ _ => ?_)))
theorem vL_X12_oddsOf_17 : ∀ (n : Nat) (S : HSt) (v1 : Int32) (v2 : Int32) (v3 : Int32) (v4 : Int32) (v5 : Int32), Fr [(64, 28)] S (L_X12_oddsOf_17 n S v1 v2 v3 v4 v5).2.2.2.2.2 := by
  intro n
  induction n with
  | zero => intros; exact Fr.refl _ _
  | succ n ih =>
    intro S v1 v2 v3 v4 v5
    unfold L_X12_oddsOf_17
    repeat' (first | with_reducible refine frpr5 ?_ | with_reducible exact Fr.refl _ _ | with_reducible refine Fr.lP (fun q : Int32 × Int32 × Int32 × Int32 × Int32 × HSt => q.2.2.2.2.2) (fun _ _ => ?_) | with_reducible refine Fr.iteP (fun q : Int32 × Int32 × Int32 × Int32 × Int32 × HSt => q.2.2.2.2.2) ?_ ?_ | with_reducible refine Fr.l1 (fun _ _ => ?_) | with_reducible refine Fr.ite ?_ ?_ | with_reducible refine Fr.sE (by assumption) (by first | decide | simp only [List.mem_cons, List.not_mem_nil, or_false, true_or, or_true, eq_self_iff_true]) ?_ | with_reducible refine Fr.jE (by assumption) ?_ | with_reducible refine Fr.rE (by assumption) (by first | decide | simp only [List.mem_cons, List.not_mem_nil, or_false, true_or, or_true, eq_self_iff_true]) ?_ | with_reducible refine Fr.iE (by assumption) ?_ ?_ | with_reducible refine Fr.tr (ih _ _ _ _ _ _) (by first | decide | simp only [List.mem_cons, List.not_mem_nil, or_false, forall_eq_or_imp, forall_eq, true_or, or_true, and_self, eq_self_iff_true]) ?_ | with_reducible refine Fr.tr (w_X12_oddsBy _ _ _ _ _ _ (by assumption)) (by first | decide | simp only [List.mem_cons, List.not_mem_nil, or_false, forall_eq_or_imp, forall_eq, true_or, or_true, and_self, eq_self_iff_true]) ?_)
theorem wL_X12_oddsOf_17 (n : Nat) (S : HSt) (v1 : Int32) (v2 : Int32) (v3 : Int32) (v4 : Int32) (v5 : Int32) (r : Int32 × Int32 × Int32 × Int32 × Int32 × HSt) (e : L_X12_oddsOf_17 n S v1 v2 v3 v4 v5 = r) : Fr [(64, 28)] S r.2.2.2.2.2 := by
  rw [← e]
  exact vL_X12_oddsOf_17 n S v1 v2 v3 v4 v5
set_option maxRecDepth 100000 in
theorem l_X12_oddsOf_17 {p : Program} {l : Launch} {e : Env} {s : State} {m : MethodId} {args : Array Value} {below : List Frame} {meth : Method} {c : Code} {G : GG} {Q : State → Prop} (hC : ACx p s m args meth c cX12_oddsOf RX12 6 (some .int)) (hSt : St G s)  : ∀ (n : Nat) (S : HSt) (v1 : Int32) (v2 : Int32) (v3 : Int32) (v4 : Int32) (v5 : Int32), MS S → T_X12_oddsOf_17 n S v1 v2 v3 v4 v5 → AW p l e (rmD 3 0 0) s m args below meth c G 6 Q (L_X12_oddsOf_17 n S v1 v2 v3 v4 v5).2.2.2.2.2 0 0 56 [(0, .ref 64), (1, .int (L_X12_oddsOf_17 n S v1 v2 v3 v4 v5).1), (2, .int (L_X12_oddsOf_17 n S v1 v2 v3 v4 v5).2.1), (3, .int (L_X12_oddsOf_17 n S v1 v2 v3 v4 v5).2.2.1), (4, .int (L_X12_oddsOf_17 n S v1 v2 v3 v4 v5).2.2.2.1), (5, .int (L_X12_oddsOf_17 n S v1 v2 v3 v4 v5).2.2.2.2.1)] [] → AW p l e (rmD 3 0 0) s m args below meth c G 6 Q S 0 0 17 [(0, .ref 64), (1, .int v1), (2, .int v2), (3, .int v3), (4, .int v4), (5, .int v5)] [] := by
  intro n
  induction n with
  | zero => intro S v1 v2 v3 v4 v5 _ hT; exact hT.elim
  | succ n ih =>
    intro S v1 v2 v3 v4 v5 hM hT hk
    unfold T_X12_oddsOf_17 at hT
    obtain ⟨h0, h1⟩ := hT
    refine aw_iload hC 5 dX12_oddsOf_17 rfl ?_
    refine aw_aload_n hC 0 dX12_oddsOf_19 rfl rfl ?_
    refine aw_getI hC hSt 21 (ms_lt 64 (by decide) hM) (ms_k 64 12 0 (by decide) hM) rfl (by decide) w_1033 rfl dX12_oddsOf_20 ?_
    refine aw_iload_n hC 3 dX12_oddsOf_23 rfl rfl ?_
    refine aw_iadd hC dX12_oddsOf_24 ?_
    refine aw_icmp_gt hC 56 dX12_oddsOf_25 (by decide) (fun c1003 => ?_) (fun c1003 => ?_)
    · refine aw_sub [0, 1, 2, 3, 4, 5] rfl ?_
      have E : L_X12_oddsOf_17 (n + 1) S v1 v2 v3 v4 v5 = _ := (if_pos c1003).trans (rfl)
      rw [E] at hk
      exact hk
    · refine aw_iload hC 4 dX12_oddsOf_28 rfl ?_
      refine aw_aload_n hC 0 dX12_oddsOf_30 rfl rfl ?_
      refine aw_iload_n hC 1 dX12_oddsOf_31 rfl rfl ?_
      refine aw_iload_n hC 2 dX12_oddsOf_32 rfl rfl ?_
      refine aw_iload hC 5 dX12_oddsOf_33 rfl ?_
      refine aw_cut (S' := S) (pc' := 44) (lv' := [(0, .ref 64), (1, .int v1), (2, .int v2), (3, .int v3), (4, .int v4), (5, .int v5)]) (st' := [.int (if 0 ≤ v5 then v5 else (0 : Int32)), .int v2, .int v1, .ref 64, .int v4]) ?_ (fun Jc1004 => ?_)
      · generalize ex1005 : (if 0 ≤ v5 then v5 else (0 : Int32)) = x1005
        refine aw_cV3r hC hSt (t_X12_oddsBy G l hM _ _ _ (h0 c1003 x1005 ex1005)) w_1127 w_1131 w_1132 w_1133 w_953 rfl rfl (by decide +kernel) ⟨Nat.le_of_ble_eq_true rfl, Nat.le_of_ble_eq_true rfl⟩ (ms_lt 64 (by decide) hM) (ms_k 64 12 0 (by decide) hM) rfl (Nat.le_of_ble_eq_true rfl) dX12_oddsOf_44 ⟨Nat.zero_le _, Nat.zero_le _⟩ ?_
        generalize er1006 : f_X12_oddsBy S 64 v1 v2 x1005 = r1006
        have hM : MS r1006.2 := MS.of (by rw [← er1006]; exact q_X12_oddsBy _ _ _ _ _) hM
        refine aw_iadd hC dX12_oddsOf_47 ?_
        refine aw_istore hC [(4, .int _), (0, .ref 64), (1, .int _), (2, .int _), (3, .int _), (5, .int _)] dX12_oddsOf_48 (by decide) rfl ?_
        generalize ex1007 : (v4 + r1006.1) = x1007
        refine aw_iinc (v := (v5 + (1 : Int32))) hC 5 [(5, .int _), (4, .int _), (0, .ref 64), (1, .int _), (2, .int _), (3, .int _)] dX12_oddsOf_50 rfl rfl (by decide) rfl ?_
        refine aw_goto hC 17 dX12_oddsOf_53 (by decide) ?_
        refine aw_sub [2, 3, 4, 5, 1, 0] rfl ?_
        have hTn := (h1 c1003 x1005 ex1005 r1006 er1006 x1007 ex1007)
        have hMn : MS r1006.2 := hM
        have E : L_X12_oddsOf_17 (n + 1) S v1 v2 v3 v4 v5 = _ := (if_neg c1003).trans ((bd_eq ex1005).trans ((bd_eq er1006).trans ((bd_eq ex1007).trans (rfl))))
        rw [E] at hk
        exact ih _ _ _ _ _ _ hMn hTn hk
      · refine aw_if_ge hC 42 dX12_oddsOf_35 (by decide) (fun c1004 => ?_) (fun c1004 => ?_)
        · refine aw_iload hC 5 dX12_oddsOf_42 rfl ?_
          simp only [bd_def, if_pos c1004] at Jc1004 ⊢
          exact Jc1004
        · refine aw_iconst (v := 0) hC dX12_oddsOf_38 (by decide) ?_
          refine aw_goto hC 44 dX12_oddsOf_39 (by decide) ?_
          simp only [bd_def, if_neg c1004] at Jc1004 ⊢
          exact Jc1004
noncomputable def f_X12_oddsOf (S : HSt) (_o : Nat) (a1 : Int32) (a2 : Int32) : Int32 × HSt := bd ((f_X12_horseOf S 64 (2 : Int32))) fun x1 => bd (((gI S 64 21) - x1)) fun x2 => bd (L_X12_oddsOf_17 1000 S a1 a2 x1 (0 : Int32) x2) fun r3 => pr (r3.2.2.2.1) (r3.2.2.2.2.2)
def p_X12_oddsOf (S : HSt) (_o : Nat) (a1 : Int32) (a2 : Int32) : Prop := (p_X12_horseOf S 64 (2 : Int32)) ∧ (∀ x1 : Int32, (f_X12_horseOf S 64 (2 : Int32)) = x1 → ∀ x2 : Int32, ((gI S 64 21) - x1) = x2 → T_X12_oddsOf_17 1000 S a1 a2 x1 (0 : Int32) x2)
set_option maxRecDepth 100000 in
theorem t_X12_oddsOf (G : GG) (l : Launch) {S : HSt} (hM : MS S) (a1 : Int32) (a2 : Int32) (hp : p_X12_oddsOf S 64 a1 a2) : AM G l yX12_oddsOf cX12_oddsOf 6 (some .int) (rmD 3 0 0) 0 0 [.ref 64, .int a1, .int a2] S (FP (some (.int (f_X12_oddsOf S 64 a1 a2).1)) ((f_X12_oddsOf S 64 a1 a2).2)) := by
  obtain ⟨h0, h1⟩ := hp
  refine AM.mk (by decide) (Nat.le_of_ble_eq_true rfl) ?_
  intro p e s m below meth c hC hSt _
  refine aw_aload_n hC 0 dX12_oddsOf_0 rfl rfl ?_
  refine aw_iconst (v := 2) hC dX12_oddsOf_1 (by decide) ?_
  refine aw_cV1r hC hSt (t_X12_horseOf G l hM _ (h0)) w_1093 w_1121 w_1122 w_1123 w_953 rfl rfl (by decide +kernel) ⟨Nat.le_of_ble_eq_true rfl, Nat.le_of_ble_eq_true rfl⟩ (ms_lt 64 (by decide) hM) (ms_k 64 12 0 (by decide) hM) rfl (Nat.le_of_ble_eq_true rfl) dX12_oddsOf_2 ⟨Nat.zero_le _, Nat.zero_le _⟩ ?_
  refine aw_istore_n hC [(3, .int _), (0, .ref 64), (1, .int _), (2, .int _)] dX12_oddsOf_5 rfl (by decide) rfl ?_
  generalize ex1 : (f_X12_horseOf S 64 (2 : Int32)) = x1
  refine aw_iconst (v := 0) hC dX12_oddsOf_6 (by decide) ?_
  refine aw_istore hC [(4, .int _), (3, .int _), (0, .ref 64), (1, .int _), (2, .int _)] dX12_oddsOf_7 (by decide) rfl ?_
  refine aw_aload_n hC 2 dX12_oddsOf_9 rfl rfl ?_
  refine aw_getI hC hSt 21 (ms_lt 64 (by decide) hM) (ms_k 64 12 0 (by decide) hM) rfl (by decide) w_1033 rfl dX12_oddsOf_10 ?_
  refine aw_iload_n hC 1 dX12_oddsOf_13 rfl rfl ?_
  refine aw_isub hC dX12_oddsOf_14 ?_
  refine aw_istore hC [(5, .int _), (4, .int _), (3, .int _), (0, .ref 64), (1, .int _), (2, .int _)] dX12_oddsOf_15 (by decide) rfl ?_
  generalize ex2 : ((gI S 64 21) - x1) = x2
  refine aw_sub [3, 4, 5, 2, 1, 0] rfl ?_
  refine l_X12_oddsOf_17 hC hSt 1000 _ _ _ _ _ _ hM (h1 x1 ex1 x2 ex2) ?_
  generalize er3 : L_X12_oddsOf_17 1000 S a1 a2 x1 (0 : Int32) x2 = r3
  have hM : MS r3.2.2.2.2.2 := MS.of (by rw [← er3]; exact qL_X12_oddsOf_17 _ _ _ _ _ _ _) hM
  refine aw_iload hC 4 dX12_oddsOf_56 rfl ?_
  refine aw_iret hC dX12_oddsOf_58 (Nat.le_refl _) (Nat.le_refl _) ?_
  exact FP.qI ((bd_eq ex1).trans ((bd_eq ex2).trans ((bd_eq er3).trans (rfl))))
theorem q_X12_oddsOf (S : HSt) (_o : Nat) (a1 : Int32) (a2 : Int32) : shp ((f_X12_oddsOf S _o a1 a2).2) = shp S := by
  unfold f_X12_oddsOf
  repeat' (first | with_reducible refine shpr1 ?_ | with_reducible rfl | with_reducible refine (q_X12_oddsBy _ _ _ _ _).trans ?_ | with_reducible refine (qL_X12_oddsOf_17 _ _ _ _ _ _ _).trans ?_ | with_reducible refine (shp_sI _ _ _ _).trans ?_ | with_reducible refine (shp_sJ _ _ _ _).trans ?_ | with_reducible refine shi ?_ ?_ | with_reducible refine shb (fun _ _ => ?_) | with_reducible refine shiP (fun q : Int32 × HSt => q.2) ?_ ?_ | with_reducible refine shbP (fun q : Int32 × HSt => q.2) (fun _ _ => ?_) | (subst_vars; with_reducible rfl) | (subst_vars; with_reducible refine (q_X12_oddsBy _ _ _ _ _).trans ?_) | (subst_vars; with_reducible refine (qL_X12_oddsOf_17 _ _ _ _ _ _ _).trans ?_) | (subst_vars; with_reducible refine (shp_sI _ _ _ _).trans ?_) | (subst_vars; with_reducible refine (shp_sJ _ _ _ _).trans ?_) | (subst_vars; with_reducible refine shi ?_ ?_) | (subst_vars; with_reducible refine shb (fun _ _ => ?_)))
theorem v_X12_oddsOf (S : HSt) (_o : Nat) (a1 : Int32) (a2 : Int32) : Fr [(64, 28)] S ((f_X12_oddsOf S _o a1 a2).2) := by
  unfold f_X12_oddsOf
  repeat' (first | with_reducible refine frpr1 ?_ | with_reducible exact Fr.refl _ _ | with_reducible refine Fr.lP (fun q : Int32 × HSt => q.2) (fun _ _ => ?_) | with_reducible refine Fr.iteP (fun q : Int32 × HSt => q.2) ?_ ?_ | with_reducible refine Fr.l1 (fun _ _ => ?_) | with_reducible refine Fr.ite ?_ ?_ | with_reducible refine Fr.sE (by assumption) (by first | decide | simp only [List.mem_cons, List.not_mem_nil, or_false, true_or, or_true, eq_self_iff_true]) ?_ | with_reducible refine Fr.jE (by assumption) ?_ | with_reducible refine Fr.rE (by assumption) (by first | decide | simp only [List.mem_cons, List.not_mem_nil, or_false, true_or, or_true, eq_self_iff_true]) ?_ | with_reducible refine Fr.iE (by assumption) ?_ ?_ | with_reducible refine Fr.tr (w_X12_oddsBy _ _ _ _ _ _ (by assumption)) (by first | decide | simp only [List.mem_cons, List.not_mem_nil, or_false, forall_eq_or_imp, forall_eq, true_or, or_true, and_self, eq_self_iff_true]) ?_ | with_reducible refine Fr.tr (wL_X12_oddsOf_17 _ _ _ _ _ _ _ _ (by assumption)) (by first | decide | simp only [List.mem_cons, List.not_mem_nil, or_false, forall_eq_or_imp, forall_eq, true_or, or_true, and_self, eq_self_iff_true]) ?_)
theorem w_X12_oddsOf (S : HSt) (_o : Nat) (a1 : Int32) (a2 : Int32) (r : Int32 × HSt) (e : f_X12_oddsOf S _o a1 a2 = r) : Fr [(64, 28)] S r.2 := by
  rw [← e]
  exact v_X12_oddsOf S _o a1 a2
noncomputable def F_X12_allOdds (S : HSt) (_o : Nat)  : Int32 × HSt := pr (((12 : Int32) * (((2 : Int32) * (f_X12_horseOf S 64 (2 : Int32))) + (1 : Int32)))) (S)
noncomputable def f_X12_allOdds (S : HSt) (_o : Nat)  : Int32 := (F_X12_allOdds S _o).1
def p_X12_allOdds (S : HSt) (_o : Nat)  : Prop := (p_X12_horseOf S 64 (2 : Int32))
set_option maxRecDepth 100000 in
theorem t_X12_allOdds (G : GG) (l : Launch) {S : HSt} (hM : MS S)  (hp : p_X12_allOdds S 64) : AM G l yX12_allOdds cX12_allOdds 1 (some .int) (rmD 1 0 0) 0 0 [.ref 64] S (FP (some (.int (f_X12_allOdds S 64))) (S)) := by
  have h0 := hp
  unfold p_X12_allOdds at h0
  refine AM.mk (by decide) (Nat.le_of_ble_eq_true rfl) ?_
  intro p e s m below meth c hC hSt _
  refine aw_bipush (v := 12) hC dX12_allOdds_0 (by decide) ?_
  refine aw_iconst (v := 2) hC dX12_allOdds_2 (by decide) ?_
  refine aw_aload_n hC 0 dX12_allOdds_3 rfl rfl ?_
  refine aw_iconst (v := 2) hC dX12_allOdds_4 (by decide) ?_
  refine aw_cV1r hC hSt (t_X12_horseOf G l hM _ (h0)) w_1093 w_1121 w_1122 w_1123 w_953 rfl rfl (by decide +kernel) ⟨Nat.le_of_ble_eq_true rfl, Nat.le_of_ble_eq_true rfl⟩ (ms_lt 64 (by decide) hM) (ms_k 64 12 0 (by decide) hM) rfl (Nat.le_of_ble_eq_true rfl) dX12_allOdds_5 ⟨Nat.zero_le _, Nat.zero_le _⟩ ?_
  refine aw_imul hC dX12_allOdds_8 ?_
  refine aw_iconst (v := 1) hC dX12_allOdds_9 (by decide) ?_
  refine aw_iadd hC dX12_allOdds_10 ?_
  refine aw_imul hC dX12_allOdds_11 ?_
  refine aw_iret hC dX12_allOdds_12 (Nat.le_refl _) (Nat.le_refl _) ?_
  exact FP.pI (rfl)
noncomputable def L_X12_common_6 : Nat → HSt → Int64 → Int64 → Int64 → Int64 → Int64 × Int64 × Int64 × Int64
  | 0, S, v0, v2, v4, v6 => (v0, v2, v4, v6)
  | n + 1, S, v0, v2, v4, v6 =>
    if (lg_cmp v6 (0 : Int64)) = 0 then ((pr (v0) (pr (v2) (pr (v4) (v6))))) else (bd ((v4 - v4 / v6 * v6)) fun x1002 => L_X12_common_6 n S v0 v2 v6 x1002)
def T_X12_common_6 : Nat → HSt → Int64 → Int64 → Int64 → Int64 → Prop
  | 0, _, _, _, _, _ => False
  | n + 1, S, v0, v2, v4, v6 => ((¬ (lg_cmp v6 (0 : Int64)) = 0) → ¬ v6 = 0) ∧ ((¬ (lg_cmp v6 (0 : Int64)) = 0) → ∀ x1002 : Int64, (v4 - v4 / v6 * v6) = x1002 → T_X12_common_6 n S v0 v2 v6 x1002)
set_option maxRecDepth 100000 in
theorem l_X12_common_6 {p : Program} {l : Launch} {e : Env} {s : State} {m : MethodId} {args : Array Value} {below : List Frame} {meth : Method} {c : Code} {G : GG} {Q : State → Prop} (hC : ACx p s m args meth c cX12_common RX12 10 (some .long)) (hSt : St G s)  : ∀ (n : Nat) (S : HSt) (v0 : Int64) (v2 : Int64) (v4 : Int64) (v6 : Int64), T_X12_common_6 n S v0 v2 v4 v6 → AW p l e (rmD 0 0 0) s m args below meth c G 10 Q S 0 0 31 [(0, .long (L_X12_common_6 n S v0 v2 v4 v6).1), (2, .long (L_X12_common_6 n S v0 v2 v4 v6).2.1), (4, .long (L_X12_common_6 n S v0 v2 v4 v6).2.2.1), (6, .long (L_X12_common_6 n S v0 v2 v4 v6).2.2.2)] [] → AW p l e (rmD 0 0 0) s m args below meth c G 10 Q S 0 0 6 [(0, .long v0), (2, .long v2), (4, .long v4), (6, .long v6)] [] := by
  intro n
  induction n with
  | zero => intro S v0 v2 v4 v6 hT; exact hT.elim
  | succ n ih =>
    intro S v0 v2 v4 v6 hT hk
    unfold T_X12_common_6 at hT
    obtain ⟨h0, h1⟩ := hT
    refine aw_lload hC 3 dX12_common_6 rfl ?_
    refine aw_lconst (v := 0) hC dX12_common_8 (by decide) ?_
    refine aw_lcmp hC dX12_common_9 ?_
    refine aw_if_eq hC 31 dX12_common_10 (by decide) (fun c1001 => ?_) (fun c1001 => ?_)
    · refine aw_sub [0, 1, 2, 3] rfl ?_
      have E : L_X12_common_6 (n + 1) S v0 v2 v4 v6 = _ := (if_pos c1001).trans (rfl)
      rw [E] at hk
      exact hk
    · refine aw_lload hC 2 dX12_common_13 rfl ?_
      refine aw_lload hC 3 dX12_common_15 rfl ?_
      refine aw_lrem hC dX12_common_17 ((h0 c1001)) ?_
      refine aw_lstore hC [(8, .long _), (0, .long _), (2, .long _), (4, .long _), (6, .long _)] dX12_common_18 (by decide) rfl ?_
      generalize ex1002 : (v4 - v4 / v6 * v6) = x1002
      refine aw_lload hC 4 dX12_common_20 rfl ?_
      refine aw_lstore hC [(4, .long _), (8, .long _), (0, .long _), (2, .long _), (6, .long _)] dX12_common_22 (by decide) rfl ?_
      refine aw_lload hC 1 dX12_common_24 rfl ?_
      refine aw_lstore hC [(6, .long _), (4, .long _), (8, .long _), (0, .long _), (2, .long _)] dX12_common_26 (by decide) rfl ?_
      refine aw_goto hC 6 dX12_common_28 (by decide) ?_
      refine aw_sub [3, 4, 1, 0] rfl ?_
      have hTn := (h1 c1001 x1002 ex1002)
      have E : L_X12_common_6 (n + 1) S v0 v2 v4 v6 = _ := (if_neg c1001).trans ((bd_eq ex1002).trans (rfl))
      rw [E] at hk
      exact ih _ _ _ _ _ hTn hk
noncomputable def F_X12_common (S : HSt) (a1 : Int64) (a2 : Int64) : Int64 × HSt := bd (L_X12_common_6 1000 S a1 a2 a1 a2) fun r1 => pr (r1.2.2.1) (S)
noncomputable def f_X12_common (S : HSt) (a1 : Int64) (a2 : Int64) : Int64 := (F_X12_common S a1 a2).1
def p_X12_common (S : HSt) (a1 : Int64) (a2 : Int64) : Prop := (T_X12_common_6 1000 S a1 a2 a1 a2)
set_option maxRecDepth 100000 in
theorem t_X12_common (G : GG) (l : Launch) {S : HSt} (a1 : Int64) (a2 : Int64) (hp : p_X12_common S a1 a2) : AM G l yX12_common cX12_common 10 (some .long) (rmD 0 0 0) 0 0 [.long a1, .long a2] S (FP (some (.long (f_X12_common S a1 a2))) (S)) := by
  have h0 := hp
  unfold p_X12_common at h0
  refine AM.mk (by decide) (Nat.le_of_ble_eq_true rfl) ?_
  intro p e s m below meth c hC hSt _
  refine aw_lload_n hC 0 dX12_common_0 rfl rfl ?_
  refine aw_lstore hC [(4, .long _), (0, .long _), (2, .long _)] dX12_common_1 (by decide) rfl ?_
  refine aw_lload_n hC 2 dX12_common_3 rfl rfl ?_
  refine aw_lstore hC [(6, .long _), (4, .long _), (0, .long _), (2, .long _)] dX12_common_4 (by decide) rfl ?_
  refine aw_sub [2, 3, 1, 0] rfl ?_
  refine l_X12_common_6 hC hSt 1000 _ _ _ _ _  (h0) ?_
  generalize er1 : L_X12_common_6 1000 S a1 a2 a1 a2 = r1
  refine aw_lload hC 2 dX12_common_31 rfl ?_
  refine aw_lret hC dX12_common_33 (Nat.le_refl _) (Nat.le_refl _) ?_
  exact FP.pJ ((bd_eq er1).trans (rfl))
noncomputable def F_X12_partOf (S : HSt) (a1 : Int64) (a2 : Int64) (a3 : Int32) : Int64 × HSt := bd ((if a3 = 0 then a1 else a2)) fun x2 => pr ((x2 / (f_X12_common S a1 a2))) (S)
noncomputable def f_X12_partOf (S : HSt) (a1 : Int64) (a2 : Int64) (a3 : Int32) : Int64 := (F_X12_partOf S a1 a2 a3).1
def p_X12_partOf (S : HSt) (a1 : Int64) (a2 : Int64) (a3 : Int32) : Prop := (∀ x2 : Int64, (if a3 = 0 then a1 else a2) = x2 → p_X12_common S a1 a2) ∧ (∀ x2 : Int64, (if a3 = 0 then a1 else a2) = x2 → ¬ (f_X12_common S a1 a2) = 0)
set_option maxRecDepth 100000 in
theorem t_X12_partOf (G : GG) (l : Launch) {S : HSt} (a1 : Int64) (a2 : Int64) (a3 : Int32) (hp : p_X12_partOf S a1 a2 a3) : AM G l yX12_partOf cX12_partOf 5 (some .long) (rmD 1 0 0) 0 0 [.long a1, .long a2, .int a3] S (FP (some (.long (f_X12_partOf S a1 a2 a3))) (S)) := by
  obtain ⟨h0, h1⟩ := hp
  refine AM.mk (by decide) (Nat.le_of_ble_eq_true rfl) ?_
  intro p e s m below meth c hC hSt _
  refine aw_iload hC 2 dX12_partOf_0 rfl ?_
  refine aw_cut (S' := S) (pc' := 10) (lv' := [(0, .long a1), (2, .long a2), (4, .int a3)]) (st' := [.long (if a3 = 0 then a1 else a2)]) ?_ (fun Jc1 => ?_)
  · generalize ex2 : (if a3 = 0 then a1 else a2) = x2
    refine aw_lload_n hC 0 dX12_partOf_10 rfl rfl ?_
    refine aw_lload_n hC 1 dX12_partOf_11 rfl rfl ?_
    refine aw_cS2r hC hSt (t_X12_common G l  _ _ (h0 x2 ex2)) w_1136 w_1138 w_1139 w_953 rfl rfl (by decide +kernel) ⟨Nat.le_of_ble_eq_true rfl, Nat.le_of_ble_eq_true rfl⟩ (Nat.le_of_ble_eq_true rfl) dX12_partOf_12 ⟨Nat.zero_le _, Nat.zero_le _⟩ ?_
    refine aw_ldiv hC dX12_partOf_15 ((h1 x2 ex2)) ?_
    refine aw_lret hC dX12_partOf_16 (Nat.le_refl _) (Nat.le_refl _) ?_
    exact FP.pJ ((bd_eq ex2).trans (rfl))
  · refine aw_if_ne hC 9 dX12_partOf_2 (by decide) (fun c1 => ?_) (fun c1 => ?_)
    · refine aw_lload_n hC 1 dX12_partOf_9 rfl rfl ?_
      simp only [bd_def, if_neg c1] at Jc1 ⊢
      exact Jc1
    · refine aw_lload_n hC 0 dX12_partOf_5 rfl rfl ?_
      refine aw_goto hC 10 dX12_partOf_6 (by decide) ?_
      simp only [bd_def, if_pos c1] at Jc1 ⊢
      exact Jc1
noncomputable def f_X12_counts (S : HSt) (_o : Nat) (a1 : Int32) (a2 : Int32) : Int32 × HSt := if (gI S 64 24) ≤ (gI S 68 (68 : Int32).toNatClampNeg) then (bd (f_X12_oddsOf S 64 a1 a2) fun r2 => bd ((if ((2 : Int32) * r2.1) < (f_X12_allOdds r2.2 64) then (-(gI r2.2 68 (71 : Int32).toNatClampNeg)) else (bd ((if a1 = 0 then (1 : Int32) else (2 : Int32))) fun x5 => (gI r2.2 68 ((68 : Int32) + x5).toNatClampNeg)))) fun x6 => pr (x6) (r2.2)) else (pr ((0 : Int32)) (S))
def p_X12_counts (S : HSt) (_o : Nat) (a1 : Int32) (a2 : Int32) : Prop := (((gI S 64 24) ≤ (gI S 68 (68 : Int32).toNatClampNeg)) → p_X12_oddsOf S 64 a1 a2) ∧ (((gI S 64 24) ≤ (gI S 68 (68 : Int32).toNatClampNeg)) → ∀ r2, f_X12_oddsOf S 64 a1 a2 = r2 → p_X12_allOdds r2.2 64) ∧ (((gI S 64 24) ≤ (gI S 68 (68 : Int32).toNatClampNeg)) → ∀ r2, f_X12_oddsOf S 64 a1 a2 = r2 → (¬ ((2 : Int32) * r2.1) < (f_X12_allOdds r2.2 64)) → ∀ x5 : Int32, (if a1 = 0 then (1 : Int32) else (2 : Int32)) = x5 → vp_in ((68 : Int32) + x5) 172)
set_option maxRecDepth 100000 in
theorem t_X12_counts (G : GG) (l : Launch) {S : HSt} (hM : MS S) (a1 : Int32) (a2 : Int32) (hp : p_X12_counts S 64 a1 a2) : AM G l yX12_counts cX12_counts 3 (some .int) (rmD 4 0 0) 0 0 [.ref 64, .int a1, .int a2] S (FP (some (.int (f_X12_counts S 64 a1 a2).1)) ((f_X12_counts S 64 a1 a2).2)) := by
  obtain ⟨h0, h1, h2⟩ := hp
  refine AM.mk (by decide) (Nat.le_of_ble_eq_true rfl) ?_
  intro p e s m below meth c hC hSt _
  refine aw_aload_n hC 0 dX12_counts_0 rfl rfl ?_
  refine aw_getI hC hSt 24 (ms_lt 64 (by decide) hM) (ms_k 64 12 0 (by decide) hM) rfl (by decide) w_1036 rfl dX12_counts_1 ?_
  refine aw_aload_n hC 0 dX12_counts_4 rfl rfl ?_
  refine aw_getP (b := 68) hC hSt 5 (ms_lt 64 (by decide) hM) (ms_k 64 12 0 (by decide) hM) rfl (by decide) w_920 rfl (ms_p 5 68 (by decide) hM) dX12_counts_5 ?_
  refine aw_bipush (v := 68) hC dX12_counts_8 (by decide) ?_
  refine aw_iald hC hSt (ms_lt 68 (by decide) hM) (ms_k 68 14 172 (by decide) hM) (vp_len (n := 172) (ms_l 68 14 172 (by decide) hM) (by unfold vp_in; decide)) dX12_counts_10 ?_
  refine aw_icmp_le hC 16 dX12_counts_11 (by decide) (fun c1 => ?_) (fun c1 => ?_)
  · refine aw_iconst (v := 2) hC dX12_counts_16 (by decide) ?_
    refine aw_aload_n hC 0 dX12_counts_17 rfl rfl ?_
    refine aw_iload_n hC 1 dX12_counts_18 rfl rfl ?_
    refine aw_iload_n hC 2 dX12_counts_19 rfl rfl ?_
    refine aw_cV2r hC hSt (t_X12_oddsOf G l hM _ _ (h0 c1)) w_1134 w_1140 w_1141 w_1142 w_953 rfl rfl (by decide +kernel) ⟨Nat.le_of_ble_eq_true rfl, Nat.le_of_ble_eq_true rfl⟩ (ms_lt 64 (by decide) hM) (ms_k 64 12 0 (by decide) hM) rfl (Nat.le_of_ble_eq_true rfl) dX12_counts_20 ⟨Nat.zero_le _, Nat.zero_le _⟩ ?_
    generalize er2 : f_X12_oddsOf S 64 a1 a2 = r2
    have hM : MS r2.2 := MS.of (by rw [← er2]; exact q_X12_oddsOf _ _ _ _) hM
    refine aw_imul hC dX12_counts_23 ?_
    refine aw_aload_n hC 0 dX12_counts_24 rfl rfl ?_
    refine aw_cV0r hC hSt (t_X12_allOdds G l hM  (h1 c1 r2 er2)) w_1135 w_1143 w_1144 w_1145 w_953 rfl rfl (by decide +kernel) ⟨Nat.le_of_ble_eq_true rfl, Nat.le_of_ble_eq_true rfl⟩ (ms_lt 64 (by decide) hM) (ms_k 64 12 0 (by decide) hM) rfl (Nat.le_of_ble_eq_true rfl) dX12_counts_25 ⟨Nat.zero_le _, Nat.zero_le _⟩ ?_
    refine aw_cut (S' := r2.2) (pc' := 59) (lv' := [(0, .ref 64), (1, .int a1), (2, .int a2)]) (st' := [.int (if ((2 : Int32) * r2.1) < (f_X12_allOdds r2.2 64) then (-(gI r2.2 68 (71 : Int32).toNatClampNeg)) else (bd ((if a1 = 0 then (1 : Int32) else (2 : Int32))) fun x5 => (gI r2.2 68 ((68 : Int32) + x5).toNatClampNeg)))]) ?_ (fun Jc3 => ?_)
    · generalize ex6 : (if ((2 : Int32) * r2.1) < (f_X12_allOdds r2.2 64) then (-(gI r2.2 68 (71 : Int32).toNatClampNeg)) else (bd ((if a1 = 0 then (1 : Int32) else (2 : Int32))) fun x5 => (gI r2.2 68 ((68 : Int32) + x5).toNatClampNeg))) = x6
      refine aw_iret hC dX12_counts_59 (Nat.le_refl _) (Nat.le_refl _) ?_
      exact FP.qI ((if_pos c1).trans ((bd_eq er2).trans ((bd_eq ex6).trans (rfl))))
    · refine aw_icmp_lt hC 51 dX12_counts_28 (by decide) (fun c3 => ?_) (fun c3 => ?_)
      · refine aw_aload_n hC 0 dX12_counts_51 rfl rfl ?_
        refine aw_getP (b := 68) hC hSt 5 (ms_lt 64 (by decide) hM) (ms_k 64 12 0 (by decide) hM) rfl (by decide) w_920 rfl (ms_p 5 68 (by decide) hM) dX12_counts_52 ?_
        refine aw_bipush (v := 71) hC dX12_counts_55 (by decide) ?_
        refine aw_iald hC hSt (ms_lt 68 (by decide) hM) (ms_k 68 14 172 (by decide) hM) (vp_len (n := 172) (ms_l 68 14 172 (by decide) hM) (by unfold vp_in; decide)) dX12_counts_57 ?_
        refine aw_ineg hC dX12_counts_58 ?_
        simp only [bd_def, if_pos c3] at Jc3 ⊢
        exact Jc3
      · refine aw_aload_n hC 0 dX12_counts_31 rfl rfl ?_
        refine aw_getP (b := 68) hC hSt 5 (ms_lt 64 (by decide) hM) (ms_k 64 12 0 (by decide) hM) rfl (by decide) w_920 rfl (ms_p 5 68 (by decide) hM) dX12_counts_32 ?_
        refine aw_bipush (v := 68) hC dX12_counts_35 (by decide) ?_
        refine aw_iload_n hC 1 dX12_counts_37 rfl rfl ?_
        refine aw_cut (S' := r2.2) (pc' := 46) (lv' := [(0, .ref 64), (1, .int a1), (2, .int a2)]) (st' := [.int (if a1 = 0 then (1 : Int32) else (2 : Int32)), .int (68 : Int32), .ref 68]) ?_ (fun Jc4 => ?_)
        · generalize ex5 : (if a1 = 0 then (1 : Int32) else (2 : Int32)) = x5
          refine aw_iadd hC dX12_counts_46 ?_
          refine aw_iald hC hSt (ms_lt 68 (by decide) hM) (ms_k 68 14 172 (by decide) hM) (vp_len (n := 172) (ms_l 68 14 172 (by decide) hM) (h2 c1 r2 er2 c3 x5 ex5)) dX12_counts_47 ?_
          refine aw_goto hC 59 dX12_counts_48 (by decide) ?_
          subst ex5
          simp only [bd_def, if_neg c3] at Jc3 ⊢
          exact Jc3
        · refine aw_if_eq hC 45 dX12_counts_38 (by decide) (fun c4 => ?_) (fun c4 => ?_)
          · refine aw_iconst (v := 1) hC dX12_counts_45 (by decide) ?_
            simp only [bd_def, if_pos c4] at Jc4 ⊢
            exact Jc4
          · refine aw_iconst (v := 2) hC dX12_counts_41 (by decide) ?_
            refine aw_goto hC 46 dX12_counts_42 (by decide) ?_
            simp only [bd_def, if_neg c4] at Jc4 ⊢
            exact Jc4
  · refine aw_iconst (v := 0) hC dX12_counts_14 (by decide) ?_
    refine aw_iret hC dX12_counts_15 (Nat.le_refl _) (Nat.le_refl _) ?_
    exact FP.qI ((if_neg c1).trans (rfl))
theorem q_X12_counts (S : HSt) (_o : Nat) (a1 : Int32) (a2 : Int32) : shp ((f_X12_counts S _o a1 a2).2) = shp S := by
  unfold f_X12_counts
  repeat' (first | with_reducible refine shpr1 ?_ | with_reducible rfl | with_reducible refine (q_X12_oddsOf _ _ _ _).trans ?_ | with_reducible refine (shp_sI _ _ _ _).trans ?_ | with_reducible refine (shp_sJ _ _ _ _).trans ?_ | with_reducible refine shi ?_ ?_ | with_reducible refine shb (fun _ _ => ?_) | with_reducible refine shiP (fun q : Int32 × HSt => q.2) ?_ ?_ | with_reducible refine shbP (fun q : Int32 × HSt => q.2) (fun _ _ => ?_) | (subst_vars; with_reducible rfl) | (subst_vars; with_reducible refine (q_X12_oddsOf _ _ _ _).trans ?_) | (subst_vars; with_reducible refine (shp_sI _ _ _ _).trans ?_) | (subst_vars; with_reducible refine (shp_sJ _ _ _ _).trans ?_) | (subst_vars; with_reducible refine shi ?_ ?_) | (subst_vars; with_reducible refine shb (fun _ _ => ?_)))
theorem v_X12_counts (S : HSt) (_o : Nat) (a1 : Int32) (a2 : Int32) : Fr [(64, 28)] S ((f_X12_counts S _o a1 a2).2) := by
  unfold f_X12_counts
  repeat' (first | with_reducible refine frpr1 ?_ | with_reducible exact Fr.refl _ _ | with_reducible refine Fr.lP (fun q : Int32 × HSt => q.2) (fun _ _ => ?_) | with_reducible refine Fr.iteP (fun q : Int32 × HSt => q.2) ?_ ?_ | with_reducible refine Fr.l1 (fun _ _ => ?_) | with_reducible refine Fr.ite ?_ ?_ | with_reducible refine Fr.sE (by assumption) (by first | decide | simp only [List.mem_cons, List.not_mem_nil, or_false, true_or, or_true, eq_self_iff_true]) ?_ | with_reducible refine Fr.jE (by assumption) ?_ | with_reducible refine Fr.rE (by assumption) (by first | decide | simp only [List.mem_cons, List.not_mem_nil, or_false, true_or, or_true, eq_self_iff_true]) ?_ | with_reducible refine Fr.iE (by assumption) ?_ ?_ | with_reducible refine Fr.tr (w_X12_oddsOf _ _ _ _ _ (by assumption)) (by first | decide | simp only [List.mem_cons, List.not_mem_nil, or_false, forall_eq_or_imp, forall_eq, true_or, or_true, and_self, eq_self_iff_true]) ?_)
theorem w_X12_counts (S : HSt) (_o : Nat) (a1 : Int32) (a2 : Int32) (r : Int32 × HSt) (e : f_X12_counts S _o a1 a2 = r) : Fr [(64, 28)] S r.2 := by
  rw [← e]
  exact v_X12_counts S _o a1 a2
noncomputable def f_X12_take (S : HSt) (_o : Nat) (a1 : Int32) (a2 : Int32) : Int64 × HSt := bd ((sI S 64 0 (0 : Int32))) fun S1 => if (f_X12_in S1 a1.toInt64 (0 : Int64) ((gI S1 68 (0 : Int32).toNatClampNeg) - (1 : Int32)).toInt64) = 0 then (pr ((-9000000000000000001 : Int64)) (S1)) else (if a2 = (-1000000 : Int32) then (bd ((sI S1 64 18 a1)) fun S4 => bd ((sI S4 64 19 a2)) fun S5 => bd (f_X12_first S5 64) fun r6 => bd (f_X12_keepLive r6 64) fun r7 => pr ((1 : Int64)) (r7)) else (if (f_X12_in S1 a2.toInt64 (0 : Int64) ((gI S1 68 (1 : Int32).toNatClampNeg) - (1 : Int32)).toInt64) = 0 then (pr ((-9000000000000000001 : Int64)) (S1)) else (bd ((sI S1 64 18 a1)) fun S9 => bd ((sI S9 64 19 a2)) fun S10 => bd (f_X12_first S10 64) fun r11 => bd (f_X12_keepLive r11 64) fun r12 => pr ((1 : Int64)) (r12))))
def p_X12_take (S : HSt) (_o : Nat) (a1 : Int32) (a2 : Int32) : Prop := (∀ S1 : HSt, (sI S 64 0 (0 : Int32)) = S1 → (¬ (f_X12_in S1 a1.toInt64 (0 : Int64) ((gI S1 68 (0 : Int32).toNatClampNeg) - (1 : Int32)).toInt64) = 0) → (a2 = (-1000000 : Int32)) → ∀ S4 : HSt, (sI S1 64 18 a1) = S4 → ∀ S5 : HSt, (sI S4 64 19 a2) = S5 → ∀ r6, f_X12_first S5 64 = r6 → p_X12_keepLive r6 64) ∧ (∀ S1 : HSt, (sI S 64 0 (0 : Int32)) = S1 → (¬ (f_X12_in S1 a1.toInt64 (0 : Int64) ((gI S1 68 (0 : Int32).toNatClampNeg) - (1 : Int32)).toInt64) = 0) → (¬ a2 = (-1000000 : Int32)) → (¬ (f_X12_in S1 a2.toInt64 (0 : Int64) ((gI S1 68 (1 : Int32).toNatClampNeg) - (1 : Int32)).toInt64) = 0) → ∀ S9 : HSt, (sI S1 64 18 a1) = S9 → ∀ S10 : HSt, (sI S9 64 19 a2) = S10 → ∀ r11, f_X12_first S10 64 = r11 → p_X12_keepLive r11 64)
set_option maxRecDepth 100000 in
theorem t_X12_take (G : GG) (l : Launch) {S : HSt} (hM : MS S) (a1 : Int32) (a2 : Int32) (hp : p_X12_take S 64 a1 a2) : AM G l yX12_take cX12_take 3 (some .long) (rmD 2 0 0) 0 0 [.ref 64, .int a1, .int a2] S (FP (some (.long (f_X12_take S 64 a1 a2).1)) ((f_X12_take S 64 a1 a2).2)) := by
  obtain ⟨h0, h1⟩ := hp
  refine AM.mk (by decide) (Nat.le_of_ble_eq_true rfl) ?_
  intro p e s m below meth c hC hSt _
  refine aw_aload_n hC 0 dX12_take_0 rfl rfl ?_
  refine aw_iconst (v := 0) hC dX12_take_1 (by decide) ?_
  refine aw_putI hC hSt 0 (ms_lt 64 (by decide) hM) (ms_k 64 12 0 (by decide) hM) rfl (by decide) w_955 rfl rfl rfl rfl dX12_take_2 ?_
  generalize eS1 : (sI S 64 0 (0 : Int32)) = S1
  have hM : MS S1 := MS.of (by rw [← eS1]; exact shp_sI _ _ _ _) hM
  refine aw_iload_n hC 1 dX12_take_5 rfl rfl ?_
  refine aw_i2l hC dX12_take_6 ?_
  refine aw_lconst (v := 0) hC dX12_take_7 (by decide) ?_
  refine aw_aload_n hC 0 dX12_take_8 rfl rfl ?_
  refine aw_getP (b := 68) hC hSt 5 (ms_lt 64 (by decide) hM) (ms_k 64 12 0 (by decide) hM) rfl (by decide) w_920 rfl (ms_p 5 68 (by decide) hM) dX12_take_9 ?_
  refine aw_iconst (v := 0) hC dX12_take_12 (by decide) ?_
  refine aw_iald hC hSt (ms_lt 68 (by decide) hM) (ms_k 68 14 172 (by decide) hM) (vp_len (n := 172) (ms_l 68 14 172 (by decide) hM) (by unfold vp_in; decide)) dX12_take_13 ?_
  refine aw_iconst (v := 1) hC dX12_take_14 (by decide) ?_
  refine aw_isub hC dX12_take_15 ?_
  refine aw_i2l hC dX12_take_16 ?_
  refine aw_cS3r hC hSt (t_X12_in G l  _ _ _) w_945 w_951 w_952 w_953 rfl rfl (by decide +kernel) ⟨Nat.le_of_ble_eq_true rfl, Nat.le_of_ble_eq_true rfl⟩ (Nat.le_of_ble_eq_true rfl) dX12_take_17 ⟨Nat.zero_le _, Nat.zero_le _⟩ ?_
  refine aw_if_eq hC 47 dX12_take_20 (by decide) (fun c2 => ?_) (fun c2 => ?_)
  · refine aw_ldc2 (v := -9000000000000000001) hC w_957 dX12_take_47 ?_
    refine aw_lret hC dX12_take_50 (Nat.le_refl _) (Nat.le_refl _) ?_
    exact FP.qJ ((bd_eq eS1).trans ((if_pos c2).trans (rfl)))
  · refine aw_iload_n hC 2 dX12_take_23 rfl rfl ?_
    refine aw_ldc (v := -1000000) hC w_923 dX12_take_24 ?_
    refine aw_icmp_eq hC 51 dX12_take_26 (by decide) (fun c3 => ?_) (fun c3 => ?_)
    · refine aw_aload_n hC 0 dX12_take_51 rfl rfl ?_
      refine aw_iload_n hC 1 dX12_take_52 rfl rfl ?_
      refine aw_putI hC hSt 18 (ms_lt 64 (by decide) hM) (ms_k 64 12 0 (by decide) hM) rfl (by decide) w_1052 rfl rfl rfl rfl dX12_take_53 ?_
      generalize eS4 : (sI S1 64 18 a1) = S4
      have hM : MS S4 := MS.of (by rw [← eS4]; exact shp_sI _ _ _ _) hM
      refine aw_aload_n hC 0 dX12_take_56 rfl rfl ?_
      refine aw_iload_n hC 2 dX12_take_57 rfl rfl ?_
      refine aw_putI hC hSt 19 (ms_lt 64 (by decide) hM) (ms_k 64 12 0 (by decide) hM) rfl (by decide) w_924 rfl rfl rfl rfl dX12_take_58 ?_
      generalize eS5 : (sI S4 64 19 a2) = S5
      have hM : MS S5 := MS.of (by rw [← eS5]; exact shp_sI _ _ _ _) hM
      refine aw_aload_n hC 0 dX12_take_61 rfl rfl ?_
      refine aw_cV0v hC hSt (t_X12_first G l hM ) w_1031 w_1071 w_1072 w_1073 w_953 rfl rfl (by decide +kernel) ⟨Nat.le_of_ble_eq_true rfl, Nat.le_of_ble_eq_true rfl⟩ (ms_lt 64 (by decide) hM) (ms_k 64 12 0 (by decide) hM) rfl (Nat.le_of_ble_eq_true rfl) dX12_take_62 ⟨Nat.zero_le _, Nat.zero_le _⟩ ?_
      generalize er6 : f_X12_first S5 64 = r6
      have hM : MS r6 := MS.of (by rw [← er6]; exact q_X12_first _ _) hM
      refine aw_aload_n hC 0 dX12_take_65 rfl rfl ?_
      refine aw_cV0v hC hSt (t_X12_keepLive G l hM  (h0 S1 eS1 c2 c3 S4 eS4 S5 eS5 r6 er6)) w_1040 w_1074 w_1075 w_1076 w_953 rfl rfl (by decide +kernel) ⟨Nat.le_of_ble_eq_true rfl, Nat.le_of_ble_eq_true rfl⟩ (ms_lt 64 (by decide) hM) (ms_k 64 12 0 (by decide) hM) rfl (Nat.le_of_ble_eq_true rfl) dX12_take_66 ⟨Nat.zero_le _, Nat.zero_le _⟩ ?_
      generalize er7 : f_X12_keepLive r6 64 = r7
      have hM : MS r7 := MS.of (by rw [← er7]; exact q_X12_keepLive _ _) hM
      refine aw_lconst (v := 1) hC dX12_take_69 (by decide) ?_
      refine aw_lret hC dX12_take_70 (Nat.le_refl _) (Nat.le_refl _) ?_
      exact FP.qJ ((bd_eq eS1).trans ((if_neg c2).trans ((if_pos c3).trans ((bd_eq eS4).trans ((bd_eq eS5).trans ((bd_eq er6).trans ((bd_eq er7).trans (rfl))))))))
    · refine aw_iload_n hC 2 dX12_take_29 rfl rfl ?_
      refine aw_i2l hC dX12_take_30 ?_
      refine aw_lconst (v := 0) hC dX12_take_31 (by decide) ?_
      refine aw_aload_n hC 0 dX12_take_32 rfl rfl ?_
      refine aw_getP (b := 68) hC hSt 5 (ms_lt 64 (by decide) hM) (ms_k 64 12 0 (by decide) hM) rfl (by decide) w_920 rfl (ms_p 5 68 (by decide) hM) dX12_take_33 ?_
      refine aw_iconst (v := 1) hC dX12_take_36 (by decide) ?_
      refine aw_iald hC hSt (ms_lt 68 (by decide) hM) (ms_k 68 14 172 (by decide) hM) (vp_len (n := 172) (ms_l 68 14 172 (by decide) hM) (by unfold vp_in; decide)) dX12_take_37 ?_
      refine aw_iconst (v := 1) hC dX12_take_38 (by decide) ?_
      refine aw_isub hC dX12_take_39 ?_
      refine aw_i2l hC dX12_take_40 ?_
      refine aw_cS3r hC hSt (t_X12_in G l  _ _ _) w_945 w_951 w_952 w_953 rfl rfl (by decide +kernel) ⟨Nat.le_of_ble_eq_true rfl, Nat.le_of_ble_eq_true rfl⟩ (Nat.le_of_ble_eq_true rfl) dX12_take_41 ⟨Nat.zero_le _, Nat.zero_le _⟩ ?_
      refine aw_if_ne hC 51 dX12_take_44 (by decide) (fun c8 => ?_) (fun c8 => ?_)
      · refine aw_aload_n hC 0 dX12_take_51 rfl rfl ?_
        refine aw_iload_n hC 1 dX12_take_52 rfl rfl ?_
        refine aw_putI hC hSt 18 (ms_lt 64 (by decide) hM) (ms_k 64 12 0 (by decide) hM) rfl (by decide) w_1052 rfl rfl rfl rfl dX12_take_53 ?_
        generalize eS9 : (sI S1 64 18 a1) = S9
        have hM : MS S9 := MS.of (by rw [← eS9]; exact shp_sI _ _ _ _) hM
        refine aw_aload_n hC 0 dX12_take_56 rfl rfl ?_
        refine aw_iload_n hC 2 dX12_take_57 rfl rfl ?_
        refine aw_putI hC hSt 19 (ms_lt 64 (by decide) hM) (ms_k 64 12 0 (by decide) hM) rfl (by decide) w_924 rfl rfl rfl rfl dX12_take_58 ?_
        generalize eS10 : (sI S9 64 19 a2) = S10
        have hM : MS S10 := MS.of (by rw [← eS10]; exact shp_sI _ _ _ _) hM
        refine aw_aload_n hC 0 dX12_take_61 rfl rfl ?_
        refine aw_cV0v hC hSt (t_X12_first G l hM ) w_1031 w_1071 w_1072 w_1073 w_953 rfl rfl (by decide +kernel) ⟨Nat.le_of_ble_eq_true rfl, Nat.le_of_ble_eq_true rfl⟩ (ms_lt 64 (by decide) hM) (ms_k 64 12 0 (by decide) hM) rfl (Nat.le_of_ble_eq_true rfl) dX12_take_62 ⟨Nat.zero_le _, Nat.zero_le _⟩ ?_
        generalize er11 : f_X12_first S10 64 = r11
        have hM : MS r11 := MS.of (by rw [← er11]; exact q_X12_first _ _) hM
        refine aw_aload_n hC 0 dX12_take_65 rfl rfl ?_
        refine aw_cV0v hC hSt (t_X12_keepLive G l hM  (h1 S1 eS1 c2 c3 c8 S9 eS9 S10 eS10 r11 er11)) w_1040 w_1074 w_1075 w_1076 w_953 rfl rfl (by decide +kernel) ⟨Nat.le_of_ble_eq_true rfl, Nat.le_of_ble_eq_true rfl⟩ (ms_lt 64 (by decide) hM) (ms_k 64 12 0 (by decide) hM) rfl (Nat.le_of_ble_eq_true rfl) dX12_take_66 ⟨Nat.zero_le _, Nat.zero_le _⟩ ?_
        generalize er12 : f_X12_keepLive r11 64 = r12
        have hM : MS r12 := MS.of (by rw [← er12]; exact q_X12_keepLive _ _) hM
        refine aw_lconst (v := 1) hC dX12_take_69 (by decide) ?_
        refine aw_lret hC dX12_take_70 (Nat.le_refl _) (Nat.le_refl _) ?_
        exact FP.qJ ((bd_eq eS1).trans ((if_neg c2).trans ((if_neg c3).trans ((if_neg c8).trans ((bd_eq eS9).trans ((bd_eq eS10).trans ((bd_eq er11).trans ((bd_eq er12).trans (rfl)))))))))
      · refine aw_ldc2 (v := -9000000000000000001) hC w_957 dX12_take_47 ?_
        refine aw_lret hC dX12_take_50 (Nat.le_refl _) (Nat.le_refl _) ?_
        exact FP.qJ ((bd_eq eS1).trans ((if_neg c2).trans ((if_neg c3).trans ((if_pos c8).trans (rfl)))))
theorem q_X12_take (S : HSt) (_o : Nat) (a1 : Int32) (a2 : Int32) : shp ((f_X12_take S _o a1 a2).2) = shp S := by
  unfold f_X12_take
  repeat' (first | with_reducible refine shpr1 ?_ | with_reducible rfl | with_reducible refine (q_X12_first _ _).trans ?_ | with_reducible refine (q_X12_keepLive _ _).trans ?_ | with_reducible refine (shp_sI _ _ _ _).trans ?_ | with_reducible refine (shp_sJ _ _ _ _).trans ?_ | with_reducible refine shi ?_ ?_ | with_reducible refine shb (fun _ _ => ?_) | with_reducible refine shiP (fun q : Int64 × HSt => q.2) ?_ ?_ | with_reducible refine shbP (fun q : Int64 × HSt => q.2) (fun _ _ => ?_) | (subst_vars; with_reducible rfl) | (subst_vars; with_reducible refine (q_X12_first _ _).trans ?_) | (subst_vars; with_reducible refine (q_X12_keepLive _ _).trans ?_) | (subst_vars; with_reducible refine (shp_sI _ _ _ _).trans ?_) | (subst_vars; with_reducible refine (shp_sJ _ _ _ _).trans ?_) | (subst_vars; with_reducible refine shi ?_ ?_) | (subst_vars; with_reducible refine shb (fun _ _ => ?_)))
theorem v_X12_take (S : HSt) (_o : Nat) (a1 : Int32) (a2 : Int32) : Fr [(64, 0), (64, 18), (64, 19), (64, 20), (64, 21), (64, 22), (64, 23), (64, 24), (64, 25), (64, 26), (71, 1000)] S ((f_X12_take S _o a1 a2).2) := by
  unfold f_X12_take
  repeat' (first | with_reducible refine frpr1 ?_ | with_reducible exact Fr.refl _ _ | with_reducible refine Fr.lP (fun q : Int64 × HSt => q.2) (fun _ _ => ?_) | with_reducible refine Fr.iteP (fun q : Int64 × HSt => q.2) ?_ ?_ | with_reducible refine Fr.l1 (fun _ _ => ?_) | with_reducible refine Fr.ite ?_ ?_ | with_reducible refine Fr.sE (by assumption) (by first | decide | simp only [List.mem_cons, List.not_mem_nil, or_false, true_or, or_true, eq_self_iff_true]) ?_ | with_reducible refine Fr.jE (by assumption) ?_ | with_reducible refine Fr.rE (by assumption) (by first | decide | simp only [List.mem_cons, List.not_mem_nil, or_false, true_or, or_true, eq_self_iff_true]) ?_ | with_reducible refine Fr.iE (by assumption) ?_ ?_ | with_reducible refine Fr.tr (w_X12_first _ _ _ (by assumption)) (by first | decide | simp only [List.mem_cons, List.not_mem_nil, or_false, forall_eq_or_imp, forall_eq, true_or, or_true, and_self, eq_self_iff_true]) ?_ | with_reducible refine Fr.tr (w_X12_keepLive _ _ _ (by assumption)) (by first | decide | simp only [List.mem_cons, List.not_mem_nil, or_false, forall_eq_or_imp, forall_eq, true_or, or_true, and_self, eq_self_iff_true]) ?_)
theorem w_X12_take (S : HSt) (_o : Nat) (a1 : Int32) (a2 : Int32) (r : Int64 × HSt) (e : f_X12_take S _o a1 a2 = r) : Fr [(64, 0), (64, 18), (64, 19), (64, 20), (64, 21), (64, 22), (64, 23), (64, 24), (64, 25), (64, 26), (71, 1000)] S r.2 := by
  rw [← e]
  exact v_X12_take S _o a1 a2
noncomputable def f_X12_tick (S : HSt) (_o : Nat) (a1 : Int32) (a2 : Int32) (a3 : Int32) (a4 : Int32) : Int64 × HSt := bd ((sI S 64 0 (0 : Int32))) fun S1 => if (f_X12_in S1 a1.toInt64 (0 : Int64) (1 : Int64)) = 0 then (pr ((-9000000000000000001 : Int64)) (S1)) else (if (f_X12_in S1 a2.toInt64 (0 : Int64) (4 : Int64)) = 0 then (pr ((-9000000000000000001 : Int64)) (S1)) else (if (f_X12_in S1 a3.toInt64 (0 : Int64) (9 : Int64)) = 0 then (pr ((-9000000000000000001 : Int64)) (S1)) else (if (f_X12_in S1 a4.toInt64 (0 : Int64) (15 : Int64)) = 0 then (pr ((-9000000000000000001 : Int64)) (S1)) else (bd (f_X12_layLive S1 64) fun r6 => if (gI r6 64 7) = 0 then (pr ((-9000000000000000002 : Int64)) (r6)) else (if (f_X12_isStill r6 64) = 0 then (bd ((if a1 = (1 : Int32) then (1 : Int32) else (0 : Int32))) fun x10 => bd (f_X12_doTick r6 64 x10 a2 a3 a4) fun r11 => bd (f_X12_keepLive r11 64) fun r12 => pr ((gI r12 64 26).toInt64) (r12)) else (pr ((-9000000000000000002 : Int64)) (r6)))))))
def p_X12_tick (S : HSt) (_o : Nat) (a1 : Int32) (a2 : Int32) (a3 : Int32) (a4 : Int32) : Prop := (∀ S1 : HSt, (sI S 64 0 (0 : Int32)) = S1 → (¬ (f_X12_in S1 a1.toInt64 (0 : Int64) (1 : Int64)) = 0) → (¬ (f_X12_in S1 a2.toInt64 (0 : Int64) (4 : Int64)) = 0) → (¬ (f_X12_in S1 a3.toInt64 (0 : Int64) (9 : Int64)) = 0) → (¬ (f_X12_in S1 a4.toInt64 (0 : Int64) (15 : Int64)) = 0) → ∀ r6, f_X12_layLive S1 64 = r6 → (¬ (gI r6 64 7) = 0) → ((f_X12_isStill r6 64) = 0) → ∀ x10 : Int32, (if a1 = (1 : Int32) then (1 : Int32) else (0 : Int32)) = x10 → p_X12_doTick r6 64 x10 a2 a3 a4) ∧ (∀ S1 : HSt, (sI S 64 0 (0 : Int32)) = S1 → (¬ (f_X12_in S1 a1.toInt64 (0 : Int64) (1 : Int64)) = 0) → (¬ (f_X12_in S1 a2.toInt64 (0 : Int64) (4 : Int64)) = 0) → (¬ (f_X12_in S1 a3.toInt64 (0 : Int64) (9 : Int64)) = 0) → (¬ (f_X12_in S1 a4.toInt64 (0 : Int64) (15 : Int64)) = 0) → ∀ r6, f_X12_layLive S1 64 = r6 → (¬ (gI r6 64 7) = 0) → ((f_X12_isStill r6 64) = 0) → ∀ x10 : Int32, (if a1 = (1 : Int32) then (1 : Int32) else (0 : Int32)) = x10 → ∀ r11, f_X12_doTick r6 64 x10 a2 a3 a4 = r11 → p_X12_keepLive r11 64)
set_option maxRecDepth 100000 in
theorem t_X12_tick (G : GG) (l : Launch) {S : HSt} (hM : MS S) (a1 : Int32) (a2 : Int32) (a3 : Int32) (a4 : Int32) (hp : p_X12_tick S 64 a1 a2 a3 a4) : AM G l yX12_tick cX12_tick 5 (some .long) (rmD 3 0 0) 0 0 [.ref 64, .int a1, .int a2, .int a3, .int a4] S (FP (some (.long (f_X12_tick S 64 a1 a2 a3 a4).1)) ((f_X12_tick S 64 a1 a2 a3 a4).2)) := by
  obtain ⟨h0, h1⟩ := hp
  refine AM.mk (by decide) (Nat.le_of_ble_eq_true rfl) ?_
  intro p e s m below meth c hC hSt _
  refine aw_aload_n hC 0 dX12_tick_0 rfl rfl ?_
  refine aw_iconst (v := 0) hC dX12_tick_1 (by decide) ?_
  refine aw_putI hC hSt 0 (ms_lt 64 (by decide) hM) (ms_k 64 12 0 (by decide) hM) rfl (by decide) w_955 rfl rfl rfl rfl dX12_tick_2 ?_
  generalize eS1 : (sI S 64 0 (0 : Int32)) = S1
  have hM : MS S1 := MS.of (by rw [← eS1]; exact shp_sI _ _ _ _) hM
  refine aw_iload_n hC 1 dX12_tick_5 rfl rfl ?_
  refine aw_i2l hC dX12_tick_6 ?_
  refine aw_lconst (v := 0) hC dX12_tick_7 (by decide) ?_
  refine aw_lconst (v := 1) hC dX12_tick_8 (by decide) ?_
  refine aw_cS3r hC hSt (t_X12_in G l  _ _ _) w_945 w_951 w_952 w_953 rfl rfl (by decide +kernel) ⟨Nat.le_of_ble_eq_true rfl, Nat.le_of_ble_eq_true rfl⟩ (Nat.le_of_ble_eq_true rfl) dX12_tick_9 ⟨Nat.zero_le _, Nat.zero_le _⟩ ?_
  refine aw_if_eq hC 52 dX12_tick_12 (by decide) (fun c2 => ?_) (fun c2 => ?_)
  · refine aw_ldc2 (v := -9000000000000000001) hC w_957 dX12_tick_52 ?_
    refine aw_lret hC dX12_tick_55 (Nat.le_refl _) (Nat.le_refl _) ?_
    exact FP.qJ ((bd_eq eS1).trans ((if_pos c2).trans (rfl)))
  · refine aw_iload_n hC 2 dX12_tick_15 rfl rfl ?_
    refine aw_i2l hC dX12_tick_16 ?_
    refine aw_lconst (v := 0) hC dX12_tick_17 (by decide) ?_
    refine aw_ldc2 (v := 4) hC w_1148 dX12_tick_18 ?_
    refine aw_cS3r hC hSt (t_X12_in G l  _ _ _) w_945 w_951 w_952 w_953 rfl rfl (by decide +kernel) ⟨Nat.le_of_ble_eq_true rfl, Nat.le_of_ble_eq_true rfl⟩ (Nat.le_of_ble_eq_true rfl) dX12_tick_21 ⟨Nat.zero_le _, Nat.zero_le _⟩ ?_
    refine aw_if_eq hC 52 dX12_tick_24 (by decide) (fun c3 => ?_) (fun c3 => ?_)
    · refine aw_ldc2 (v := -9000000000000000001) hC w_957 dX12_tick_52 ?_
      refine aw_lret hC dX12_tick_55 (Nat.le_refl _) (Nat.le_refl _) ?_
      exact FP.qJ ((bd_eq eS1).trans ((if_neg c2).trans ((if_pos c3).trans (rfl))))
    · refine aw_iload_n hC 3 dX12_tick_27 rfl rfl ?_
      refine aw_i2l hC dX12_tick_28 ?_
      refine aw_lconst (v := 0) hC dX12_tick_29 (by decide) ?_
      refine aw_ldc2 (v := 9) hC w_1149 dX12_tick_30 ?_
      refine aw_cS3r hC hSt (t_X12_in G l  _ _ _) w_945 w_951 w_952 w_953 rfl rfl (by decide +kernel) ⟨Nat.le_of_ble_eq_true rfl, Nat.le_of_ble_eq_true rfl⟩ (Nat.le_of_ble_eq_true rfl) dX12_tick_33 ⟨Nat.zero_le _, Nat.zero_le _⟩ ?_
      refine aw_if_eq hC 52 dX12_tick_36 (by decide) (fun c4 => ?_) (fun c4 => ?_)
      · refine aw_ldc2 (v := -9000000000000000001) hC w_957 dX12_tick_52 ?_
        refine aw_lret hC dX12_tick_55 (Nat.le_refl _) (Nat.le_refl _) ?_
        exact FP.qJ ((bd_eq eS1).trans ((if_neg c2).trans ((if_neg c3).trans ((if_pos c4).trans (rfl)))))
      · refine aw_iload hC 4 dX12_tick_39 rfl ?_
        refine aw_i2l hC dX12_tick_41 ?_
        refine aw_lconst (v := 0) hC dX12_tick_42 (by decide) ?_
        refine aw_ldc2 (v := 15) hC w_1150 dX12_tick_43 ?_
        refine aw_cS3r hC hSt (t_X12_in G l  _ _ _) w_945 w_951 w_952 w_953 rfl rfl (by decide +kernel) ⟨Nat.le_of_ble_eq_true rfl, Nat.le_of_ble_eq_true rfl⟩ (Nat.le_of_ble_eq_true rfl) dX12_tick_46 ⟨Nat.zero_le _, Nat.zero_le _⟩ ?_
        refine aw_if_ne hC 56 dX12_tick_49 (by decide) (fun c5 => ?_) (fun c5 => ?_)
        · refine aw_aload_n hC 0 dX12_tick_56 rfl rfl ?_
          refine aw_cV0v hC hSt (t_X12_layLive G l hM ) w_1091 w_1152 w_1153 w_1154 w_953 rfl rfl (by decide +kernel) ⟨Nat.le_of_ble_eq_true rfl, Nat.le_of_ble_eq_true rfl⟩ (ms_lt 64 (by decide) hM) (ms_k 64 12 0 (by decide) hM) rfl (Nat.le_of_ble_eq_true rfl) dX12_tick_57 ⟨Nat.zero_le _, Nat.zero_le _⟩ ?_
          generalize er6 : f_X12_layLive S1 64 = r6
          have hM : MS r6 := MS.of (by rw [← er6]; exact q_X12_layLive _ _) hM
          refine aw_aload_n hC 0 dX12_tick_60 rfl rfl ?_
          refine aw_getI hC hSt 7 (ms_lt 64 (by decide) hM) (ms_k 64 12 0 (by decide) hM) rfl (by decide) w_1051 rfl dX12_tick_61 ?_
          refine aw_if_eq hC 74 dX12_tick_64 (by decide) (fun c7 => ?_) (fun c7 => ?_)
          · refine aw_ldc2 (v := -9000000000000000002) hC w_1151 dX12_tick_74 ?_
            refine aw_lret hC dX12_tick_77 (Nat.le_refl _) (Nat.le_refl _) ?_
            exact FP.qJ ((bd_eq eS1).trans ((if_neg c2).trans ((if_neg c3).trans ((if_neg c4).trans ((if_neg c5).trans ((bd_eq er6).trans ((if_pos c7).trans (rfl))))))))
          · refine aw_aload_n hC 0 dX12_tick_67 rfl rfl ?_
            refine aw_cV0r hC hSt (t_X12_isStill G l hM ) w_1099 w_1118 w_1119 w_1120 w_953 rfl rfl (by decide +kernel) ⟨Nat.le_of_ble_eq_true rfl, Nat.le_of_ble_eq_true rfl⟩ (ms_lt 64 (by decide) hM) (ms_k 64 12 0 (by decide) hM) rfl (Nat.le_of_ble_eq_true rfl) dX12_tick_68 ⟨Nat.zero_le _, Nat.zero_le _⟩ ?_
            refine aw_if_eq hC 78 dX12_tick_71 (by decide) (fun c8 => ?_) (fun c8 => ?_)
            · refine aw_aload_n hC 0 dX12_tick_78 rfl rfl ?_
              refine aw_iload_n hC 1 dX12_tick_79 rfl rfl ?_
              refine aw_iconst (v := 1) hC dX12_tick_80 (by decide) ?_
              refine aw_cut (S' := r6) (pc' := 89) (lv' := [(0, .ref 64), (1, .int a1), (2, .int a2), (3, .int a3), (4, .int a4)]) (st' := [.int (if a1 = (1 : Int32) then (1 : Int32) else (0 : Int32)), .ref 64]) ?_ (fun Jc9 => ?_)
              · generalize ex10 : (if a1 = (1 : Int32) then (1 : Int32) else (0 : Int32)) = x10
                refine aw_iload_n hC 2 dX12_tick_89 rfl rfl ?_
                refine aw_iload_n hC 3 dX12_tick_90 rfl rfl ?_
                refine aw_iload hC 4 dX12_tick_91 rfl ?_
                refine aw_cV4v hC hSt (t_X12_doTick G l hM _ _ _ _ (h0 S1 eS1 c2 c3 c4 c5 r6 er6 c7 c8 x10 ex10)) w_1110 w_1155 w_1156 w_1157 w_953 rfl rfl (by decide +kernel) ⟨Nat.le_of_ble_eq_true rfl, Nat.le_of_ble_eq_true rfl⟩ (ms_lt 64 (by decide) hM) (ms_k 64 12 0 (by decide) hM) rfl (Nat.le_of_ble_eq_true rfl) dX12_tick_93 ⟨Nat.zero_le _, Nat.zero_le _⟩ ?_
                generalize er11 : f_X12_doTick r6 64 x10 a2 a3 a4 = r11
                have hM : MS r11 := MS.of (by rw [← er11]; exact q_X12_doTick _ _ _ _ _ _) hM
                refine aw_aload_n hC 0 dX12_tick_96 rfl rfl ?_
                refine aw_cV0v hC hSt (t_X12_keepLive G l hM  (h1 S1 eS1 c2 c3 c4 c5 r6 er6 c7 c8 x10 ex10 r11 er11)) w_1040 w_1074 w_1075 w_1076 w_953 rfl rfl (by decide +kernel) ⟨Nat.le_of_ble_eq_true rfl, Nat.le_of_ble_eq_true rfl⟩ (ms_lt 64 (by decide) hM) (ms_k 64 12 0 (by decide) hM) rfl (Nat.le_of_ble_eq_true rfl) dX12_tick_97 ⟨Nat.zero_le _, Nat.zero_le _⟩ ?_
                generalize er12 : f_X12_keepLive r11 64 = r12
                have hM : MS r12 := MS.of (by rw [← er12]; exact q_X12_keepLive _ _) hM
                refine aw_aload_n hC 0 dX12_tick_100 rfl rfl ?_
                refine aw_getI hC hSt 26 (ms_lt 64 (by decide) hM) (ms_k 64 12 0 (by decide) hM) rfl (by decide) w_1038 rfl dX12_tick_101 ?_
                refine aw_i2l hC dX12_tick_104 ?_
                refine aw_lret hC dX12_tick_105 (Nat.le_refl _) (Nat.le_refl _) ?_
                exact FP.qJ ((bd_eq eS1).trans ((if_neg c2).trans ((if_neg c3).trans ((if_neg c4).trans ((if_neg c5).trans ((bd_eq er6).trans ((if_neg c7).trans ((if_pos c8).trans ((bd_eq ex10).trans ((bd_eq er11).trans ((bd_eq er12).trans (rfl))))))))))))
              · refine aw_icmp_ne hC 88 dX12_tick_81 (by decide) (fun c9 => ?_) (fun c9 => ?_)
                · refine aw_iconst (v := 0) hC dX12_tick_88 (by decide) ?_
                  simp only [bd_def, if_neg c9] at Jc9 ⊢
                  exact Jc9
                · refine aw_iconst (v := 1) hC dX12_tick_84 (by decide) ?_
                  refine aw_goto hC 89 dX12_tick_85 (by decide) ?_
                  simp only [bd_def, if_pos c9] at Jc9 ⊢
                  exact Jc9
            · refine aw_ldc2 (v := -9000000000000000002) hC w_1151 dX12_tick_74 ?_
              refine aw_lret hC dX12_tick_77 (Nat.le_refl _) (Nat.le_refl _) ?_
              exact FP.qJ ((bd_eq eS1).trans ((if_neg c2).trans ((if_neg c3).trans ((if_neg c4).trans ((if_neg c5).trans ((bd_eq er6).trans ((if_neg c7).trans ((if_neg c8).trans (rfl)))))))))
        · refine aw_ldc2 (v := -9000000000000000001) hC w_957 dX12_tick_52 ?_
          refine aw_lret hC dX12_tick_55 (Nat.le_refl _) (Nat.le_refl _) ?_
          exact FP.qJ ((bd_eq eS1).trans ((if_neg c2).trans ((if_neg c3).trans ((if_neg c4).trans ((if_pos c5).trans (rfl))))))
theorem q_X12_tick (S : HSt) (_o : Nat) (a1 : Int32) (a2 : Int32) (a3 : Int32) (a4 : Int32) : shp ((f_X12_tick S _o a1 a2 a3 a4).2) = shp S := by
  unfold f_X12_tick
  repeat' (first | with_reducible refine shpr1 ?_ | with_reducible rfl | with_reducible refine (q_X12_doTick _ _ _ _ _ _).trans ?_ | with_reducible refine (q_X12_keepLive _ _).trans ?_ | with_reducible refine (q_X12_layLive _ _).trans ?_ | with_reducible refine (shp_sI _ _ _ _).trans ?_ | with_reducible refine (shp_sJ _ _ _ _).trans ?_ | with_reducible refine shi ?_ ?_ | with_reducible refine shb (fun _ _ => ?_) | with_reducible refine shiP (fun q : Int64 × HSt => q.2) ?_ ?_ | with_reducible refine shbP (fun q : Int64 × HSt => q.2) (fun _ _ => ?_) | (subst_vars; with_reducible rfl) | (subst_vars; with_reducible refine (q_X12_doTick _ _ _ _ _ _).trans ?_) | (subst_vars; with_reducible refine (q_X12_keepLive _ _).trans ?_) | (subst_vars; with_reducible refine (q_X12_layLive _ _).trans ?_) | (subst_vars; with_reducible refine (shp_sI _ _ _ _).trans ?_) | (subst_vars; with_reducible refine (shp_sJ _ _ _ _).trans ?_) | (subst_vars; with_reducible refine shi ?_ ?_) | (subst_vars; with_reducible refine shb (fun _ _ => ?_)))
theorem v_X12_tick (S : HSt) (_o : Nat) (a1 : Int32) (a2 : Int32) (a3 : Int32) (a4 : Int32) : Fr [(64, 0), (64, 20), (64, 21), (64, 22), (64, 23), (64, 24), (64, 25), (64, 26), (71, 1000)] S ((f_X12_tick S _o a1 a2 a3 a4).2) := by
  unfold f_X12_tick
  repeat' (first | with_reducible refine frpr1 ?_ | with_reducible exact Fr.refl _ _ | with_reducible refine Fr.lP (fun q : Int64 × HSt => q.2) (fun _ _ => ?_) | with_reducible refine Fr.iteP (fun q : Int64 × HSt => q.2) ?_ ?_ | with_reducible refine Fr.l1 (fun _ _ => ?_) | with_reducible refine Fr.ite ?_ ?_ | with_reducible refine Fr.sE (by assumption) (by first | decide | simp only [List.mem_cons, List.not_mem_nil, or_false, true_or, or_true, eq_self_iff_true]) ?_ | with_reducible refine Fr.jE (by assumption) ?_ | with_reducible refine Fr.rE (by assumption) (by first | decide | simp only [List.mem_cons, List.not_mem_nil, or_false, true_or, or_true, eq_self_iff_true]) ?_ | with_reducible refine Fr.iE (by assumption) ?_ ?_ | with_reducible refine Fr.tr (w_X12_doTick _ _ _ _ _ _ _ (by assumption)) (by first | decide | simp only [List.mem_cons, List.not_mem_nil, or_false, forall_eq_or_imp, forall_eq, true_or, or_true, and_self, eq_self_iff_true]) ?_ | with_reducible refine Fr.tr (w_X12_keepLive _ _ _ (by assumption)) (by first | decide | simp only [List.mem_cons, List.not_mem_nil, or_false, forall_eq_or_imp, forall_eq, true_or, or_true, and_self, eq_self_iff_true]) ?_ | with_reducible refine Fr.tr (w_X12_layLive _ _ _ (by assumption)) (by first | decide | simp only [List.mem_cons, List.not_mem_nil, or_false, forall_eq_or_imp, forall_eq, true_or, or_true, and_self, eq_self_iff_true]) ?_)
theorem w_X12_tick (S : HSt) (_o : Nat) (a1 : Int32) (a2 : Int32) (a3 : Int32) (a4 : Int32) (r : Int64 × HSt) (e : f_X12_tick S _o a1 a2 a3 a4 = r) : Fr [(64, 0), (64, 20), (64, 21), (64, 22), (64, 23), (64, 24), (64, 25), (64, 26), (71, 1000)] S r.2 := by
  rw [← e]
  exact v_X12_tick S _o a1 a2 a3 a4
noncomputable def f_X12_hurl (S : HSt) (_o : Nat) (a1 : Int32) (a2 : Int32) : Int64 × HSt := bd ((sI S 64 0 (0 : Int32))) fun S1 => if (f_X12_in S1 a1.toInt64 (0 : Int64) (1 : Int64)) = 0 then (pr ((-9000000000000000001 : Int64)) (S1)) else (if (f_X12_isBeast S1 64 a2) = 0 then (pr ((-9000000000000000001 : Int64)) (S1)) else (bd (f_X12_layLive S1 64) fun r4 => bd ((if a1 = (1 : Int32) then (1 : Int32) else (0 : Int32))) fun x6 => bd (f_X12_missBy r4 64 x6 a2 (gI r4 64 21)) fun r7 => bd (r7.1) fun x8 => bd (f_X12_shut r7.2 64) fun r9 => bd (f_X12_keepLive r9 64) fun r10 => pr (x8.toInt64) (r10)))
def p_X12_hurl (S : HSt) (_o : Nat) (a1 : Int32) (a2 : Int32) : Prop := (∀ S1 : HSt, (sI S 64 0 (0 : Int32)) = S1 → (¬ (f_X12_in S1 a1.toInt64 (0 : Int64) (1 : Int64)) = 0) → (¬ (f_X12_isBeast S1 64 a2) = 0) → ∀ r4, f_X12_layLive S1 64 = r4 → ∀ x6 : Int32, (if a1 = (1 : Int32) then (1 : Int32) else (0 : Int32)) = x6 → p_X12_missBy r4 64 x6 a2 (gI r4 64 21)) ∧ (∀ S1 : HSt, (sI S 64 0 (0 : Int32)) = S1 → (¬ (f_X12_in S1 a1.toInt64 (0 : Int64) (1 : Int64)) = 0) → (¬ (f_X12_isBeast S1 64 a2) = 0) → ∀ r4, f_X12_layLive S1 64 = r4 → ∀ x6 : Int32, (if a1 = (1 : Int32) then (1 : Int32) else (0 : Int32)) = x6 → ∀ r7, f_X12_missBy r4 64 x6 a2 (gI r4 64 21) = r7 → ∀ x8 : Int32, r7.1 = x8 → ∀ r9, f_X12_shut r7.2 64 = r9 → p_X12_keepLive r9 64)
set_option maxRecDepth 100000 in
theorem t_X12_hurl (G : GG) (l : Launch) {S : HSt} (hM : MS S) (a1 : Int32) (a2 : Int32) (hp : p_X12_hurl S 64 a1 a2) : AM G l yX12_hurl cX12_hurl 4 (some .long) (rmD 2 0 0) 0 0 [.ref 64, .int a1, .int a2] S (FP (some (.long (f_X12_hurl S 64 a1 a2).1)) ((f_X12_hurl S 64 a1 a2).2)) := by
  obtain ⟨h0, h1⟩ := hp
  refine AM.mk (by decide) (Nat.le_of_ble_eq_true rfl) ?_
  intro p e s m below meth c hC hSt _
  refine aw_aload_n hC 0 dX12_hurl_0 rfl rfl ?_
  refine aw_iconst (v := 0) hC dX12_hurl_1 (by decide) ?_
  refine aw_putI hC hSt 0 (ms_lt 64 (by decide) hM) (ms_k 64 12 0 (by decide) hM) rfl (by decide) w_955 rfl rfl rfl rfl dX12_hurl_2 ?_
  generalize eS1 : (sI S 64 0 (0 : Int32)) = S1
  have hM : MS S1 := MS.of (by rw [← eS1]; exact shp_sI _ _ _ _) hM
  refine aw_iload_n hC 1 dX12_hurl_5 rfl rfl ?_
  refine aw_i2l hC dX12_hurl_6 ?_
  refine aw_lconst (v := 0) hC dX12_hurl_7 (by decide) ?_
  refine aw_lconst (v := 1) hC dX12_hurl_8 (by decide) ?_
  refine aw_cS3r hC hSt (t_X12_in G l  _ _ _) w_945 w_951 w_952 w_953 rfl rfl (by decide +kernel) ⟨Nat.le_of_ble_eq_true rfl, Nat.le_of_ble_eq_true rfl⟩ (Nat.le_of_ble_eq_true rfl) dX12_hurl_9 ⟨Nat.zero_le _, Nat.zero_le _⟩ ?_
  refine aw_if_eq hC 23 dX12_hurl_12 (by decide) (fun c2 => ?_) (fun c2 => ?_)
  · refine aw_ldc2 (v := -9000000000000000001) hC w_957 dX12_hurl_23 ?_
    refine aw_lret hC dX12_hurl_26 (Nat.le_refl _) (Nat.le_refl _) ?_
    exact FP.qJ ((bd_eq eS1).trans ((if_pos c2).trans (rfl)))
  · refine aw_aload_n hC 0 dX12_hurl_15 rfl rfl ?_
    refine aw_iload_n hC 2 dX12_hurl_16 rfl rfl ?_
    refine aw_cV1r hC hSt (t_X12_isBeast G l hM _) w_1081 w_1159 w_1160 w_1161 w_953 rfl rfl (by decide +kernel) ⟨Nat.le_of_ble_eq_true rfl, Nat.le_of_ble_eq_true rfl⟩ (ms_lt 64 (by decide) hM) (ms_k 64 12 0 (by decide) hM) rfl (Nat.le_of_ble_eq_true rfl) dX12_hurl_17 ⟨Nat.zero_le _, Nat.zero_le _⟩ ?_
    refine aw_if_ne hC 27 dX12_hurl_20 (by decide) (fun c3 => ?_) (fun c3 => ?_)
    · refine aw_aload_n hC 0 dX12_hurl_27 rfl rfl ?_
      refine aw_cV0v hC hSt (t_X12_layLive G l hM ) w_1091 w_1152 w_1153 w_1154 w_953 rfl rfl (by decide +kernel) ⟨Nat.le_of_ble_eq_true rfl, Nat.le_of_ble_eq_true rfl⟩ (ms_lt 64 (by decide) hM) (ms_k 64 12 0 (by decide) hM) rfl (Nat.le_of_ble_eq_true rfl) dX12_hurl_28 ⟨Nat.zero_le _, Nat.zero_le _⟩ ?_
      generalize er4 : f_X12_layLive S1 64 = r4
      have hM : MS r4 := MS.of (by rw [← er4]; exact q_X12_layLive _ _) hM
      refine aw_aload_n hC 0 dX12_hurl_31 rfl rfl ?_
      refine aw_iload_n hC 1 dX12_hurl_32 rfl rfl ?_
      refine aw_iconst (v := 1) hC dX12_hurl_33 (by decide) ?_
      refine aw_cut (S' := r4) (pc' := 42) (lv' := [(0, .ref 64), (1, .int a1), (2, .int a2)]) (st' := [.int (if a1 = (1 : Int32) then (1 : Int32) else (0 : Int32)), .ref 64]) ?_ (fun Jc5 => ?_)
      · generalize ex6 : (if a1 = (1 : Int32) then (1 : Int32) else (0 : Int32)) = x6
        refine aw_iload_n hC 2 dX12_hurl_42 rfl rfl ?_
        refine aw_aload_n hC 0 dX12_hurl_43 rfl rfl ?_
        refine aw_getI hC hSt 21 (ms_lt 64 (by decide) hM) (ms_k 64 12 0 (by decide) hM) rfl (by decide) w_1033 rfl dX12_hurl_44 ?_
        refine aw_cV3r hC hSt (t_X12_missBy G l hM _ _ _ (h0 S1 eS1 c2 c3 r4 er4 x6 ex6)) w_1116 w_1128 w_1129 w_1130 w_953 rfl rfl (by decide +kernel) ⟨Nat.le_of_ble_eq_true rfl, Nat.le_of_ble_eq_true rfl⟩ (ms_lt 64 (by decide) hM) (ms_k 64 12 0 (by decide) hM) rfl (Nat.le_of_ble_eq_true rfl) dX12_hurl_47 ⟨Nat.zero_le _, Nat.zero_le _⟩ ?_
        generalize er7 : f_X12_missBy r4 64 x6 a2 (gI r4 64 21) = r7
        have hM : MS r7.2 := MS.of (by rw [← er7]; exact q_X12_missBy _ _ _ _ _) hM
        refine aw_istore_n hC [(3, .int _), (0, .ref 64), (1, .int _), (2, .int _)] dX12_hurl_50 rfl (by decide) rfl ?_
        generalize ex8 : r7.1 = x8
        refine aw_aload_n hC 1 dX12_hurl_51 rfl rfl ?_
        refine aw_cV0v hC hSt (t_X12_shut G l hM ) w_1111 w_1113 w_1114 w_1115 w_953 rfl rfl (by decide +kernel) ⟨Nat.le_of_ble_eq_true rfl, Nat.le_of_ble_eq_true rfl⟩ (ms_lt 64 (by decide) hM) (ms_k 64 12 0 (by decide) hM) rfl (Nat.le_of_ble_eq_true rfl) dX12_hurl_52 ⟨Nat.zero_le _, Nat.zero_le _⟩ ?_
        generalize er9 : f_X12_shut r7.2 64 = r9
        have hM : MS r9 := MS.of (by rw [← er9]; exact q_X12_shut _ _) hM
        refine aw_aload_n hC 1 dX12_hurl_55 rfl rfl ?_
        refine aw_cV0v hC hSt (t_X12_keepLive G l hM  (h1 S1 eS1 c2 c3 r4 er4 x6 ex6 r7 er7 x8 ex8 r9 er9)) w_1040 w_1074 w_1075 w_1076 w_953 rfl rfl (by decide +kernel) ⟨Nat.le_of_ble_eq_true rfl, Nat.le_of_ble_eq_true rfl⟩ (ms_lt 64 (by decide) hM) (ms_k 64 12 0 (by decide) hM) rfl (Nat.le_of_ble_eq_true rfl) dX12_hurl_56 ⟨Nat.zero_le _, Nat.zero_le _⟩ ?_
        generalize er10 : f_X12_keepLive r9 64 = r10
        have hM : MS r10 := MS.of (by rw [← er10]; exact q_X12_keepLive _ _) hM
        refine aw_iload_n hC 0 dX12_hurl_59 rfl rfl ?_
        refine aw_i2l hC dX12_hurl_60 ?_
        refine aw_lret hC dX12_hurl_61 (Nat.le_refl _) (Nat.le_refl _) ?_
        exact FP.qJ ((bd_eq eS1).trans ((if_neg c2).trans ((if_neg c3).trans ((bd_eq er4).trans ((bd_eq ex6).trans ((bd_eq er7).trans ((bd_eq ex8).trans ((bd_eq er9).trans ((bd_eq er10).trans (rfl))))))))))
      · refine aw_icmp_ne hC 41 dX12_hurl_34 (by decide) (fun c5 => ?_) (fun c5 => ?_)
        · refine aw_iconst (v := 0) hC dX12_hurl_41 (by decide) ?_
          simp only [bd_def, if_neg c5] at Jc5 ⊢
          exact Jc5
        · refine aw_iconst (v := 1) hC dX12_hurl_37 (by decide) ?_
          refine aw_goto hC 42 dX12_hurl_38 (by decide) ?_
          simp only [bd_def, if_pos c5] at Jc5 ⊢
          exact Jc5
    · refine aw_ldc2 (v := -9000000000000000001) hC w_957 dX12_hurl_23 ?_
      refine aw_lret hC dX12_hurl_26 (Nat.le_refl _) (Nat.le_refl _) ?_
      exact FP.qJ ((bd_eq eS1).trans ((if_neg c2).trans ((if_pos c3).trans (rfl))))
theorem q_X12_hurl (S : HSt) (_o : Nat) (a1 : Int32) (a2 : Int32) : shp ((f_X12_hurl S _o a1 a2).2) = shp S := by
  unfold f_X12_hurl
  repeat' (first | with_reducible refine shpr1 ?_ | with_reducible rfl | with_reducible refine (q_X12_keepLive _ _).trans ?_ | with_reducible refine (q_X12_layLive _ _).trans ?_ | with_reducible refine (q_X12_missBy _ _ _ _ _).trans ?_ | with_reducible refine (q_X12_shut _ _).trans ?_ | with_reducible refine (shp_sI _ _ _ _).trans ?_ | with_reducible refine (shp_sJ _ _ _ _).trans ?_ | with_reducible refine shi ?_ ?_ | with_reducible refine shb (fun _ _ => ?_) | with_reducible refine shiP (fun q : Int64 × HSt => q.2) ?_ ?_ | with_reducible refine shbP (fun q : Int64 × HSt => q.2) (fun _ _ => ?_) | (subst_vars; with_reducible rfl) | (subst_vars; with_reducible refine (q_X12_keepLive _ _).trans ?_) | (subst_vars; with_reducible refine (q_X12_layLive _ _).trans ?_) | (subst_vars; with_reducible refine (q_X12_missBy _ _ _ _ _).trans ?_) | (subst_vars; with_reducible refine (q_X12_shut _ _).trans ?_) | (subst_vars; with_reducible refine (shp_sI _ _ _ _).trans ?_) | (subst_vars; with_reducible refine (shp_sJ _ _ _ _).trans ?_) | (subst_vars; with_reducible refine shi ?_ ?_) | (subst_vars; with_reducible refine shb (fun _ _ => ?_)))
theorem v_X12_hurl (S : HSt) (_o : Nat) (a1 : Int32) (a2 : Int32) : Fr [(64, 0), (64, 20), (64, 21), (64, 22), (64, 23), (64, 24), (64, 25), (64, 26), (64, 28), (71, 1000)] S ((f_X12_hurl S _o a1 a2).2) := by
  unfold f_X12_hurl
  repeat' (first | with_reducible refine frpr1 ?_ | with_reducible exact Fr.refl _ _ | with_reducible refine Fr.lP (fun q : Int64 × HSt => q.2) (fun _ _ => ?_) | with_reducible refine Fr.iteP (fun q : Int64 × HSt => q.2) ?_ ?_ | with_reducible refine Fr.l1 (fun _ _ => ?_) | with_reducible refine Fr.ite ?_ ?_ | with_reducible refine Fr.sE (by assumption) (by first | decide | simp only [List.mem_cons, List.not_mem_nil, or_false, true_or, or_true, eq_self_iff_true]) ?_ | with_reducible refine Fr.jE (by assumption) ?_ | with_reducible refine Fr.rE (by assumption) (by first | decide | simp only [List.mem_cons, List.not_mem_nil, or_false, true_or, or_true, eq_self_iff_true]) ?_ | with_reducible refine Fr.iE (by assumption) ?_ ?_ | with_reducible refine Fr.tr (w_X12_keepLive _ _ _ (by assumption)) (by first | decide | simp only [List.mem_cons, List.not_mem_nil, or_false, forall_eq_or_imp, forall_eq, true_or, or_true, and_self, eq_self_iff_true]) ?_ | with_reducible refine Fr.tr (w_X12_layLive _ _ _ (by assumption)) (by first | decide | simp only [List.mem_cons, List.not_mem_nil, or_false, forall_eq_or_imp, forall_eq, true_or, or_true, and_self, eq_self_iff_true]) ?_ | with_reducible refine Fr.tr (w_X12_missBy _ _ _ _ _ _ (by assumption)) (by first | decide | simp only [List.mem_cons, List.not_mem_nil, or_false, forall_eq_or_imp, forall_eq, true_or, or_true, and_self, eq_self_iff_true]) ?_ | with_reducible refine Fr.tr (w_X12_shut _ _ _ (by assumption)) (by first | decide | simp only [List.mem_cons, List.not_mem_nil, or_false, forall_eq_or_imp, forall_eq, true_or, or_true, and_self, eq_self_iff_true]) ?_)
theorem w_X12_hurl (S : HSt) (_o : Nat) (a1 : Int32) (a2 : Int32) (r : Int64 × HSt) (e : f_X12_hurl S _o a1 a2 = r) : Fr [(64, 0), (64, 20), (64, 21), (64, 22), (64, 23), (64, 24), (64, 25), (64, 26), (64, 28), (71, 1000)] S r.2 := by
  rw [← e]
  exact v_X12_hurl S _o a1 a2
noncomputable def f_X12_close (S : HSt) (_o : Nat)  : Int64 × HSt := bd ((sI S 64 0 (0 : Int32))) fun S1 => if (gI S1 64 7) = 0 then (pr ((-9000000000000000002 : Int64)) (S1)) else (bd (f_X12_layLive S1 64) fun r3 => bd (f_X12_doClose r3 64) fun r4 => bd (f_X12_keepLive r4 64) fun r5 => pr ((gI r5 64 24).toInt64) (r5))
def p_X12_close (S : HSt) (_o : Nat)  : Prop := (∀ S1 : HSt, (sI S 64 0 (0 : Int32)) = S1 → (¬ (gI S1 64 7) = 0) → ∀ r3, f_X12_layLive S1 64 = r3 → ∀ r4, f_X12_doClose r3 64 = r4 → p_X12_keepLive r4 64)
set_option maxRecDepth 100000 in
theorem t_X12_close (G : GG) (l : Launch) {S : HSt} (hM : MS S)  (hp : p_X12_close S 64) : AM G l yX12_close cX12_close 1 (some .long) (rmD 2 0 0) 0 0 [.ref 64] S (FP (some (.long (f_X12_close S 64).1)) ((f_X12_close S 64).2)) := by
  have h0 := hp
  unfold p_X12_close at h0
  refine AM.mk (by decide) (Nat.le_of_ble_eq_true rfl) ?_
  intro p e s m below meth c hC hSt _
  refine aw_aload_n hC 0 dX12_close_0 rfl rfl ?_
  refine aw_iconst (v := 0) hC dX12_close_1 (by decide) ?_
  refine aw_putI hC hSt 0 (ms_lt 64 (by decide) hM) (ms_k 64 12 0 (by decide) hM) rfl (by decide) w_955 rfl rfl rfl rfl dX12_close_2 ?_
  generalize eS1 : (sI S 64 0 (0 : Int32)) = S1
  have hM : MS S1 := MS.of (by rw [← eS1]; exact shp_sI _ _ _ _) hM
  refine aw_aload_n hC 0 dX12_close_5 rfl rfl ?_
  refine aw_getI hC hSt 7 (ms_lt 64 (by decide) hM) (ms_k 64 12 0 (by decide) hM) rfl (by decide) w_1051 rfl dX12_close_6 ?_
  refine aw_if_ne hC 16 dX12_close_9 (by decide) (fun c2 => ?_) (fun c2 => ?_)
  · refine aw_aload_n hC 0 dX12_close_16 rfl rfl ?_
    refine aw_cV0v hC hSt (t_X12_layLive G l hM ) w_1091 w_1152 w_1153 w_1154 w_953 rfl rfl (by decide +kernel) ⟨Nat.le_of_ble_eq_true rfl, Nat.le_of_ble_eq_true rfl⟩ (ms_lt 64 (by decide) hM) (ms_k 64 12 0 (by decide) hM) rfl (Nat.le_of_ble_eq_true rfl) dX12_close_17 ⟨Nat.zero_le _, Nat.zero_le _⟩ ?_
    generalize er3 : f_X12_layLive S1 64 = r3
    have hM : MS r3 := MS.of (by rw [← er3]; exact q_X12_layLive _ _) hM
    refine aw_aload_n hC 0 dX12_close_20 rfl rfl ?_
    refine aw_cV0v hC hSt (t_X12_doClose G l hM ) w_1112 w_1163 w_1164 w_1165 w_953 rfl rfl (by decide +kernel) ⟨Nat.le_of_ble_eq_true rfl, Nat.le_of_ble_eq_true rfl⟩ (ms_lt 64 (by decide) hM) (ms_k 64 12 0 (by decide) hM) rfl (Nat.le_of_ble_eq_true rfl) dX12_close_21 ⟨Nat.zero_le _, Nat.zero_le _⟩ ?_
    generalize er4 : f_X12_doClose r3 64 = r4
    have hM : MS r4 := MS.of (by rw [← er4]; exact q_X12_doClose _ _) hM
    refine aw_aload_n hC 0 dX12_close_24 rfl rfl ?_
    refine aw_cV0v hC hSt (t_X12_keepLive G l hM  (h0 S1 eS1 c2 r3 er3 r4 er4)) w_1040 w_1074 w_1075 w_1076 w_953 rfl rfl (by decide +kernel) ⟨Nat.le_of_ble_eq_true rfl, Nat.le_of_ble_eq_true rfl⟩ (ms_lt 64 (by decide) hM) (ms_k 64 12 0 (by decide) hM) rfl (Nat.le_of_ble_eq_true rfl) dX12_close_25 ⟨Nat.zero_le _, Nat.zero_le _⟩ ?_
    generalize er5 : f_X12_keepLive r4 64 = r5
    have hM : MS r5 := MS.of (by rw [← er5]; exact q_X12_keepLive _ _) hM
    refine aw_aload_n hC 0 dX12_close_28 rfl rfl ?_
    refine aw_getI hC hSt 24 (ms_lt 64 (by decide) hM) (ms_k 64 12 0 (by decide) hM) rfl (by decide) w_1036 rfl dX12_close_29 ?_
    refine aw_i2l hC dX12_close_32 ?_
    refine aw_lret hC dX12_close_33 (Nat.le_refl _) (Nat.le_refl _) ?_
    exact FP.qJ ((bd_eq eS1).trans ((if_neg c2).trans ((bd_eq er3).trans ((bd_eq er4).trans ((bd_eq er5).trans (rfl))))))
  · refine aw_ldc2 (v := -9000000000000000002) hC w_1151 dX12_close_12 ?_
    refine aw_lret hC dX12_close_15 (Nat.le_refl _) (Nat.le_refl _) ?_
    exact FP.qJ ((bd_eq eS1).trans ((if_pos c2).trans (rfl)))
theorem q_X12_close (S : HSt) (_o : Nat)  : shp ((f_X12_close S _o).2) = shp S := by
  unfold f_X12_close
  repeat' (first | with_reducible refine shpr1 ?_ | with_reducible rfl | with_reducible refine (q_X12_doClose _ _).trans ?_ | with_reducible refine (q_X12_keepLive _ _).trans ?_ | with_reducible refine (q_X12_layLive _ _).trans ?_ | with_reducible refine (shp_sI _ _ _ _).trans ?_ | with_reducible refine (shp_sJ _ _ _ _).trans ?_ | with_reducible refine shi ?_ ?_ | with_reducible refine shb (fun _ _ => ?_) | with_reducible refine shiP (fun q : Int64 × HSt => q.2) ?_ ?_ | with_reducible refine shbP (fun q : Int64 × HSt => q.2) (fun _ _ => ?_) | (subst_vars; with_reducible rfl) | (subst_vars; with_reducible refine (q_X12_doClose _ _).trans ?_) | (subst_vars; with_reducible refine (q_X12_keepLive _ _).trans ?_) | (subst_vars; with_reducible refine (q_X12_layLive _ _).trans ?_) | (subst_vars; with_reducible refine (shp_sI _ _ _ _).trans ?_) | (subst_vars; with_reducible refine (shp_sJ _ _ _ _).trans ?_) | (subst_vars; with_reducible refine shi ?_ ?_) | (subst_vars; with_reducible refine shb (fun _ _ => ?_)))
theorem v_X12_close (S : HSt) (_o : Nat)  : Fr [(64, 0), (64, 20), (64, 21), (64, 22), (64, 23), (64, 24), (64, 25), (64, 26), (71, 1000)] S ((f_X12_close S _o).2) := by
  unfold f_X12_close
  repeat' (first | with_reducible refine frpr1 ?_ | with_reducible exact Fr.refl _ _ | with_reducible refine Fr.lP (fun q : Int64 × HSt => q.2) (fun _ _ => ?_) | with_reducible refine Fr.iteP (fun q : Int64 × HSt => q.2) ?_ ?_ | with_reducible refine Fr.l1 (fun _ _ => ?_) | with_reducible refine Fr.ite ?_ ?_ | with_reducible refine Fr.sE (by assumption) (by first | decide | simp only [List.mem_cons, List.not_mem_nil, or_false, true_or, or_true, eq_self_iff_true]) ?_ | with_reducible refine Fr.jE (by assumption) ?_ | with_reducible refine Fr.rE (by assumption) (by first | decide | simp only [List.mem_cons, List.not_mem_nil, or_false, true_or, or_true, eq_self_iff_true]) ?_ | with_reducible refine Fr.iE (by assumption) ?_ ?_ | with_reducible refine Fr.tr (w_X12_doClose _ _ _ (by assumption)) (by first | decide | simp only [List.mem_cons, List.not_mem_nil, or_false, forall_eq_or_imp, forall_eq, true_or, or_true, and_self, eq_self_iff_true]) ?_ | with_reducible refine Fr.tr (w_X12_keepLive _ _ _ (by assumption)) (by first | decide | simp only [List.mem_cons, List.not_mem_nil, or_false, forall_eq_or_imp, forall_eq, true_or, or_true, and_self, eq_self_iff_true]) ?_ | with_reducible refine Fr.tr (w_X12_layLive _ _ _ (by assumption)) (by first | decide | simp only [List.mem_cons, List.not_mem_nil, or_false, forall_eq_or_imp, forall_eq, true_or, or_true, and_self, eq_self_iff_true]) ?_)
theorem w_X12_close (S : HSt) (_o : Nat)  (r : Int64 × HSt) (e : f_X12_close S _o = r) : Fr [(64, 0), (64, 20), (64, 21), (64, 22), (64, 23), (64, 24), (64, 25), (64, 26), (71, 1000)] S r.2 := by
  rw [← e]
  exact v_X12_close S _o
noncomputable def f_X12_now (S : HSt) (_o : Nat) (a1 : Int32) : Int64 × HSt := bd ((sI S 64 0 (0 : Int32))) fun S1 => bd ((if (f_X12_in S1 a1.toInt64 (0 : Int64) (6 : Int64)) = 0 then (-9000000000000000001 : Int64) else (if (gI S1 64 7) = 0 then (-9000000000000000002 : Int64) else (gI S1 71 a1.toNatClampNeg).toInt64))) fun x4 => pr (x4) (S1)
def p_X12_now (S : HSt) (_o : Nat) (a1 : Int32) : Prop := (∀ S1 : HSt, (sI S 64 0 (0 : Int32)) = S1 → (¬ (f_X12_in S1 a1.toInt64 (0 : Int64) (6 : Int64)) = 0) → (¬ (gI S1 64 7) = 0) → vp_in a1 7)
set_option maxRecDepth 100000 in
theorem t_X12_now (G : GG) (l : Launch) {S : HSt} (hM : MS S) (a1 : Int32) (hp : p_X12_now S 64 a1) : AM G l yX12_now cX12_now 2 (some .long) (rmD 1 0 0) 0 0 [.ref 64, .int a1] S (FP (some (.long (f_X12_now S 64 a1).1)) ((f_X12_now S 64 a1).2)) := by
  have h0 := hp
  unfold p_X12_now at h0
  refine AM.mk (by decide) (Nat.le_of_ble_eq_true rfl) ?_
  intro p e s m below meth c hC hSt _
  refine aw_aload_n hC 0 dX12_now_0 rfl rfl ?_
  refine aw_iconst (v := 0) hC dX12_now_1 (by decide) ?_
  refine aw_putI hC hSt 0 (ms_lt 64 (by decide) hM) (ms_k 64 12 0 (by decide) hM) rfl (by decide) w_955 rfl rfl rfl rfl dX12_now_2 ?_
  generalize eS1 : (sI S 64 0 (0 : Int32)) = S1
  have hM : MS S1 := MS.of (by rw [← eS1]; exact shp_sI _ _ _ _) hM
  refine aw_iload_n hC 1 dX12_now_5 rfl rfl ?_
  refine aw_i2l hC dX12_now_6 ?_
  refine aw_lconst (v := 0) hC dX12_now_7 (by decide) ?_
  refine aw_ldc2 (v := 6) hC w_1168 dX12_now_8 ?_
  refine aw_cS3r hC hSt (t_X12_in G l  _ _ _) w_945 w_951 w_952 w_953 rfl rfl (by decide +kernel) ⟨Nat.le_of_ble_eq_true rfl, Nat.le_of_ble_eq_true rfl⟩ (Nat.le_of_ble_eq_true rfl) dX12_now_11 ⟨Nat.zero_le _, Nat.zero_le _⟩ ?_
  refine aw_cut (S' := S1) (pc' := 43) (lv' := [(0, .ref 64), (1, .int a1)]) (st' := [.long (if (f_X12_in S1 a1.toInt64 (0 : Int64) (6 : Int64)) = 0 then (-9000000000000000001 : Int64) else (if (gI S1 64 7) = 0 then (-9000000000000000002 : Int64) else (gI S1 71 a1.toNatClampNeg).toInt64))]) ?_ (fun Jc2 => ?_)
  · generalize ex4 : (if (f_X12_in S1 a1.toInt64 (0 : Int64) (6 : Int64)) = 0 then (-9000000000000000001 : Int64) else (if (gI S1 64 7) = 0 then (-9000000000000000002 : Int64) else (gI S1 71 a1.toNatClampNeg).toInt64)) = x4
    refine aw_lret hC dX12_now_43 (Nat.le_refl _) (Nat.le_refl _) ?_
    exact FP.qJ ((bd_eq eS1).trans ((bd_eq ex4).trans (rfl)))
  · refine aw_if_ne hC 23 dX12_now_14 (by decide) (fun c2 => ?_) (fun c2 => ?_)
    · refine aw_aload_n hC 0 dX12_now_23 rfl rfl ?_
      refine aw_getI hC hSt 7 (ms_lt 64 (by decide) hM) (ms_k 64 12 0 (by decide) hM) rfl (by decide) w_1051 rfl dX12_now_24 ?_
      refine aw_if_eq hC 40 dX12_now_27 (by decide) (fun c3 => ?_) (fun c3 => ?_)
      · refine aw_ldc2 (v := -9000000000000000002) hC w_1151 dX12_now_40 ?_
        simp only [bd_def, if_neg c2, if_pos c3] at Jc2 ⊢
        exact Jc2
      · refine aw_aload_n hC 0 dX12_now_30 rfl rfl ?_
        refine aw_getP (b := 71) hC hSt 27 (ms_lt 64 (by decide) hM) (ms_k 64 12 0 (by decide) hM) rfl (by decide) w_925 rfl (ms_p 27 71 (by decide) hM) dX12_now_31 ?_
        refine aw_iload_n hC 1 dX12_now_34 rfl rfl ?_
        refine aw_iald hC hSt (ms_lt 71 (by decide) hM) (ms_k 71 14 7 (by decide) hM) (vp_len (n := 7) (ms_l 71 14 7 (by decide) hM) (h0 S1 eS1 c2 c3)) dX12_now_35 ?_
        refine aw_i2l hC dX12_now_36 ?_
        refine aw_goto hC 43 dX12_now_37 (by decide) ?_
        simp only [bd_def, if_neg c2, if_neg c3] at Jc2 ⊢
        exact Jc2
    · refine aw_ldc2 (v := -9000000000000000001) hC w_957 dX12_now_17 ?_
      refine aw_goto hC 43 dX12_now_20 (by decide) ?_
      simp only [bd_def, if_pos c2] at Jc2 ⊢
      exact Jc2
theorem q_X12_now (S : HSt) (_o : Nat) (a1 : Int32) : shp ((f_X12_now S _o a1).2) = shp S := by
  unfold f_X12_now
  repeat' (first | with_reducible refine shpr1 ?_ | with_reducible rfl | with_reducible refine (shp_sI _ _ _ _).trans ?_ | with_reducible refine (shp_sJ _ _ _ _).trans ?_ | with_reducible refine shi ?_ ?_ | with_reducible refine shb (fun _ _ => ?_) | with_reducible refine shiP (fun q : Int64 × HSt => q.2) ?_ ?_ | with_reducible refine shbP (fun q : Int64 × HSt => q.2) (fun _ _ => ?_) | (subst_vars; with_reducible rfl) | (subst_vars; with_reducible refine (shp_sI _ _ _ _).trans ?_) | (subst_vars; with_reducible refine (shp_sJ _ _ _ _).trans ?_) | (subst_vars; with_reducible refine shi ?_ ?_) | (subst_vars; with_reducible refine shb (fun _ _ => ?_)))
theorem v_X12_now (S : HSt) (_o : Nat) (a1 : Int32) : Fr [(64, 0)] S ((f_X12_now S _o a1).2) := by
  unfold f_X12_now
  repeat' (first | with_reducible refine frpr1 ?_ | with_reducible exact Fr.refl _ _ | with_reducible refine Fr.lP (fun q : Int64 × HSt => q.2) (fun _ _ => ?_) | with_reducible refine Fr.iteP (fun q : Int64 × HSt => q.2) ?_ ?_ | with_reducible refine Fr.l1 (fun _ _ => ?_) | with_reducible refine Fr.ite ?_ ?_ | with_reducible refine Fr.sE (by assumption) (by first | decide | simp only [List.mem_cons, List.not_mem_nil, or_false, true_or, or_true, eq_self_iff_true]) ?_ | with_reducible refine Fr.jE (by assumption) ?_ | with_reducible refine Fr.rE (by assumption) (by first | decide | simp only [List.mem_cons, List.not_mem_nil, or_false, true_or, or_true, eq_self_iff_true]) ?_ | with_reducible refine Fr.iE (by assumption) ?_ ?_)
theorem w_X12_now (S : HSt) (_o : Nat) (a1 : Int32) (r : Int64 × HSt) (e : f_X12_now S _o a1 = r) : Fr [(64, 0)] S r.2 := by
  rw [← e]
  exact v_X12_now S _o a1
noncomputable def f_X12_piece (S : HSt) (_o : Nat) (a1 : Int32) : Int64 × HSt := bd ((sI S 64 0 (0 : Int32))) fun S1 => if (gI S1 64 7) = 0 then (pr ((-9000000000000000002 : Int64)) (S1)) else (if (f_X12_in S1 a1.toInt64 (0 : Int64) (((f_X12_ropeOf S1 64 (0 : Int32)) / (10 : Int32)) - (1 : Int32)).toInt64) = 0 then (pr ((-9000000000000000001 : Int64)) (S1)) else (bd (((gI S1 71 (0 : Int32).toNatClampNeg) / (10 : Int32))) fun x4 => bd ((if x4 ≤ a1 then (if a1 = x4 then (3 : Int64) else (if ((x4 + (4 : Int32)) + ((gI S1 71 (0 : Int32).toNatClampNeg) / (40 : Int32))) < a1 then (0 : Int64) else (1 : Int64))) else (2 : Int64))) fun x8 => pr (x8) (S1)))
def p_X12_piece (S : HSt) (_o : Nat) (a1 : Int32) : Prop := (∀ S1 : HSt, (sI S 64 0 (0 : Int32)) = S1 → (¬ (gI S1 64 7) = 0) → p_X12_ropeOf S1 64 (0 : Int32))
set_option maxRecDepth 100000 in
theorem t_X12_piece (G : GG) (l : Launch) {S : HSt} (hM : MS S) (a1 : Int32) (hp : p_X12_piece S 64 a1) : AM G l yX12_piece cX12_piece 3 (some .long) (rmD 1 0 0) 0 0 [.ref 64, .int a1] S (FP (some (.long (f_X12_piece S 64 a1).1)) ((f_X12_piece S 64 a1).2)) := by
  have h0 := hp
  unfold p_X12_piece at h0
  refine AM.mk (by decide) (Nat.le_of_ble_eq_true rfl) ?_
  intro p e s m below meth c hC hSt _
  refine aw_aload_n hC 0 dX12_piece_0 rfl rfl ?_
  refine aw_iconst (v := 0) hC dX12_piece_1 (by decide) ?_
  refine aw_putI hC hSt 0 (ms_lt 64 (by decide) hM) (ms_k 64 12 0 (by decide) hM) rfl (by decide) w_955 rfl rfl rfl rfl dX12_piece_2 ?_
  generalize eS1 : (sI S 64 0 (0 : Int32)) = S1
  have hM : MS S1 := MS.of (by rw [← eS1]; exact shp_sI _ _ _ _) hM
  refine aw_aload_n hC 0 dX12_piece_5 rfl rfl ?_
  refine aw_getI hC hSt 7 (ms_lt 64 (by decide) hM) (ms_k 64 12 0 (by decide) hM) rfl (by decide) w_1051 rfl dX12_piece_6 ?_
  refine aw_if_ne hC 16 dX12_piece_9 (by decide) (fun c2 => ?_) (fun c2 => ?_)
  · refine aw_iload_n hC 1 dX12_piece_16 rfl rfl ?_
    refine aw_i2l hC dX12_piece_17 ?_
    refine aw_lconst (v := 0) hC dX12_piece_18 (by decide) ?_
    refine aw_aload_n hC 0 dX12_piece_19 rfl rfl ?_
    refine aw_iconst (v := 0) hC dX12_piece_20 (by decide) ?_
    refine aw_cV1r hC hSt (t_X12_ropeOf G l hM _ (h0 S1 eS1 c2)) w_1092 w_1095 w_1096 w_1097 w_953 rfl rfl (by decide +kernel) ⟨Nat.le_of_ble_eq_true rfl, Nat.le_of_ble_eq_true rfl⟩ (ms_lt 64 (by decide) hM) (ms_k 64 12 0 (by decide) hM) rfl (Nat.le_of_ble_eq_true rfl) dX12_piece_21 ⟨Nat.zero_le _, Nat.zero_le _⟩ ?_
    refine aw_bipush (v := 10) hC dX12_piece_24 (by decide) ?_
    refine aw_idiv hC dX12_piece_26 (by decide) ?_
    refine aw_iconst (v := 1) hC dX12_piece_27 (by decide) ?_
    refine aw_isub hC dX12_piece_28 ?_
    refine aw_i2l hC dX12_piece_29 ?_
    refine aw_cS3r hC hSt (t_X12_in G l  _ _ _) w_945 w_951 w_952 w_953 rfl rfl (by decide +kernel) ⟨Nat.le_of_ble_eq_true rfl, Nat.le_of_ble_eq_true rfl⟩ (Nat.le_of_ble_eq_true rfl) dX12_piece_30 ⟨Nat.zero_le _, Nat.zero_le _⟩ ?_
    refine aw_if_ne hC 40 dX12_piece_33 (by decide) (fun c3 => ?_) (fun c3 => ?_)
    · refine aw_aload_n hC 0 dX12_piece_40 rfl rfl ?_
      refine aw_getP (b := 71) hC hSt 27 (ms_lt 64 (by decide) hM) (ms_k 64 12 0 (by decide) hM) rfl (by decide) w_925 rfl (ms_p 27 71 (by decide) hM) dX12_piece_41 ?_
      refine aw_iconst (v := 0) hC dX12_piece_44 (by decide) ?_
      refine aw_iald hC hSt (ms_lt 71 (by decide) hM) (ms_k 71 14 7 (by decide) hM) (vp_len (n := 7) (ms_l 71 14 7 (by decide) hM) (by unfold vp_in; decide)) dX12_piece_45 ?_
      refine aw_bipush (v := 10) hC dX12_piece_46 (by decide) ?_
      refine aw_idiv hC dX12_piece_48 (by decide) ?_
      refine aw_istore_n hC [(2, .int _), (0, .ref 64), (1, .int _)] dX12_piece_49 rfl (by decide) rfl ?_
      generalize ex4 : ((gI S1 71 (0 : Int32).toNatClampNeg) / (10 : Int32)) = x4
      refine aw_iload_n hC 2 dX12_piece_50 rfl rfl ?_
      refine aw_iload_n hC 0 dX12_piece_51 rfl rfl ?_
      refine aw_cut (S' := S1) (pc' := 94) (lv' := [(2, .int x4), (0, .ref 64), (1, .int a1)]) (st' := [.long (if x4 ≤ a1 then (if a1 = x4 then (3 : Int64) else (if ((x4 + (4 : Int32)) + ((gI S1 71 (0 : Int32).toNatClampNeg) / (40 : Int32))) < a1 then (0 : Int64) else (1 : Int64))) else (2 : Int64))]) ?_ (fun Jc5 => ?_)
      · generalize ex8 : (if x4 ≤ a1 then (if a1 = x4 then (3 : Int64) else (if ((x4 + (4 : Int32)) + ((gI S1 71 (0 : Int32).toNatClampNeg) / (40 : Int32))) < a1 then (0 : Int64) else (1 : Int64))) else (2 : Int64)) = x8
        refine aw_lret hC dX12_piece_94 (Nat.le_refl _) (Nat.le_refl _) ?_
        exact FP.qJ ((bd_eq eS1).trans ((if_neg c2).trans ((if_neg c3).trans ((bd_eq ex4).trans ((bd_eq ex8).trans (rfl))))))
      · refine aw_icmp_ge hC 61 dX12_piece_52 (by decide) (fun c5 => ?_) (fun c5 => ?_)
        · refine aw_iload_n hC 2 dX12_piece_61 rfl rfl ?_
          refine aw_iload_n hC 0 dX12_piece_62 rfl rfl ?_
          refine aw_icmp_ne hC 72 dX12_piece_63 (by decide) (fun c6 => ?_) (fun c6 => ?_)
          · refine aw_iload_n hC 2 dX12_piece_72 rfl rfl ?_
            refine aw_iload_n hC 0 dX12_piece_73 rfl rfl ?_
            refine aw_iconst (v := 4) hC dX12_piece_74 (by decide) ?_
            refine aw_iadd hC dX12_piece_75 ?_
            refine aw_aload_n hC 1 dX12_piece_76 rfl rfl ?_
            refine aw_getP (b := 71) hC hSt 27 (ms_lt 64 (by decide) hM) (ms_k 64 12 0 (by decide) hM) rfl (by decide) w_925 rfl (ms_p 27 71 (by decide) hM) dX12_piece_77 ?_
            refine aw_iconst (v := 0) hC dX12_piece_80 (by decide) ?_
            refine aw_iald hC hSt (ms_lt 71 (by decide) hM) (ms_k 71 14 7 (by decide) hM) (vp_len (n := 7) (ms_l 71 14 7 (by decide) hM) (by unfold vp_in; decide)) dX12_piece_81 ?_
            refine aw_bipush (v := 40) hC dX12_piece_82 (by decide) ?_
            refine aw_idiv hC dX12_piece_84 (by decide) ?_
            refine aw_iadd hC dX12_piece_85 ?_
            refine aw_icmp_gt hC 93 dX12_piece_86 (by decide) (fun c7 => ?_) (fun c7 => ?_)
            · refine aw_lconst (v := 0) hC dX12_piece_93 (by decide) ?_
              simp only [bd_def, if_pos c5, if_neg c6, if_pos c7] at Jc5 ⊢
              exact Jc5
            · refine aw_lconst (v := 1) hC dX12_piece_89 (by decide) ?_
              refine aw_goto hC 94 dX12_piece_90 (by decide) ?_
              simp only [bd_def, if_pos c5, if_neg c6, if_neg c7] at Jc5 ⊢
              exact Jc5
          · refine aw_ldc2 (v := 3) hC w_1084 dX12_piece_66 ?_
            refine aw_goto hC 94 dX12_piece_69 (by decide) ?_
            simp only [bd_def, if_pos c5, if_pos c6] at Jc5 ⊢
            exact Jc5
        · refine aw_ldc2 (v := 2) hC w_956 dX12_piece_55 ?_
          refine aw_goto hC 94 dX12_piece_58 (by decide) ?_
          simp only [bd_def, if_neg c5] at Jc5 ⊢
          exact Jc5
    · refine aw_ldc2 (v := -9000000000000000001) hC w_957 dX12_piece_36 ?_
      refine aw_lret hC dX12_piece_39 (Nat.le_refl _) (Nat.le_refl _) ?_
      exact FP.qJ ((bd_eq eS1).trans ((if_neg c2).trans ((if_pos c3).trans (rfl))))
  · refine aw_ldc2 (v := -9000000000000000002) hC w_1151 dX12_piece_12 ?_
    refine aw_lret hC dX12_piece_15 (Nat.le_refl _) (Nat.le_refl _) ?_
    exact FP.qJ ((bd_eq eS1).trans ((if_pos c2).trans (rfl)))
theorem q_X12_piece (S : HSt) (_o : Nat) (a1 : Int32) : shp ((f_X12_piece S _o a1).2) = shp S := by
  unfold f_X12_piece
  repeat' (first | with_reducible refine shpr1 ?_ | with_reducible rfl | with_reducible refine (shp_sI _ _ _ _).trans ?_ | with_reducible refine (shp_sJ _ _ _ _).trans ?_ | with_reducible refine shi ?_ ?_ | with_reducible refine shb (fun _ _ => ?_) | with_reducible refine shiP (fun q : Int64 × HSt => q.2) ?_ ?_ | with_reducible refine shbP (fun q : Int64 × HSt => q.2) (fun _ _ => ?_) | (subst_vars; with_reducible rfl) | (subst_vars; with_reducible refine (shp_sI _ _ _ _).trans ?_) | (subst_vars; with_reducible refine (shp_sJ _ _ _ _).trans ?_) | (subst_vars; with_reducible refine shi ?_ ?_) | (subst_vars; with_reducible refine shb (fun _ _ => ?_)))
theorem v_X12_piece (S : HSt) (_o : Nat) (a1 : Int32) : Fr [(64, 0)] S ((f_X12_piece S _o a1).2) := by
  unfold f_X12_piece
  repeat' (first | with_reducible refine frpr1 ?_ | with_reducible exact Fr.refl _ _ | with_reducible refine Fr.lP (fun q : Int64 × HSt => q.2) (fun _ _ => ?_) | with_reducible refine Fr.iteP (fun q : Int64 × HSt => q.2) ?_ ?_ | with_reducible refine Fr.l1 (fun _ _ => ?_) | with_reducible refine Fr.ite ?_ ?_ | with_reducible refine Fr.sE (by assumption) (by first | decide | simp only [List.mem_cons, List.not_mem_nil, or_false, true_or, or_true, eq_self_iff_true]) ?_ | with_reducible refine Fr.jE (by assumption) ?_ | with_reducible refine Fr.rE (by assumption) (by first | decide | simp only [List.mem_cons, List.not_mem_nil, or_false, true_or, or_true, eq_self_iff_true]) ?_ | with_reducible refine Fr.iE (by assumption) ?_ ?_)
theorem w_X12_piece (S : HSt) (_o : Nat) (a1 : Int32) (r : Int64 × HSt) (e : f_X12_piece S _o a1 = r) : Fr [(64, 0)] S r.2 := by
  rw [← e]
  exact v_X12_piece S _o a1
noncomputable def f_X12_odds (S : HSt) (_o : Nat) (a1 : Int32) (a2 : Int32) (a3 : Int32) : Int64 × HSt := bd ((sI S 64 0 (0 : Int32))) fun S1 => if (f_X12_in S1 a1.toInt64 (0 : Int64) (1 : Int64)) = 0 then (pr ((-9000000000000000001 : Int64)) (S1)) else (if (f_X12_isBeast S1 64 a2) = 0 then (pr ((-9000000000000000001 : Int64)) (S1)) else (if (f_X12_in S1 a3.toInt64 (0 : Int64) (1 : Int64)) = 0 then (pr ((-9000000000000000001 : Int64)) (S1)) else (bd (f_X12_layLive S1 64) fun r5 => bd ((if a1 = (1 : Int32) then (1 : Int32) else (0 : Int32))) fun x7 => bd (f_X12_oddsOf r5 64 x7 a2) fun r8 => pr ((f_X12_partOf r8.2 r8.1.toInt64 (f_X12_allOdds r8.2 64).toInt64 a3)) (r8.2))))
def p_X12_odds (S : HSt) (_o : Nat) (a1 : Int32) (a2 : Int32) (a3 : Int32) : Prop := (∀ S1 : HSt, (sI S 64 0 (0 : Int32)) = S1 → (¬ (f_X12_in S1 a1.toInt64 (0 : Int64) (1 : Int64)) = 0) → (¬ (f_X12_isBeast S1 64 a2) = 0) → (¬ (f_X12_in S1 a3.toInt64 (0 : Int64) (1 : Int64)) = 0) → ∀ r5, f_X12_layLive S1 64 = r5 → ∀ x7 : Int32, (if a1 = (1 : Int32) then (1 : Int32) else (0 : Int32)) = x7 → p_X12_oddsOf r5 64 x7 a2) ∧ (∀ S1 : HSt, (sI S 64 0 (0 : Int32)) = S1 → (¬ (f_X12_in S1 a1.toInt64 (0 : Int64) (1 : Int64)) = 0) → (¬ (f_X12_isBeast S1 64 a2) = 0) → (¬ (f_X12_in S1 a3.toInt64 (0 : Int64) (1 : Int64)) = 0) → ∀ r5, f_X12_layLive S1 64 = r5 → ∀ x7 : Int32, (if a1 = (1 : Int32) then (1 : Int32) else (0 : Int32)) = x7 → ∀ r8, f_X12_oddsOf r5 64 x7 a2 = r8 → p_X12_allOdds r8.2 64) ∧ (∀ S1 : HSt, (sI S 64 0 (0 : Int32)) = S1 → (¬ (f_X12_in S1 a1.toInt64 (0 : Int64) (1 : Int64)) = 0) → (¬ (f_X12_isBeast S1 64 a2) = 0) → (¬ (f_X12_in S1 a3.toInt64 (0 : Int64) (1 : Int64)) = 0) → ∀ r5, f_X12_layLive S1 64 = r5 → ∀ x7 : Int32, (if a1 = (1 : Int32) then (1 : Int32) else (0 : Int32)) = x7 → ∀ r8, f_X12_oddsOf r5 64 x7 a2 = r8 → p_X12_partOf r8.2 r8.1.toInt64 (f_X12_allOdds r8.2 64).toInt64 a3)
set_option maxRecDepth 100000 in
theorem t_X12_odds (G : GG) (l : Launch) {S : HSt} (hM : MS S) (a1 : Int32) (a2 : Int32) (a3 : Int32) (hp : p_X12_odds S 64 a1 a2 a3) : AM G l yX12_odds cX12_odds 4 (some .long) (rmD 4 0 0) 0 0 [.ref 64, .int a1, .int a2, .int a3] S (FP (some (.long (f_X12_odds S 64 a1 a2 a3).1)) ((f_X12_odds S 64 a1 a2 a3).2)) := by
  obtain ⟨h0, h1, h2⟩ := hp
  refine AM.mk (by decide) (Nat.le_of_ble_eq_true rfl) ?_
  intro p e s m below meth c hC hSt _
  refine aw_aload_n hC 0 dX12_odds_0 rfl rfl ?_
  refine aw_iconst (v := 0) hC dX12_odds_1 (by decide) ?_
  refine aw_putI hC hSt 0 (ms_lt 64 (by decide) hM) (ms_k 64 12 0 (by decide) hM) rfl (by decide) w_955 rfl rfl rfl rfl dX12_odds_2 ?_
  generalize eS1 : (sI S 64 0 (0 : Int32)) = S1
  have hM : MS S1 := MS.of (by rw [← eS1]; exact shp_sI _ _ _ _) hM
  refine aw_iload_n hC 1 dX12_odds_5 rfl rfl ?_
  refine aw_i2l hC dX12_odds_6 ?_
  refine aw_lconst (v := 0) hC dX12_odds_7 (by decide) ?_
  refine aw_lconst (v := 1) hC dX12_odds_8 (by decide) ?_
  refine aw_cS3r hC hSt (t_X12_in G l  _ _ _) w_945 w_951 w_952 w_953 rfl rfl (by decide +kernel) ⟨Nat.le_of_ble_eq_true rfl, Nat.le_of_ble_eq_true rfl⟩ (Nat.le_of_ble_eq_true rfl) dX12_odds_9 ⟨Nat.zero_le _, Nat.zero_le _⟩ ?_
  refine aw_if_eq hC 33 dX12_odds_12 (by decide) (fun c2 => ?_) (fun c2 => ?_)
  · refine aw_ldc2 (v := -9000000000000000001) hC w_957 dX12_odds_33 ?_
    refine aw_lret hC dX12_odds_36 (Nat.le_refl _) (Nat.le_refl _) ?_
    exact FP.qJ ((bd_eq eS1).trans ((if_pos c2).trans (rfl)))
  · refine aw_aload_n hC 0 dX12_odds_15 rfl rfl ?_
    refine aw_iload_n hC 2 dX12_odds_16 rfl rfl ?_
    refine aw_cV1r hC hSt (t_X12_isBeast G l hM _) w_1081 w_1159 w_1160 w_1161 w_953 rfl rfl (by decide +kernel) ⟨Nat.le_of_ble_eq_true rfl, Nat.le_of_ble_eq_true rfl⟩ (ms_lt 64 (by decide) hM) (ms_k 64 12 0 (by decide) hM) rfl (Nat.le_of_ble_eq_true rfl) dX12_odds_17 ⟨Nat.zero_le _, Nat.zero_le _⟩ ?_
    refine aw_if_eq hC 33 dX12_odds_20 (by decide) (fun c3 => ?_) (fun c3 => ?_)
    · refine aw_ldc2 (v := -9000000000000000001) hC w_957 dX12_odds_33 ?_
      refine aw_lret hC dX12_odds_36 (Nat.le_refl _) (Nat.le_refl _) ?_
      exact FP.qJ ((bd_eq eS1).trans ((if_neg c2).trans ((if_pos c3).trans (rfl))))
    · refine aw_iload_n hC 3 dX12_odds_23 rfl rfl ?_
      refine aw_i2l hC dX12_odds_24 ?_
      refine aw_lconst (v := 0) hC dX12_odds_25 (by decide) ?_
      refine aw_lconst (v := 1) hC dX12_odds_26 (by decide) ?_
      refine aw_cS3r hC hSt (t_X12_in G l  _ _ _) w_945 w_951 w_952 w_953 rfl rfl (by decide +kernel) ⟨Nat.le_of_ble_eq_true rfl, Nat.le_of_ble_eq_true rfl⟩ (Nat.le_of_ble_eq_true rfl) dX12_odds_27 ⟨Nat.zero_le _, Nat.zero_le _⟩ ?_
      refine aw_if_ne hC 37 dX12_odds_30 (by decide) (fun c4 => ?_) (fun c4 => ?_)
      · refine aw_aload_n hC 0 dX12_odds_37 rfl rfl ?_
        refine aw_cV0v hC hSt (t_X12_layLive G l hM ) w_1091 w_1152 w_1153 w_1154 w_953 rfl rfl (by decide +kernel) ⟨Nat.le_of_ble_eq_true rfl, Nat.le_of_ble_eq_true rfl⟩ (ms_lt 64 (by decide) hM) (ms_k 64 12 0 (by decide) hM) rfl (Nat.le_of_ble_eq_true rfl) dX12_odds_38 ⟨Nat.zero_le _, Nat.zero_le _⟩ ?_
        generalize er5 : f_X12_layLive S1 64 = r5
        have hM : MS r5 := MS.of (by rw [← er5]; exact q_X12_layLive _ _) hM
        refine aw_aload_n hC 0 dX12_odds_41 rfl rfl ?_
        refine aw_iload_n hC 1 dX12_odds_42 rfl rfl ?_
        refine aw_iconst (v := 1) hC dX12_odds_43 (by decide) ?_
        refine aw_cut (S' := r5) (pc' := 52) (lv' := [(0, .ref 64), (1, .int a1), (2, .int a2), (3, .int a3)]) (st' := [.int (if a1 = (1 : Int32) then (1 : Int32) else (0 : Int32)), .ref 64]) ?_ (fun Jc6 => ?_)
        · generalize ex7 : (if a1 = (1 : Int32) then (1 : Int32) else (0 : Int32)) = x7
          refine aw_iload_n hC 2 dX12_odds_52 rfl rfl ?_
          refine aw_cV2r hC hSt (t_X12_oddsOf G l hM _ _ (h0 S1 eS1 c2 c3 c4 r5 er5 x7 ex7)) w_1134 w_1140 w_1141 w_1142 w_953 rfl rfl (by decide +kernel) ⟨Nat.le_of_ble_eq_true rfl, Nat.le_of_ble_eq_true rfl⟩ (ms_lt 64 (by decide) hM) (ms_k 64 12 0 (by decide) hM) rfl (Nat.le_of_ble_eq_true rfl) dX12_odds_53 ⟨Nat.zero_le _, Nat.zero_le _⟩ ?_
          generalize er8 : f_X12_oddsOf r5 64 x7 a2 = r8
          have hM : MS r8.2 := MS.of (by rw [← er8]; exact q_X12_oddsOf _ _ _ _) hM
          refine aw_i2l hC dX12_odds_56 ?_
          refine aw_aload_n hC 0 dX12_odds_57 rfl rfl ?_
          refine aw_cV0r hC hSt (t_X12_allOdds G l hM  (h1 S1 eS1 c2 c3 c4 r5 er5 x7 ex7 r8 er8)) w_1135 w_1143 w_1144 w_1145 w_953 rfl rfl (by decide +kernel) ⟨Nat.le_of_ble_eq_true rfl, Nat.le_of_ble_eq_true rfl⟩ (ms_lt 64 (by decide) hM) (ms_k 64 12 0 (by decide) hM) rfl (Nat.le_of_ble_eq_true rfl) dX12_odds_58 ⟨Nat.zero_le _, Nat.zero_le _⟩ ?_
          refine aw_i2l hC dX12_odds_61 ?_
          refine aw_iload_n hC 3 dX12_odds_62 rfl rfl ?_
          refine aw_cS3r hC hSt (t_X12_partOf G l  _ _ _ (h2 S1 eS1 c2 c3 c4 r5 er5 x7 ex7 r8 er8)) w_1137 w_1170 w_1171 w_953 rfl rfl (by decide +kernel) ⟨Nat.le_of_ble_eq_true rfl, Nat.le_of_ble_eq_true rfl⟩ (Nat.le_of_ble_eq_true rfl) dX12_odds_63 ⟨Nat.zero_le _, Nat.zero_le _⟩ ?_
          refine aw_lret hC dX12_odds_66 (Nat.le_refl _) (Nat.le_refl _) ?_
          exact FP.qJ ((bd_eq eS1).trans ((if_neg c2).trans ((if_neg c3).trans ((if_neg c4).trans ((bd_eq er5).trans ((bd_eq ex7).trans ((bd_eq er8).trans (rfl))))))))
        · refine aw_icmp_ne hC 51 dX12_odds_44 (by decide) (fun c6 => ?_) (fun c6 => ?_)
          · refine aw_iconst (v := 0) hC dX12_odds_51 (by decide) ?_
            simp only [bd_def, if_neg c6] at Jc6 ⊢
            exact Jc6
          · refine aw_iconst (v := 1) hC dX12_odds_47 (by decide) ?_
            refine aw_goto hC 52 dX12_odds_48 (by decide) ?_
            simp only [bd_def, if_pos c6] at Jc6 ⊢
            exact Jc6
      · refine aw_ldc2 (v := -9000000000000000001) hC w_957 dX12_odds_33 ?_
        refine aw_lret hC dX12_odds_36 (Nat.le_refl _) (Nat.le_refl _) ?_
        exact FP.qJ ((bd_eq eS1).trans ((if_neg c2).trans ((if_neg c3).trans ((if_pos c4).trans (rfl)))))
theorem q_X12_odds (S : HSt) (_o : Nat) (a1 : Int32) (a2 : Int32) (a3 : Int32) : shp ((f_X12_odds S _o a1 a2 a3).2) = shp S := by
  unfold f_X12_odds
  repeat' (first | with_reducible refine shpr1 ?_ | with_reducible rfl | with_reducible refine (q_X12_layLive _ _).trans ?_ | with_reducible refine (q_X12_oddsOf _ _ _ _).trans ?_ | with_reducible refine (shp_sI _ _ _ _).trans ?_ | with_reducible refine (shp_sJ _ _ _ _).trans ?_ | with_reducible refine shi ?_ ?_ | with_reducible refine shb (fun _ _ => ?_) | with_reducible refine shiP (fun q : Int64 × HSt => q.2) ?_ ?_ | with_reducible refine shbP (fun q : Int64 × HSt => q.2) (fun _ _ => ?_) | (subst_vars; with_reducible rfl) | (subst_vars; with_reducible refine (q_X12_layLive _ _).trans ?_) | (subst_vars; with_reducible refine (q_X12_oddsOf _ _ _ _).trans ?_) | (subst_vars; with_reducible refine (shp_sI _ _ _ _).trans ?_) | (subst_vars; with_reducible refine (shp_sJ _ _ _ _).trans ?_) | (subst_vars; with_reducible refine shi ?_ ?_) | (subst_vars; with_reducible refine shb (fun _ _ => ?_)))
theorem v_X12_odds (S : HSt) (_o : Nat) (a1 : Int32) (a2 : Int32) (a3 : Int32) : Fr [(64, 0), (64, 20), (64, 21), (64, 22), (64, 23), (64, 24), (64, 25), (64, 26), (64, 28)] S ((f_X12_odds S _o a1 a2 a3).2) := by
  unfold f_X12_odds
  repeat' (first | with_reducible refine frpr1 ?_ | with_reducible exact Fr.refl _ _ | with_reducible refine Fr.lP (fun q : Int64 × HSt => q.2) (fun _ _ => ?_) | with_reducible refine Fr.iteP (fun q : Int64 × HSt => q.2) ?_ ?_ | with_reducible refine Fr.l1 (fun _ _ => ?_) | with_reducible refine Fr.ite ?_ ?_ | with_reducible refine Fr.sE (by assumption) (by first | decide | simp only [List.mem_cons, List.not_mem_nil, or_false, true_or, or_true, eq_self_iff_true]) ?_ | with_reducible refine Fr.jE (by assumption) ?_ | with_reducible refine Fr.rE (by assumption) (by first | decide | simp only [List.mem_cons, List.not_mem_nil, or_false, true_or, or_true, eq_self_iff_true]) ?_ | with_reducible refine Fr.iE (by assumption) ?_ ?_ | with_reducible refine Fr.tr (w_X12_layLive _ _ _ (by assumption)) (by first | decide | simp only [List.mem_cons, List.not_mem_nil, or_false, forall_eq_or_imp, forall_eq, true_or, or_true, and_self, eq_self_iff_true]) ?_ | with_reducible refine Fr.tr (w_X12_oddsOf _ _ _ _ _ (by assumption)) (by first | decide | simp only [List.mem_cons, List.not_mem_nil, or_false, forall_eq_or_imp, forall_eq, true_or, or_true, and_self, eq_self_iff_true]) ?_)
theorem w_X12_odds (S : HSt) (_o : Nat) (a1 : Int32) (a2 : Int32) (a3 : Int32) (r : Int64 × HSt) (e : f_X12_odds S _o a1 a2 a3 = r) : Fr [(64, 0), (64, 20), (64, 21), (64, 22), (64, 23), (64, 24), (64, 25), (64, 26), (64, 28)] S r.2 := by
  rw [← e]
  exact v_X12_odds S _o a1 a2 a3
noncomputable def f_X12_need (S : HSt) (_o : Nat) (a1 : Int32) : Int64 × HSt := bd ((sI S 64 0 (0 : Int32))) fun S1 => bd ((if (f_X12_in S1 a1.toInt64 (0 : Int64) (200 : Int64)) = 0 then (-9000000000000000001 : Int64) else (if (gI S1 64 7) = 0 then (-9000000000000000002 : Int64) else (f_X12_needOf S1 64 a1).toInt64))) fun x4 => pr (x4) (S1)
def p_X12_need (S : HSt) (_o : Nat) (a1 : Int32) : Prop := (∀ S1 : HSt, (sI S 64 0 (0 : Int32)) = S1 → (¬ (f_X12_in S1 a1.toInt64 (0 : Int64) (200 : Int64)) = 0) → (¬ (gI S1 64 7) = 0) → p_X12_needOf S1 64 a1)
set_option maxRecDepth 100000 in
theorem t_X12_need (G : GG) (l : Launch) {S : HSt} (hM : MS S) (a1 : Int32) (hp : p_X12_need S 64 a1) : AM G l yX12_need cX12_need 2 (some .long) (rmD 2 0 0) 0 0 [.ref 64, .int a1] S (FP (some (.long (f_X12_need S 64 a1).1)) ((f_X12_need S 64 a1).2)) := by
  have h0 := hp
  unfold p_X12_need at h0
  refine AM.mk (by decide) (Nat.le_of_ble_eq_true rfl) ?_
  intro p e s m below meth c hC hSt _
  refine aw_aload_n hC 0 dX12_need_0 rfl rfl ?_
  refine aw_iconst (v := 0) hC dX12_need_1 (by decide) ?_
  refine aw_putI hC hSt 0 (ms_lt 64 (by decide) hM) (ms_k 64 12 0 (by decide) hM) rfl (by decide) w_955 rfl rfl rfl rfl dX12_need_2 ?_
  generalize eS1 : (sI S 64 0 (0 : Int32)) = S1
  have hM : MS S1 := MS.of (by rw [← eS1]; exact shp_sI _ _ _ _) hM
  refine aw_iload_n hC 1 dX12_need_5 rfl rfl ?_
  refine aw_i2l hC dX12_need_6 ?_
  refine aw_lconst (v := 0) hC dX12_need_7 (by decide) ?_
  refine aw_ldc2 (v := 200) hC w_1174 dX12_need_8 ?_
  refine aw_cS3r hC hSt (t_X12_in G l  _ _ _) w_945 w_951 w_952 w_953 rfl rfl (by decide +kernel) ⟨Nat.le_of_ble_eq_true rfl, Nat.le_of_ble_eq_true rfl⟩ (Nat.le_of_ble_eq_true rfl) dX12_need_11 ⟨Nat.zero_le _, Nat.zero_le _⟩ ?_
  refine aw_cut (S' := S1) (pc' := 42) (lv' := [(0, .ref 64), (1, .int a1)]) (st' := [.long (if (f_X12_in S1 a1.toInt64 (0 : Int64) (200 : Int64)) = 0 then (-9000000000000000001 : Int64) else (if (gI S1 64 7) = 0 then (-9000000000000000002 : Int64) else (f_X12_needOf S1 64 a1).toInt64))]) ?_ (fun Jc2 => ?_)
  · generalize ex4 : (if (f_X12_in S1 a1.toInt64 (0 : Int64) (200 : Int64)) = 0 then (-9000000000000000001 : Int64) else (if (gI S1 64 7) = 0 then (-9000000000000000002 : Int64) else (f_X12_needOf S1 64 a1).toInt64)) = x4
    refine aw_lret hC dX12_need_42 (Nat.le_refl _) (Nat.le_refl _) ?_
    exact FP.qJ ((bd_eq eS1).trans ((bd_eq ex4).trans (rfl)))
  · refine aw_if_ne hC 23 dX12_need_14 (by decide) (fun c2 => ?_) (fun c2 => ?_)
    · refine aw_aload_n hC 0 dX12_need_23 rfl rfl ?_
      refine aw_getI hC hSt 7 (ms_lt 64 (by decide) hM) (ms_k 64 12 0 (by decide) hM) rfl (by decide) w_1051 rfl dX12_need_24 ?_
      refine aw_if_eq hC 39 dX12_need_27 (by decide) (fun c3 => ?_) (fun c3 => ?_)
      · refine aw_ldc2 (v := -9000000000000000002) hC w_1151 dX12_need_39 ?_
        simp only [bd_def, if_neg c2, if_pos c3] at Jc2 ⊢
        exact Jc2
      · refine aw_aload_n hC 0 dX12_need_30 rfl rfl ?_
        refine aw_iload_n hC 1 dX12_need_31 rfl rfl ?_
        refine aw_cV1r hC hSt (t_X12_needOf G l hM _ (h0 S1 eS1 c2 c3)) w_1094 w_1104 w_1105 w_1106 w_953 rfl rfl (by decide +kernel) ⟨Nat.le_of_ble_eq_true rfl, Nat.le_of_ble_eq_true rfl⟩ (ms_lt 64 (by decide) hM) (ms_k 64 12 0 (by decide) hM) rfl (Nat.le_of_ble_eq_true rfl) dX12_need_32 ⟨Nat.zero_le _, Nat.zero_le _⟩ ?_
        refine aw_i2l hC dX12_need_35 ?_
        refine aw_goto hC 42 dX12_need_36 (by decide) ?_
        simp only [bd_def, if_neg c2, if_neg c3] at Jc2 ⊢
        exact Jc2
    · refine aw_ldc2 (v := -9000000000000000001) hC w_957 dX12_need_17 ?_
      refine aw_goto hC 42 dX12_need_20 (by decide) ?_
      simp only [bd_def, if_pos c2] at Jc2 ⊢
      exact Jc2
theorem q_X12_need (S : HSt) (_o : Nat) (a1 : Int32) : shp ((f_X12_need S _o a1).2) = shp S := by
  unfold f_X12_need
  repeat' (first | with_reducible refine shpr1 ?_ | with_reducible rfl | with_reducible refine (shp_sI _ _ _ _).trans ?_ | with_reducible refine (shp_sJ _ _ _ _).trans ?_ | with_reducible refine shi ?_ ?_ | with_reducible refine shb (fun _ _ => ?_) | with_reducible refine shiP (fun q : Int64 × HSt => q.2) ?_ ?_ | with_reducible refine shbP (fun q : Int64 × HSt => q.2) (fun _ _ => ?_) | (subst_vars; with_reducible rfl) | (subst_vars; with_reducible refine (shp_sI _ _ _ _).trans ?_) | (subst_vars; with_reducible refine (shp_sJ _ _ _ _).trans ?_) | (subst_vars; with_reducible refine shi ?_ ?_) | (subst_vars; with_reducible refine shb (fun _ _ => ?_)))
theorem v_X12_need (S : HSt) (_o : Nat) (a1 : Int32) : Fr [(64, 0)] S ((f_X12_need S _o a1).2) := by
  unfold f_X12_need
  repeat' (first | with_reducible refine frpr1 ?_ | with_reducible exact Fr.refl _ _ | with_reducible refine Fr.lP (fun q : Int64 × HSt => q.2) (fun _ _ => ?_) | with_reducible refine Fr.iteP (fun q : Int64 × HSt => q.2) ?_ ?_ | with_reducible refine Fr.l1 (fun _ _ => ?_) | with_reducible refine Fr.ite ?_ ?_ | with_reducible refine Fr.sE (by assumption) (by first | decide | simp only [List.mem_cons, List.not_mem_nil, or_false, true_or, or_true, eq_self_iff_true]) ?_ | with_reducible refine Fr.jE (by assumption) ?_ | with_reducible refine Fr.rE (by assumption) (by first | decide | simp only [List.mem_cons, List.not_mem_nil, or_false, true_or, or_true, eq_self_iff_true]) ?_ | with_reducible refine Fr.iE (by assumption) ?_ ?_)
theorem w_X12_need (S : HSt) (_o : Nat) (a1 : Int32) (r : Int64 × HSt) (e : f_X12_need S _o a1 = r) : Fr [(64, 0)] S r.2 := by
  rw [← e]
  exact v_X12_need S _o a1
noncomputable def L_X12_greatest_36 : Nat → HSt → Int32 → Int32 → Int32 × Int32
  | 0, S, v1, v2 => (v1, v2)
  | n + 1, S, v1, v2 =>
    if v2 < 0 then ((pr (v1) (v2))) else (if (f_X12_needOf S 64 v2) ≤ v1 then ((pr (v1) (v2))) else (L_X12_greatest_36 n S v1 (v2 + (-1 : Int32))))
def T_X12_greatest_36 : Nat → HSt → Int32 → Int32 → Prop
  | 0, _, _, _ => False
  | n + 1, S, v1, v2 => ((¬ v2 < 0) → p_X12_needOf S 64 v2) ∧ ((¬ v2 < 0) → (¬ (f_X12_needOf S 64 v2) ≤ v1) → T_X12_greatest_36 n S v1 (v2 + (-1 : Int32)))
set_option maxRecDepth 100000 in
theorem l_X12_greatest_36 {p : Program} {l : Launch} {e : Env} {s : State} {m : MethodId} {args : Array Value} {below : List Frame} {meth : Method} {c : Code} {G : GG} {Q : State → Prop} (hC : ACx p s m args meth c cX12_greatest RX12 3 (some .long)) (hSt : St G s)  : ∀ (n : Nat) (S : HSt) (v1 : Int32) (v2 : Int32), MS S → T_X12_greatest_36 n S v1 v2 → AW p l e (rmD 2 0 0) s m args below meth c G 3 Q S 0 0 55 [(0, .ref 64), (1, .int (L_X12_greatest_36 n S v1 v2).1), (2, .int (L_X12_greatest_36 n S v1 v2).2)] [] → AW p l e (rmD 2 0 0) s m args below meth c G 3 Q S 0 0 36 [(0, .ref 64), (1, .int v1), (2, .int v2)] [] := by
  intro n
  induction n with
  | zero => intro S v1 v2 _ hT; exact hT.elim
  | succ n ih =>
    intro S v1 v2 hM hT hk
    unfold T_X12_greatest_36 at hT
    obtain ⟨h0, h1⟩ := hT
    refine aw_iload_n hC 2 dX12_greatest_36 rfl rfl ?_
    refine aw_if_lt hC 55 dX12_greatest_37 (by decide) (fun c1004 => ?_) (fun c1004 => ?_)
    · refine aw_sub [0, 1, 2] rfl ?_
      have E : L_X12_greatest_36 (n + 1) S v1 v2 = _ := (if_pos c1004).trans (rfl)
      rw [E] at hk
      exact hk
    · refine aw_aload_n hC 0 dX12_greatest_40 rfl rfl ?_
      refine aw_iload_n hC 2 dX12_greatest_41 rfl rfl ?_
      refine aw_cV1r hC hSt (t_X12_needOf G l hM _ (h0 c1004)) w_1094 w_1104 w_1105 w_1106 w_953 rfl rfl (by decide +kernel) ⟨Nat.le_of_ble_eq_true rfl, Nat.le_of_ble_eq_true rfl⟩ (ms_lt 64 (by decide) hM) (ms_k 64 12 0 (by decide) hM) rfl (Nat.le_of_ble_eq_true rfl) dX12_greatest_42 ⟨Nat.zero_le _, Nat.zero_le _⟩ ?_
      refine aw_iload_n hC 1 dX12_greatest_45 rfl rfl ?_
      refine aw_icmp_le hC 55 dX12_greatest_46 (by decide) (fun c1005 => ?_) (fun c1005 => ?_)
      · refine aw_sub [0, 1, 2] rfl ?_
        have E : L_X12_greatest_36 (n + 1) S v1 v2 = _ := (if_neg c1004).trans ((if_pos c1005).trans (rfl))
        rw [E] at hk
        exact hk
      · refine aw_iinc (v := (v2 + (-1 : Int32))) hC 2 [(2, .int _), (0, .ref 64), (1, .int _)] dX12_greatest_49 rfl rfl (by decide) rfl ?_
        refine aw_goto hC 36 dX12_greatest_52 (by decide) ?_
        refine aw_sub [1, 2, 0] rfl ?_
        have hTn := (h1 c1004 c1005)
        have hMn : MS S := hM
        have E : L_X12_greatest_36 (n + 1) S v1 v2 = _ := (if_neg c1004).trans ((if_neg c1005).trans (rfl))
        rw [E] at hk
        exact ih _ _ _ hMn hTn hk
noncomputable def f_X12_greatest (S : HSt) (_o : Nat) (a1 : Int32) : Int64 × HSt := bd ((sI S 64 0 (0 : Int32))) fun S1 => if (f_X12_in S1 a1.toInt64 (0 : Int64) (15 : Int64)) = 0 then (pr ((-9000000000000000001 : Int64)) (S1)) else (if (gI S1 64 7) = 0 then (pr ((-9000000000000000002 : Int64)) (S1)) else (bd (L_X12_greatest_36 1000 S1 a1 (400 : Int32)) fun r4 => bd ((if 0 ≤ r4.2 then r4.2.toInt64 else (-1000000 : Int64))) fun x6 => pr (x6) (S1)))
def p_X12_greatest (S : HSt) (_o : Nat) (a1 : Int32) : Prop := (∀ S1 : HSt, (sI S 64 0 (0 : Int32)) = S1 → (¬ (f_X12_in S1 a1.toInt64 (0 : Int64) (15 : Int64)) = 0) → (¬ (gI S1 64 7) = 0) → T_X12_greatest_36 1000 S1 a1 (400 : Int32))
set_option maxRecDepth 100000 in
theorem t_X12_greatest (G : GG) (l : Launch) {S : HSt} (hM : MS S) (a1 : Int32) (hp : p_X12_greatest S 64 a1) : AM G l yX12_greatest cX12_greatest 3 (some .long) (rmD 2 0 0) 0 0 [.ref 64, .int a1] S (FP (some (.long (f_X12_greatest S 64 a1).1)) ((f_X12_greatest S 64 a1).2)) := by
  have h0 := hp
  unfold p_X12_greatest at h0
  refine AM.mk (by decide) (Nat.le_of_ble_eq_true rfl) ?_
  intro p e s m below meth c hC hSt _
  refine aw_aload_n hC 0 dX12_greatest_0 rfl rfl ?_
  refine aw_iconst (v := 0) hC dX12_greatest_1 (by decide) ?_
  refine aw_putI hC hSt 0 (ms_lt 64 (by decide) hM) (ms_k 64 12 0 (by decide) hM) rfl (by decide) w_955 rfl rfl rfl rfl dX12_greatest_2 ?_
  generalize eS1 : (sI S 64 0 (0 : Int32)) = S1
  have hM : MS S1 := MS.of (by rw [← eS1]; exact shp_sI _ _ _ _) hM
  refine aw_iload_n hC 1 dX12_greatest_5 rfl rfl ?_
  refine aw_i2l hC dX12_greatest_6 ?_
  refine aw_lconst (v := 0) hC dX12_greatest_7 (by decide) ?_
  refine aw_ldc2 (v := 15) hC w_1150 dX12_greatest_8 ?_
  refine aw_cS3r hC hSt (t_X12_in G l  _ _ _) w_945 w_951 w_952 w_953 rfl rfl (by decide +kernel) ⟨Nat.le_of_ble_eq_true rfl, Nat.le_of_ble_eq_true rfl⟩ (Nat.le_of_ble_eq_true rfl) dX12_greatest_11 ⟨Nat.zero_le _, Nat.zero_le _⟩ ?_
  refine aw_if_ne hC 21 dX12_greatest_14 (by decide) (fun c2 => ?_) (fun c2 => ?_)
  · refine aw_aload_n hC 0 dX12_greatest_21 rfl rfl ?_
    refine aw_getI hC hSt 7 (ms_lt 64 (by decide) hM) (ms_k 64 12 0 (by decide) hM) rfl (by decide) w_1051 rfl dX12_greatest_22 ?_
    refine aw_if_ne hC 32 dX12_greatest_25 (by decide) (fun c3 => ?_) (fun c3 => ?_)
    · refine aw_sipush (v := 400) hC dX12_greatest_32 (by decide) ?_
      refine aw_istore_n hC [(2, .int _), (0, .ref 64), (1, .int _)] dX12_greatest_35 rfl (by decide) rfl ?_
      refine aw_sub [1, 2, 0] rfl ?_
      refine l_X12_greatest_36 hC hSt 1000 _ _ _ hM (h0 S1 eS1 c2 c3) ?_
      generalize er4 : L_X12_greatest_36 1000 S1 a1 (400 : Int32) = r4
      refine aw_iload_n hC 2 dX12_greatest_55 rfl rfl ?_
      refine aw_cut (S' := S1) (pc' := 67) (lv' := [(0, .ref 64), (1, .int r4.1), (2, .int r4.2)]) (st' := [.long (if 0 ≤ r4.2 then r4.2.toInt64 else (-1000000 : Int64))]) ?_ (fun Jc5 => ?_)
      · generalize ex6 : (if 0 ≤ r4.2 then r4.2.toInt64 else (-1000000 : Int64)) = x6
        refine aw_lret hC dX12_greatest_67 (Nat.le_refl _) (Nat.le_refl _) ?_
        exact FP.qJ ((bd_eq eS1).trans ((if_neg c2).trans ((if_neg c3).trans ((bd_eq er4).trans ((bd_eq ex6).trans (rfl))))))
      · refine aw_if_ge hC 65 dX12_greatest_56 (by decide) (fun c5 => ?_) (fun c5 => ?_)
        · refine aw_iload_n hC 2 dX12_greatest_65 rfl rfl ?_
          refine aw_i2l hC dX12_greatest_66 ?_
          simp only [bd_def, if_pos c5] at Jc5 ⊢
          exact Jc5
        · refine aw_ldc2 (v := -1000000) hC w_1176 dX12_greatest_59 ?_
          refine aw_goto hC 67 dX12_greatest_62 (by decide) ?_
          simp only [bd_def, if_neg c5] at Jc5 ⊢
          exact Jc5
    · refine aw_ldc2 (v := -9000000000000000002) hC w_1151 dX12_greatest_28 ?_
      refine aw_lret hC dX12_greatest_31 (Nat.le_refl _) (Nat.le_refl _) ?_
      exact FP.qJ ((bd_eq eS1).trans ((if_neg c2).trans ((if_pos c3).trans (rfl))))
  · refine aw_ldc2 (v := -9000000000000000001) hC w_957 dX12_greatest_17 ?_
    refine aw_lret hC dX12_greatest_20 (Nat.le_refl _) (Nat.le_refl _) ?_
    exact FP.qJ ((bd_eq eS1).trans ((if_pos c2).trans (rfl)))
theorem q_X12_greatest (S : HSt) (_o : Nat) (a1 : Int32) : shp ((f_X12_greatest S _o a1).2) = shp S := by
  unfold f_X12_greatest
  repeat' (first | with_reducible refine shpr1 ?_ | with_reducible rfl | with_reducible refine (shp_sI _ _ _ _).trans ?_ | with_reducible refine (shp_sJ _ _ _ _).trans ?_ | with_reducible refine shi ?_ ?_ | with_reducible refine shb (fun _ _ => ?_) | with_reducible refine shiP (fun q : Int64 × HSt => q.2) ?_ ?_ | with_reducible refine shbP (fun q : Int64 × HSt => q.2) (fun _ _ => ?_) | (subst_vars; with_reducible rfl) | (subst_vars; with_reducible refine (shp_sI _ _ _ _).trans ?_) | (subst_vars; with_reducible refine (shp_sJ _ _ _ _).trans ?_) | (subst_vars; with_reducible refine shi ?_ ?_) | (subst_vars; with_reducible refine shb (fun _ _ => ?_)))
theorem v_X12_greatest (S : HSt) (_o : Nat) (a1 : Int32) : Fr [(64, 0)] S ((f_X12_greatest S _o a1).2) := by
  unfold f_X12_greatest
  repeat' (first | with_reducible refine frpr1 ?_ | with_reducible exact Fr.refl _ _ | with_reducible refine Fr.lP (fun q : Int64 × HSt => q.2) (fun _ _ => ?_) | with_reducible refine Fr.iteP (fun q : Int64 × HSt => q.2) ?_ ?_ | with_reducible refine Fr.l1 (fun _ _ => ?_) | with_reducible refine Fr.ite ?_ ?_ | with_reducible refine Fr.sE (by assumption) (by first | decide | simp only [List.mem_cons, List.not_mem_nil, or_false, true_or, or_true, eq_self_iff_true]) ?_ | with_reducible refine Fr.jE (by assumption) ?_ | with_reducible refine Fr.rE (by assumption) (by first | decide | simp only [List.mem_cons, List.not_mem_nil, or_false, true_or, or_true, eq_self_iff_true]) ?_ | with_reducible refine Fr.iE (by assumption) ?_ ?_)
theorem w_X12_greatest (S : HSt) (_o : Nat) (a1 : Int32) (r : Int64 × HSt) (e : f_X12_greatest S _o a1 = r) : Fr [(64, 0)] S r.2 := by
  rw [← e]
  exact v_X12_greatest S _o a1
noncomputable def L_X12_out_58 : Nat → HSt → Int32 → Int32 → Int32 → Int32 → Int32 → Int32 × Int32 × Int32 × Int32 × Int32
  | 0, S, v1, v2, v3, v4, v5 => (v1, v2, v3, v4, v5)
  | n + 1, S, v1, v2, v3, v4, v5 =>
    if v2 < v5 then ((pr (v1) (pr (v2) (pr (v3) (pr (v4) (v5)))))) else (bd ((if v4 = 0 then (0 : Int32) else (if (f_X12_in S ((gI S 71 (2 : Int32).toNatClampNeg) + (v5 * (v1 - v3))).toInt64 (-(f_X12_limit S 64)).toInt64 (f_X12_limit S 64).toInt64) = 0 then (0 : Int32) else (1 : Int32)))) fun x2009 => L_X12_out_58 n S v1 v2 v3 x2009 (v5 + (1 : Int32)))
def T_X12_out_58 : Nat → HSt → Int32 → Int32 → Int32 → Int32 → Int32 → Prop
  | 0, _, _, _, _, _, _ => False
  | n + 1, S, v1, v2, v3, v4, v5 => ((¬ v2 < v5) → (¬ v4 = 0) → p_X12_limit S 64) ∧ ((¬ v2 < v5) → (¬ v4 = 0) → p_X12_limit S 64) ∧ ((¬ v2 < v5) → ∀ x2009 : Int32, (if v4 = 0 then (0 : Int32) else (if (f_X12_in S ((gI S 71 (2 : Int32).toNatClampNeg) + (v5 * (v1 - v3))).toInt64 (-(f_X12_limit S 64)).toInt64 (f_X12_limit S 64).toInt64) = 0 then (0 : Int32) else (1 : Int32))) = x2009 → T_X12_out_58 n S v1 v2 v3 x2009 (v5 + (1 : Int32)))
set_option maxRecDepth 100000 in
theorem l_X12_out_58 {p : Program} {l : Launch} {e : Env} {s : State} {m : MethodId} {args : Array Value} {below : List Frame} {meth : Method} {c : Code} {G : GG} {Q : State → Prop} (hC : ACx p s m args meth c cX12_out RX12 6 (some .long)) (hSt : St G s)  : ∀ (n : Nat) (S : HSt) (v1 : Int32) (v2 : Int32) (v3 : Int32) (v4 : Int32) (v5 : Int32), MS S → T_X12_out_58 n S v1 v2 v3 v4 v5 → AW p l e (rmD 2 0 0) s m args below meth c G 6 Q S 0 0 113 [(0, .ref 64), (1, .int (L_X12_out_58 n S v1 v2 v3 v4 v5).1), (2, .int (L_X12_out_58 n S v1 v2 v3 v4 v5).2.1), (3, .int (L_X12_out_58 n S v1 v2 v3 v4 v5).2.2.1), (4, .int (L_X12_out_58 n S v1 v2 v3 v4 v5).2.2.2.1), (5, .int (L_X12_out_58 n S v1 v2 v3 v4 v5).2.2.2.2)] [] → AW p l e (rmD 2 0 0) s m args below meth c G 6 Q S 0 0 58 [(0, .ref 64), (1, .int v1), (2, .int v2), (3, .int v3), (4, .int v4), (5, .int v5)] [] := by
  intro n
  induction n with
  | zero => intro S v1 v2 v3 v4 v5 _ hT; exact hT.elim
  | succ n ih =>
    intro S v1 v2 v3 v4 v5 hM hT hk
    unfold T_X12_out_58 at hT
    obtain ⟨h0, h1, h2⟩ := hT
    refine aw_iload hC 5 dX12_out_58 rfl ?_
    refine aw_iload_n hC 2 dX12_out_60 rfl rfl ?_
    refine aw_icmp_gt hC 113 dX12_out_61 (by decide) (fun c2006 => ?_) (fun c2006 => ?_)
    · refine aw_sub [0, 1, 2, 3, 4, 5] rfl ?_
      have E : L_X12_out_58 (n + 1) S v1 v2 v3 v4 v5 = _ := (if_pos c2006).trans (rfl)
      rw [E] at hk
      exact hk
    · refine aw_iload hC 4 dX12_out_64 rfl ?_
      refine aw_cut (S' := S) (pc' := 105) (lv' := [(0, .ref 64), (1, .int v1), (2, .int v2), (3, .int v3), (4, .int v4), (5, .int v5)]) (st' := [.int (if v4 = 0 then (0 : Int32) else (if (f_X12_in S ((gI S 71 (2 : Int32).toNatClampNeg) + (v5 * (v1 - v3))).toInt64 (-(f_X12_limit S 64)).toInt64 (f_X12_limit S 64).toInt64) = 0 then (0 : Int32) else (1 : Int32)))]) ?_ (fun Jc2007 => ?_)
      · generalize ex2009 : (if v4 = 0 then (0 : Int32) else (if (f_X12_in S ((gI S 71 (2 : Int32).toNatClampNeg) + (v5 * (v1 - v3))).toInt64 (-(f_X12_limit S 64)).toInt64 (f_X12_limit S 64).toInt64) = 0 then (0 : Int32) else (1 : Int32))) = x2009
        refine aw_istore hC [(4, .int _), (0, .ref 64), (1, .int _), (2, .int _), (3, .int _), (5, .int _)] dX12_out_105 (by decide) rfl ?_
        refine aw_iinc (v := (v5 + (1 : Int32))) hC 5 [(5, .int _), (4, .int _), (0, .ref 64), (1, .int _), (2, .int _), (3, .int _)] dX12_out_107 rfl rfl (by decide) rfl ?_
        refine aw_goto hC 58 dX12_out_110 (by decide) ?_
        refine aw_sub [2, 3, 4, 5, 1, 0] rfl ?_
        have hTn := (h2 c2006 x2009 ex2009)
        have hMn : MS S := hM
        have E : L_X12_out_58 (n + 1) S v1 v2 v3 v4 v5 = _ := (if_neg c2006).trans ((bd_eq ex2009).trans (rfl))
        rw [E] at hk
        exact ih _ _ _ _ _ _ hMn hTn hk
      · refine aw_if_eq hC 104 dX12_out_66 (by decide) (fun c2007 => ?_) (fun c2007 => ?_)
        · refine aw_iconst (v := 0) hC dX12_out_104 (by decide) ?_
          simp only [bd_def, if_pos c2007] at Jc2007 ⊢
          exact Jc2007
        · refine aw_aload_n hC 0 dX12_out_69 rfl rfl ?_
          refine aw_getP (b := 71) hC hSt 27 (ms_lt 64 (by decide) hM) (ms_k 64 12 0 (by decide) hM) rfl (by decide) w_925 rfl (ms_p 27 71 (by decide) hM) dX12_out_70 ?_
          refine aw_iconst (v := 2) hC dX12_out_73 (by decide) ?_
          refine aw_iald hC hSt (ms_lt 71 (by decide) hM) (ms_k 71 14 7 (by decide) hM) (vp_len (n := 7) (ms_l 71 14 7 (by decide) hM) (by unfold vp_in; decide)) dX12_out_74 ?_
          refine aw_iload hC 5 dX12_out_75 rfl ?_
          refine aw_iload_n hC 1 dX12_out_77 rfl rfl ?_
          refine aw_iload_n hC 3 dX12_out_78 rfl rfl ?_
          refine aw_isub hC dX12_out_79 ?_
          refine aw_imul hC dX12_out_80 ?_
          refine aw_iadd hC dX12_out_81 ?_
          refine aw_i2l hC dX12_out_82 ?_
          refine aw_aload_n hC 0 dX12_out_83 rfl rfl ?_
          refine aw_cV0r hC hSt (t_X12_limit G l hM  (h0 c2006 c2007)) w_1098 w_1107 w_1108 w_1109 w_953 rfl rfl (by decide +kernel) ⟨Nat.le_of_ble_eq_true rfl, Nat.le_of_ble_eq_true rfl⟩ (ms_lt 64 (by decide) hM) (ms_k 64 12 0 (by decide) hM) rfl (Nat.le_of_ble_eq_true rfl) dX12_out_84 ⟨Nat.zero_le _, Nat.zero_le _⟩ ?_
          refine aw_ineg hC dX12_out_87 ?_
          refine aw_i2l hC dX12_out_88 ?_
          refine aw_aload_n hC 0 dX12_out_89 rfl rfl ?_
          refine aw_cV0r hC hSt (t_X12_limit G l hM  (h1 c2006 c2007)) w_1098 w_1107 w_1108 w_1109 w_953 rfl rfl (by decide +kernel) ⟨Nat.le_of_ble_eq_true rfl, Nat.le_of_ble_eq_true rfl⟩ (ms_lt 64 (by decide) hM) (ms_k 64 12 0 (by decide) hM) rfl (Nat.le_of_ble_eq_true rfl) dX12_out_90 ⟨Nat.zero_le _, Nat.zero_le _⟩ ?_
          refine aw_i2l hC dX12_out_93 ?_
          refine aw_cS3r hC hSt (t_X12_in G l  _ _ _) w_945 w_951 w_952 w_953 rfl rfl (by decide +kernel) ⟨Nat.le_of_ble_eq_true rfl, Nat.le_of_ble_eq_true rfl⟩ (Nat.le_of_ble_eq_true rfl) dX12_out_94 ⟨Nat.zero_le _, Nat.zero_le _⟩ ?_
          refine aw_if_eq hC 104 dX12_out_97 (by decide) (fun c2008 => ?_) (fun c2008 => ?_)
          · refine aw_iconst (v := 0) hC dX12_out_104 (by decide) ?_
            simp only [bd_def, if_neg c2007, if_pos c2008] at Jc2007 ⊢
            exact Jc2007
          · refine aw_iconst (v := 1) hC dX12_out_100 (by decide) ?_
            refine aw_goto hC 105 dX12_out_101 (by decide) ?_
            simp only [bd_def, if_neg c2007, if_neg c2008] at Jc2007 ⊢
            exact Jc2007
noncomputable def L_X12_out_46 : Nat → HSt → Int32 → Int32 → Int32 → Int32 × Int64 × Int32 × Int32 × Int32
  | 0, S, v1, v2, v3 => ((1 : Int32), 0, v1, v2, v3)
  | n + 1, S, v1, v2, v3 =>
    if (16 : Int32) ≤ v3 then ((pr ((0 : Int32)) (pr (0) (pr (v1) (pr (v2) (v3)))))) else (bd (L_X12_out_58 1000 S v1 v2 v3 (1 : Int32) (1 : Int32)) fun r1006 => if r1006.2.2.2.1 = 0 then (L_X12_out_46 n S r1006.1 r1006.2.1 (r1006.2.2.1 + (1 : Int32))) else ((pr ((1 : Int32)) (pr (r1006.2.2.1.toInt64) (pr (r1006.1) (pr (r1006.2.1) (r1006.2.2.1)))))))
def T_X12_out_46 : Nat → HSt → Int32 → Int32 → Int32 → Prop
  | 0, _, _, _, _ => False
  | n + 1, S, v1, v2, v3 => ((¬ (16 : Int32) ≤ v3) → T_X12_out_58 1000 S v1 v2 v3 (1 : Int32) (1 : Int32)) ∧ ((¬ (16 : Int32) ≤ v3) → ∀ r1006, L_X12_out_58 1000 S v1 v2 v3 (1 : Int32) (1 : Int32) = r1006 → (r1006.2.2.2.1 = 0) → T_X12_out_46 n S r1006.1 r1006.2.1 (r1006.2.2.1 + (1 : Int32)))
set_option maxRecDepth 100000 in
theorem l_X12_out_46 {p : Program} {l : Launch} {e : Env} {s : State} {m : MethodId} {args : Array Value} {below : List Frame} {meth : Method} {c : Code} {G : GG} {Post : Option Value → HSt → Prop} (hC : ACx p s m args meth c cX12_out RX12 6 (some .long)) (hSt : St G s)  : ∀ (n : Nat) (S : HSt) (v1 : Int32) (v2 : Int32) (v3 : Int32), MS S → T_X12_out_46 n S v1 v2 v3 → ((L_X12_out_46 n S v1 v2 v3).1 = 1 → Post (some (.long (L_X12_out_46 n S v1 v2 v3).2.1)) S) → ((L_X12_out_46 n S v1 v2 v3).1 ≠ 1 → AW p l e (rmD 2 0 0) s m args below meth c G 6 (AQ G below args s 0 0 Post) S 0 0 127 [(0, .ref 64), (1, .int (L_X12_out_46 n S v1 v2 v3).2.2.1), (2, .int (L_X12_out_46 n S v1 v2 v3).2.2.2.1), (3, .int (L_X12_out_46 n S v1 v2 v3).2.2.2.2)] []) → AW p l e (rmD 2 0 0) s m args below meth c G 6 (AQ G below args s 0 0 Post) S 0 0 46 [(0, .ref 64), (1, .int v1), (2, .int v2), (3, .int v3)] [] := by
  intro n
  induction n with
  | zero => intro S v1 v2 v3 _ hT; exact hT.elim
  | succ n ih =>
    intro S v1 v2 v3 hM hT hr hk
    unfold T_X12_out_46 at hT
    obtain ⟨h0, h1⟩ := hT
    refine aw_iload_n hC 3 dX12_out_46 rfl rfl ?_
    refine aw_bipush (v := 16) hC dX12_out_47 (by decide) ?_
    refine aw_icmp_ge hC 127 dX12_out_49 (by decide) (fun c1005 => ?_) (fun c1005 => ?_)
    · refine aw_sub [0, 1, 2, 3] rfl ?_
      have E : L_X12_out_46 (n + 1) S v1 v2 v3 = _ := (if_pos c1005).trans (rfl)
      rw [E] at hk hr
      exact hk (by show ¬ (0 : Int32) = 1; decide)
    · refine aw_iconst (v := 1) hC dX12_out_52 (by decide) ?_
      refine aw_istore hC [(4, .int _), (0, .ref 64), (1, .int _), (2, .int _), (3, .int _)] dX12_out_53 (by decide) rfl ?_
      refine aw_iconst (v := 1) hC dX12_out_55 (by decide) ?_
      refine aw_istore hC [(5, .int _), (4, .int _), (0, .ref 64), (1, .int _), (2, .int _), (3, .int _)] dX12_out_56 (by decide) rfl ?_
      refine aw_sub [2, 3, 4, 5, 1, 0] rfl ?_
      refine l_X12_out_58 hC hSt 1000 _ _ _ _ _ _ hM (h0 c1005) ?_
      generalize er1006 : L_X12_out_58 1000 S v1 v2 v3 (1 : Int32) (1 : Int32) = r1006
      refine aw_iload hC 4 dX12_out_113 rfl ?_
      refine aw_if_eq hC 121 dX12_out_115 (by decide) (fun c1007 => ?_) (fun c1007 => ?_)
      · refine aw_iinc (v := (r1006.2.2.1 + (1 : Int32))) hC 3 [(3, .int _), (0, .ref 64), (1, .int _), (2, .int _), (4, .int _), (5, .int _)] dX12_out_121 rfl rfl (by decide) rfl ?_
        refine aw_goto hC 46 dX12_out_124 (by decide) ?_
        refine aw_sub [1, 2, 3, 0] rfl ?_
        have hTn := (h1 c1005 r1006 er1006 c1007)
        have hMn : MS S := hM
        have E : L_X12_out_46 (n + 1) S v1 v2 v3 = _ := (if_neg c1005).trans ((bd_eq er1006).trans ((if_pos c1007).trans (rfl)))
        rw [E] at hk hr
        exact ih _ _ _ _ hMn hTn hr hk
      · refine aw_iload_n hC 3 dX12_out_118 rfl rfl ?_
        refine aw_i2l hC dX12_out_119 ?_
        refine aw_lret hC dX12_out_120 (Nat.le_refl _) (Nat.le_refl _) ?_
        have E : L_X12_out_46 (n + 1) S v1 v2 v3 = _ := (if_neg c1005).trans ((bd_eq er1006).trans ((if_neg c1007).trans (rfl)))
        rw [E] at hr
        exact hr rfl
noncomputable def f_X12_out (S : HSt) (_o : Nat) (a1 : Int32) (a2 : Int32) : Int64 × HSt := bd ((sI S 64 0 (0 : Int32))) fun S1 => if (f_X12_in S1 a1.toInt64 (0 : Int64) (15 : Int64)) = 0 then (pr ((-9000000000000000001 : Int64)) (S1)) else (if (f_X12_in S1 a2.toInt64 (1 : Int64) (40 : Int64)) = 0 then (pr ((-9000000000000000001 : Int64)) (S1)) else (if (gI S1 64 7) = 0 then (pr ((-9000000000000000002 : Int64)) (S1)) else (bd (L_X12_out_46 1000 S1 a1 a2 (0 : Int32)) fun r5 => if r5.1 = 1 then (pr (r5.2.1) (S1)) else (pr ((-1000000 : Int64)) (S1)))))
def p_X12_out (S : HSt) (_o : Nat) (a1 : Int32) (a2 : Int32) : Prop := (∀ S1 : HSt, (sI S 64 0 (0 : Int32)) = S1 → (¬ (f_X12_in S1 a1.toInt64 (0 : Int64) (15 : Int64)) = 0) → (¬ (f_X12_in S1 a2.toInt64 (1 : Int64) (40 : Int64)) = 0) → (¬ (gI S1 64 7) = 0) → T_X12_out_46 1000 S1 a1 a2 (0 : Int32))
set_option maxRecDepth 100000 in
theorem t_X12_out (G : GG) (l : Launch) {S : HSt} (hM : MS S) (a1 : Int32) (a2 : Int32) (hp : p_X12_out S 64 a1 a2) : AM G l yX12_out cX12_out 6 (some .long) (rmD 2 0 0) 0 0 [.ref 64, .int a1, .int a2] S (FP (some (.long (f_X12_out S 64 a1 a2).1)) ((f_X12_out S 64 a1 a2).2)) := by
  have h0 := hp
  unfold p_X12_out at h0
  refine AM.mk (by decide) (Nat.le_of_ble_eq_true rfl) ?_
  intro p e s m below meth c hC hSt _
  refine aw_aload_n hC 0 dX12_out_0 rfl rfl ?_
  refine aw_iconst (v := 0) hC dX12_out_1 (by decide) ?_
  refine aw_putI hC hSt 0 (ms_lt 64 (by decide) hM) (ms_k 64 12 0 (by decide) hM) rfl (by decide) w_955 rfl rfl rfl rfl dX12_out_2 ?_
  generalize eS1 : (sI S 64 0 (0 : Int32)) = S1
  have hM : MS S1 := MS.of (by rw [← eS1]; exact shp_sI _ _ _ _) hM
  refine aw_iload_n hC 1 dX12_out_5 rfl rfl ?_
  refine aw_i2l hC dX12_out_6 ?_
  refine aw_lconst (v := 0) hC dX12_out_7 (by decide) ?_
  refine aw_ldc2 (v := 15) hC w_1150 dX12_out_8 ?_
  refine aw_cS3r hC hSt (t_X12_in G l  _ _ _) w_945 w_951 w_952 w_953 rfl rfl (by decide +kernel) ⟨Nat.le_of_ble_eq_true rfl, Nat.le_of_ble_eq_true rfl⟩ (Nat.le_of_ble_eq_true rfl) dX12_out_11 ⟨Nat.zero_le _, Nat.zero_le _⟩ ?_
  refine aw_if_eq hC 29 dX12_out_14 (by decide) (fun c2 => ?_) (fun c2 => ?_)
  · refine aw_ldc2 (v := -9000000000000000001) hC w_957 dX12_out_29 ?_
    refine aw_lret hC dX12_out_32 (Nat.le_refl _) (Nat.le_refl _) ?_
    exact FP.qJ ((bd_eq eS1).trans ((if_pos c2).trans (rfl)))
  · refine aw_iload_n hC 2 dX12_out_17 rfl rfl ?_
    refine aw_i2l hC dX12_out_18 ?_
    refine aw_lconst (v := 1) hC dX12_out_19 (by decide) ?_
    refine aw_ldc2 (v := 40) hC w_1178 dX12_out_20 ?_
    refine aw_cS3r hC hSt (t_X12_in G l  _ _ _) w_945 w_951 w_952 w_953 rfl rfl (by decide +kernel) ⟨Nat.le_of_ble_eq_true rfl, Nat.le_of_ble_eq_true rfl⟩ (Nat.le_of_ble_eq_true rfl) dX12_out_23 ⟨Nat.zero_le _, Nat.zero_le _⟩ ?_
    refine aw_if_ne hC 33 dX12_out_26 (by decide) (fun c3 => ?_) (fun c3 => ?_)
    · refine aw_aload_n hC 0 dX12_out_33 rfl rfl ?_
      refine aw_getI hC hSt 7 (ms_lt 64 (by decide) hM) (ms_k 64 12 0 (by decide) hM) rfl (by decide) w_1051 rfl dX12_out_34 ?_
      refine aw_if_ne hC 44 dX12_out_37 (by decide) (fun c4 => ?_) (fun c4 => ?_)
      · refine aw_iconst (v := 0) hC dX12_out_44 (by decide) ?_
        refine aw_istore_n hC [(3, .int _), (0, .ref 64), (1, .int _), (2, .int _)] dX12_out_45 rfl (by decide) rfl ?_
        refine aw_sub [1, 2, 3, 0] rfl ?_
        refine l_X12_out_46 hC hSt 1000 _ _ _ _ hM (h0 S1 eS1 c2 c3 c4) (fun c6 => ?_) (fun c6 => ?_)
        · revert c6
          generalize er5 : L_X12_out_46 1000 S1 a1 a2 (0 : Int32) = r5
          intro c6
          exact FP.qJ ((bd_eq eS1).trans ((if_neg c2).trans ((if_neg c3).trans ((if_neg c4).trans ((bd_eq er5).trans ((if_pos c6).trans (rfl)))))))
        · revert c6
          generalize er5 : L_X12_out_46 1000 S1 a1 a2 (0 : Int32) = r5
          intro c6
          refine aw_ldc2 (v := -1000000) hC w_1176 dX12_out_127 ?_
          refine aw_lret hC dX12_out_130 (Nat.le_refl _) (Nat.le_refl _) ?_
          exact FP.qJ ((bd_eq eS1).trans ((if_neg c2).trans ((if_neg c3).trans ((if_neg c4).trans ((bd_eq er5).trans ((if_neg c6).trans (rfl)))))))
      · refine aw_ldc2 (v := -9000000000000000002) hC w_1151 dX12_out_40 ?_
        refine aw_lret hC dX12_out_43 (Nat.le_refl _) (Nat.le_refl _) ?_
        exact FP.qJ ((bd_eq eS1).trans ((if_neg c2).trans ((if_neg c3).trans ((if_pos c4).trans (rfl)))))
    · refine aw_ldc2 (v := -9000000000000000001) hC w_957 dX12_out_29 ?_
      refine aw_lret hC dX12_out_32 (Nat.le_refl _) (Nat.le_refl _) ?_
      exact FP.qJ ((bd_eq eS1).trans ((if_neg c2).trans ((if_pos c3).trans (rfl))))
theorem q_X12_out (S : HSt) (_o : Nat) (a1 : Int32) (a2 : Int32) : shp ((f_X12_out S _o a1 a2).2) = shp S := by
  unfold f_X12_out
  repeat' (first | with_reducible refine shpr1 ?_ | with_reducible rfl | with_reducible refine (shp_sI _ _ _ _).trans ?_ | with_reducible refine (shp_sJ _ _ _ _).trans ?_ | with_reducible refine shi ?_ ?_ | with_reducible refine shb (fun _ _ => ?_) | with_reducible refine shiP (fun q : Int64 × HSt => q.2) ?_ ?_ | with_reducible refine shbP (fun q : Int64 × HSt => q.2) (fun _ _ => ?_) | (subst_vars; with_reducible rfl) | (subst_vars; with_reducible refine (shp_sI _ _ _ _).trans ?_) | (subst_vars; with_reducible refine (shp_sJ _ _ _ _).trans ?_) | (subst_vars; with_reducible refine shi ?_ ?_) | (subst_vars; with_reducible refine shb (fun _ _ => ?_)))
theorem v_X12_out (S : HSt) (_o : Nat) (a1 : Int32) (a2 : Int32) : Fr [(64, 0)] S ((f_X12_out S _o a1 a2).2) := by
  unfold f_X12_out
  repeat' (first | with_reducible refine frpr1 ?_ | with_reducible exact Fr.refl _ _ | with_reducible refine Fr.lP (fun q : Int64 × HSt => q.2) (fun _ _ => ?_) | with_reducible refine Fr.iteP (fun q : Int64 × HSt => q.2) ?_ ?_ | with_reducible refine Fr.l1 (fun _ _ => ?_) | with_reducible refine Fr.ite ?_ ?_ | with_reducible refine Fr.sE (by assumption) (by first | decide | simp only [List.mem_cons, List.not_mem_nil, or_false, true_or, or_true, eq_self_iff_true]) ?_ | with_reducible refine Fr.jE (by assumption) ?_ | with_reducible refine Fr.rE (by assumption) (by first | decide | simp only [List.mem_cons, List.not_mem_nil, or_false, true_or, or_true, eq_self_iff_true]) ?_ | with_reducible refine Fr.iE (by assumption) ?_ ?_)
theorem w_X12_out (S : HSt) (_o : Nat) (a1 : Int32) (a2 : Int32) (r : Int64 × HSt) (e : f_X12_out S _o a1 a2 = r) : Fr [(64, 0)] S r.2 := by
  rw [← e]
  exact v_X12_out S _o a1 a2
noncomputable def L_X12_wraps_38 : Nat → HSt → Int32 → Int32 → Int32 → Int32 → Int32 × Int64 × Int32 × Int32 × Int32 × Int32
  | 0, S, v1, v2, v3, v4 => ((1 : Int32), 0, v1, v2, v3, v4)
  | n + 1, S, v1, v2, v3, v4 =>
    if (10 : Int32) ≤ v4 then ((pr ((0 : Int32)) (pr (0) (pr (v1) (pr (v2) (pr (v3) (v4))))))) else (if v3 < v1 then (bd ((v3 * (3 : Int32))) fun x1006 => L_X12_wraps_38 n S v1 v2 x1006 (v4 + (1 : Int32))) else ((pr ((1 : Int32)) (pr (v4.toInt64) (pr (v1) (pr (v2) (pr (v3) (v4))))))))
def T_X12_wraps_38 : Nat → HSt → Int32 → Int32 → Int32 → Int32 → Prop
  | 0, _, _, _, _, _ => False
  | n + 1, S, v1, v2, v3, v4 => ((¬ (10 : Int32) ≤ v4) → (v3 < v1) → ∀ x1006 : Int32, (v3 * (3 : Int32)) = x1006 → T_X12_wraps_38 n S v1 v2 x1006 (v4 + (1 : Int32)))
set_option maxRecDepth 100000 in
theorem l_X12_wraps_38 {p : Program} {l : Launch} {e : Env} {s : State} {m : MethodId} {args : Array Value} {below : List Frame} {meth : Method} {c : Code} {G : GG} {Post : Option Value → HSt → Prop} (hC : ACx p s m args meth c cX12_wraps RX12 5 (some .long)) (hSt : St G s)  : ∀ (n : Nat) (S : HSt) (v1 : Int32) (v2 : Int32) (v3 : Int32) (v4 : Int32), MS S → T_X12_wraps_38 n S v1 v2 v3 v4 → ((L_X12_wraps_38 n S v1 v2 v3 v4).1 = 1 → Post (some (.long (L_X12_wraps_38 n S v1 v2 v3 v4).2.1)) S) → ((L_X12_wraps_38 n S v1 v2 v3 v4).1 ≠ 1 → AW p l e (rmD 1 0 0) s m args below meth c G 5 (AQ G below args s 0 0 Post) S 0 0 64 [(0, .ref 64), (1, .int (L_X12_wraps_38 n S v1 v2 v3 v4).2.2.1), (2, .int (L_X12_wraps_38 n S v1 v2 v3 v4).2.2.2.1), (3, .int (L_X12_wraps_38 n S v1 v2 v3 v4).2.2.2.2.1), (4, .int (L_X12_wraps_38 n S v1 v2 v3 v4).2.2.2.2.2)] []) → AW p l e (rmD 1 0 0) s m args below meth c G 5 (AQ G below args s 0 0 Post) S 0 0 38 [(0, .ref 64), (1, .int v1), (2, .int v2), (3, .int v3), (4, .int v4)] [] := by
  intro n
  induction n with
  | zero => intro S v1 v2 v3 v4 _ hT; exact hT.elim
  | succ n ih =>
    intro S v1 v2 v3 v4 hM hT hr hk
    unfold T_X12_wraps_38 at hT
    have h0 := hT
    refine aw_iload hC 4 dX12_wraps_38 rfl ?_
    refine aw_bipush (v := 10) hC dX12_wraps_40 (by decide) ?_
    refine aw_icmp_ge hC 64 dX12_wraps_42 (by decide) (fun c1004 => ?_) (fun c1004 => ?_)
    · refine aw_sub [0, 1, 2, 3, 4] rfl ?_
      have E : L_X12_wraps_38 (n + 1) S v1 v2 v3 v4 = _ := (if_pos c1004).trans (rfl)
      rw [E] at hk hr
      exact hk (by show ¬ (0 : Int32) = 1; decide)
    · refine aw_iload_n hC 3 dX12_wraps_45 rfl rfl ?_
      refine aw_iload_n hC 1 dX12_wraps_46 rfl rfl ?_
      refine aw_icmp_lt hC 54 dX12_wraps_47 (by decide) (fun c1005 => ?_) (fun c1005 => ?_)
      · refine aw_iload_n hC 3 dX12_wraps_54 rfl rfl ?_
        refine aw_iconst (v := 3) hC dX12_wraps_55 (by decide) ?_
        refine aw_imul hC dX12_wraps_56 ?_
        refine aw_istore_n hC [(3, .int _), (0, .ref 64), (1, .int _), (2, .int _), (4, .int _)] dX12_wraps_57 rfl (by decide) rfl ?_
        generalize ex1006 : (v3 * (3 : Int32)) = x1006
        refine aw_iinc (v := (v4 + (1 : Int32))) hC 4 [(4, .int _), (3, .int _), (0, .ref 64), (1, .int _), (2, .int _)] dX12_wraps_58 rfl rfl (by decide) rfl ?_
        refine aw_goto hC 38 dX12_wraps_61 (by decide) ?_
        refine aw_sub [2, 3, 4, 1, 0] rfl ?_
        have hTn := (h0 c1004 c1005 x1006 ex1006)
        have hMn : MS S := hM
        have E : L_X12_wraps_38 (n + 1) S v1 v2 v3 v4 = _ := (if_neg c1004).trans ((if_pos c1005).trans ((bd_eq ex1006).trans (rfl)))
        rw [E] at hk hr
        exact ih _ _ _ _ _ hMn hTn hr hk
      · refine aw_iload hC 4 dX12_wraps_50 rfl ?_
        refine aw_i2l hC dX12_wraps_52 ?_
        refine aw_lret hC dX12_wraps_53 (Nat.le_refl _) (Nat.le_refl _) ?_
        have E : L_X12_wraps_38 (n + 1) S v1 v2 v3 v4 = _ := (if_neg c1004).trans ((if_neg c1005).trans (rfl))
        rw [E] at hr
        exact hr rfl
noncomputable def f_X12_wraps (S : HSt) (_o : Nat) (a1 : Int32) (a2 : Int32) : Int64 × HSt := bd ((sI S 64 0 (0 : Int32))) fun S1 => if (f_X12_in S1 a1.toInt64 (1 : Int64) (999999 : Int64)) = 0 then (pr ((-9000000000000000001 : Int64)) (S1)) else (if (f_X12_in S1 a2.toInt64 (1 : Int64) (99 : Int64)) = 0 then (pr ((-9000000000000000001 : Int64)) (S1)) else (bd (L_X12_wraps_38 1000 S1 a1 a2 a2 (0 : Int32)) fun r4 => if r4.1 = 1 then (pr (r4.2.1) (S1)) else (pr ((-1000000 : Int64)) (S1))))
def p_X12_wraps (S : HSt) (_o : Nat) (a1 : Int32) (a2 : Int32) : Prop := (∀ S1 : HSt, (sI S 64 0 (0 : Int32)) = S1 → (¬ (f_X12_in S1 a1.toInt64 (1 : Int64) (999999 : Int64)) = 0) → (¬ (f_X12_in S1 a2.toInt64 (1 : Int64) (99 : Int64)) = 0) → T_X12_wraps_38 1000 S1 a1 a2 a2 (0 : Int32))
set_option maxRecDepth 100000 in
theorem t_X12_wraps (G : GG) (l : Launch) {S : HSt} (hM : MS S) (a1 : Int32) (a2 : Int32) (hp : p_X12_wraps S 64 a1 a2) : AM G l yX12_wraps cX12_wraps 5 (some .long) (rmD 1 0 0) 0 0 [.ref 64, .int a1, .int a2] S (FP (some (.long (f_X12_wraps S 64 a1 a2).1)) ((f_X12_wraps S 64 a1 a2).2)) := by
  have h0 := hp
  unfold p_X12_wraps at h0
  refine AM.mk (by decide) (Nat.le_of_ble_eq_true rfl) ?_
  intro p e s m below meth c hC hSt _
  refine aw_aload_n hC 0 dX12_wraps_0 rfl rfl ?_
  refine aw_iconst (v := 0) hC dX12_wraps_1 (by decide) ?_
  refine aw_putI hC hSt 0 (ms_lt 64 (by decide) hM) (ms_k 64 12 0 (by decide) hM) rfl (by decide) w_955 rfl rfl rfl rfl dX12_wraps_2 ?_
  generalize eS1 : (sI S 64 0 (0 : Int32)) = S1
  have hM : MS S1 := MS.of (by rw [← eS1]; exact shp_sI _ _ _ _) hM
  refine aw_iload_n hC 1 dX12_wraps_5 rfl rfl ?_
  refine aw_i2l hC dX12_wraps_6 ?_
  refine aw_lconst (v := 1) hC dX12_wraps_7 (by decide) ?_
  refine aw_ldc2 (v := 999999) hC w_1180 dX12_wraps_8 ?_
  refine aw_cS3r hC hSt (t_X12_in G l  _ _ _) w_945 w_951 w_952 w_953 rfl rfl (by decide +kernel) ⟨Nat.le_of_ble_eq_true rfl, Nat.le_of_ble_eq_true rfl⟩ (Nat.le_of_ble_eq_true rfl) dX12_wraps_11 ⟨Nat.zero_le _, Nat.zero_le _⟩ ?_
  refine aw_if_eq hC 29 dX12_wraps_14 (by decide) (fun c2 => ?_) (fun c2 => ?_)
  · refine aw_ldc2 (v := -9000000000000000001) hC w_957 dX12_wraps_29 ?_
    refine aw_lret hC dX12_wraps_32 (Nat.le_refl _) (Nat.le_refl _) ?_
    exact FP.qJ ((bd_eq eS1).trans ((if_pos c2).trans (rfl)))
  · refine aw_iload_n hC 2 dX12_wraps_17 rfl rfl ?_
    refine aw_i2l hC dX12_wraps_18 ?_
    refine aw_lconst (v := 1) hC dX12_wraps_19 (by decide) ?_
    refine aw_ldc2 (v := 99) hC w_1181 dX12_wraps_20 ?_
    refine aw_cS3r hC hSt (t_X12_in G l  _ _ _) w_945 w_951 w_952 w_953 rfl rfl (by decide +kernel) ⟨Nat.le_of_ble_eq_true rfl, Nat.le_of_ble_eq_true rfl⟩ (Nat.le_of_ble_eq_true rfl) dX12_wraps_23 ⟨Nat.zero_le _, Nat.zero_le _⟩ ?_
    refine aw_if_ne hC 33 dX12_wraps_26 (by decide) (fun c3 => ?_) (fun c3 => ?_)
    · refine aw_iload_n hC 2 dX12_wraps_33 rfl rfl ?_
      refine aw_istore_n hC [(3, .int _), (0, .ref 64), (1, .int _), (2, .int _)] dX12_wraps_34 rfl (by decide) rfl ?_
      refine aw_iconst (v := 0) hC dX12_wraps_35 (by decide) ?_
      refine aw_istore hC [(4, .int _), (3, .int _), (0, .ref 64), (1, .int _), (2, .int _)] dX12_wraps_36 (by decide) rfl ?_
      refine aw_sub [2, 3, 4, 1, 0] rfl ?_
      refine l_X12_wraps_38 hC hSt 1000 _ _ _ _ _ hM (h0 S1 eS1 c2 c3) (fun c5 => ?_) (fun c5 => ?_)
      · revert c5
        generalize er4 : L_X12_wraps_38 1000 S1 a1 a2 a2 (0 : Int32) = r4
        intro c5
        exact FP.qJ ((bd_eq eS1).trans ((if_neg c2).trans ((if_neg c3).trans ((bd_eq er4).trans ((if_pos c5).trans (rfl))))))
      · revert c5
        generalize er4 : L_X12_wraps_38 1000 S1 a1 a2 a2 (0 : Int32) = r4
        intro c5
        refine aw_ldc2 (v := -1000000) hC w_1176 dX12_wraps_64 ?_
        refine aw_lret hC dX12_wraps_67 (Nat.le_refl _) (Nat.le_refl _) ?_
        exact FP.qJ ((bd_eq eS1).trans ((if_neg c2).trans ((if_neg c3).trans ((bd_eq er4).trans ((if_neg c5).trans (rfl))))))
    · refine aw_ldc2 (v := -9000000000000000001) hC w_957 dX12_wraps_29 ?_
      refine aw_lret hC dX12_wraps_32 (Nat.le_refl _) (Nat.le_refl _) ?_
      exact FP.qJ ((bd_eq eS1).trans ((if_neg c2).trans ((if_pos c3).trans (rfl))))
theorem q_X12_wraps (S : HSt) (_o : Nat) (a1 : Int32) (a2 : Int32) : shp ((f_X12_wraps S _o a1 a2).2) = shp S := by
  unfold f_X12_wraps
  repeat' (first | with_reducible refine shpr1 ?_ | with_reducible rfl | with_reducible refine (shp_sI _ _ _ _).trans ?_ | with_reducible refine (shp_sJ _ _ _ _).trans ?_ | with_reducible refine shi ?_ ?_ | with_reducible refine shb (fun _ _ => ?_) | with_reducible refine shiP (fun q : Int64 × HSt => q.2) ?_ ?_ | with_reducible refine shbP (fun q : Int64 × HSt => q.2) (fun _ _ => ?_) | (subst_vars; with_reducible rfl) | (subst_vars; with_reducible refine (shp_sI _ _ _ _).trans ?_) | (subst_vars; with_reducible refine (shp_sJ _ _ _ _).trans ?_) | (subst_vars; with_reducible refine shi ?_ ?_) | (subst_vars; with_reducible refine shb (fun _ _ => ?_)))
theorem v_X12_wraps (S : HSt) (_o : Nat) (a1 : Int32) (a2 : Int32) : Fr [(64, 0)] S ((f_X12_wraps S _o a1 a2).2) := by
  unfold f_X12_wraps
  repeat' (first | with_reducible refine frpr1 ?_ | with_reducible exact Fr.refl _ _ | with_reducible refine Fr.lP (fun q : Int64 × HSt => q.2) (fun _ _ => ?_) | with_reducible refine Fr.iteP (fun q : Int64 × HSt => q.2) ?_ ?_ | with_reducible refine Fr.l1 (fun _ _ => ?_) | with_reducible refine Fr.ite ?_ ?_ | with_reducible refine Fr.sE (by assumption) (by first | decide | simp only [List.mem_cons, List.not_mem_nil, or_false, true_or, or_true, eq_self_iff_true]) ?_ | with_reducible refine Fr.jE (by assumption) ?_ | with_reducible refine Fr.rE (by assumption) (by first | decide | simp only [List.mem_cons, List.not_mem_nil, or_false, true_or, or_true, eq_self_iff_true]) ?_ | with_reducible refine Fr.iE (by assumption) ?_ ?_)
theorem w_X12_wraps (S : HSt) (_o : Nat) (a1 : Int32) (a2 : Int32) (r : Int64 × HSt) (e : f_X12_wraps S _o a1 a2 = r) : Fr [(64, 0)] S r.2 := by
  rw [← e]
  exact v_X12_wraps S _o a1 a2
noncomputable def L_X12_doAct_89 : Nat → HSt → Int32 → Int32 → Int32 → Int32 × Int32 × Int32 × HSt
  | 0, S, v1, v2, v3 => (v1, v2, v3, S)
  | n + 1, S, v1, v2, v3 =>
    if (f_X12_deed S 64 v1 (1 : Int32)) ≤ v3 then ((pr (v1) (pr (v2) (pr (v3) (S))))) else (if (f_X12_isStill S 64) = 0 then (bd ((if v2 = (3 : Int32) then (1 : Int32) else (0 : Int32))) fun x1018 => bd (f_X12_doTick S 64 x1018 (f_X12_deed S 64 v1 (2 : Int32)) (f_X12_deed S 64 v1 (3 : Int32)) (f_X12_deed S 64 v1 (4 : Int32))) fun r1019 => bd ((sI r1019 64 30 (gI r1019 64 26))) fun S1020 => L_X12_doAct_89 n S1020 v1 v2 (v3 + (1 : Int32))) else ((pr (v1) (pr (v2) (pr (v3) (S))))))
def T_X12_doAct_89 : Nat → HSt → Int32 → Int32 → Int32 → Prop
  | 0, _, _, _, _ => False
  | n + 1, S, v1, v2, v3 => (p_X12_deed S 64 v1 (1 : Int32)) ∧ ((¬ (f_X12_deed S 64 v1 (1 : Int32)) ≤ v3) → ((f_X12_isStill S 64) = 0) → ∀ x1018 : Int32, (if v2 = (3 : Int32) then (1 : Int32) else (0 : Int32)) = x1018 → p_X12_deed S 64 v1 (2 : Int32)) ∧ ((¬ (f_X12_deed S 64 v1 (1 : Int32)) ≤ v3) → ((f_X12_isStill S 64) = 0) → ∀ x1018 : Int32, (if v2 = (3 : Int32) then (1 : Int32) else (0 : Int32)) = x1018 → p_X12_deed S 64 v1 (3 : Int32)) ∧ ((¬ (f_X12_deed S 64 v1 (1 : Int32)) ≤ v3) → ((f_X12_isStill S 64) = 0) → ∀ x1018 : Int32, (if v2 = (3 : Int32) then (1 : Int32) else (0 : Int32)) = x1018 → p_X12_deed S 64 v1 (4 : Int32)) ∧ ((¬ (f_X12_deed S 64 v1 (1 : Int32)) ≤ v3) → ((f_X12_isStill S 64) = 0) → ∀ x1018 : Int32, (if v2 = (3 : Int32) then (1 : Int32) else (0 : Int32)) = x1018 → p_X12_doTick S 64 x1018 (f_X12_deed S 64 v1 (2 : Int32)) (f_X12_deed S 64 v1 (3 : Int32)) (f_X12_deed S 64 v1 (4 : Int32))) ∧ ((¬ (f_X12_deed S 64 v1 (1 : Int32)) ≤ v3) → ((f_X12_isStill S 64) = 0) → ∀ x1018 : Int32, (if v2 = (3 : Int32) then (1 : Int32) else (0 : Int32)) = x1018 → ∀ r1019, f_X12_doTick S 64 x1018 (f_X12_deed S 64 v1 (2 : Int32)) (f_X12_deed S 64 v1 (3 : Int32)) (f_X12_deed S 64 v1 (4 : Int32)) = r1019 → ∀ S1020 : HSt, (sI r1019 64 30 (gI r1019 64 26)) = S1020 → T_X12_doAct_89 n S1020 v1 v2 (v3 + (1 : Int32)))
theorem qL_X12_doAct_89 : ∀ (n : Nat) (S : HSt) (v1 : Int32) (v2 : Int32) (v3 : Int32), shp (L_X12_doAct_89 n S v1 v2 v3).2.2.2 = shp S := by
  intro n
  induction n with
  | zero => intros; rfl
  | succ n ih =>
    intro S v1 v2 v3
    unfold L_X12_doAct_89
    repeat' (first | with_reducible refine shpr3 ?_ | with_reducible rfl | with_reducible refine (ih _ _ _ _).trans ?_ | with_reducible refine (q_X12_doClose _ _).trans ?_ | with_reducible refine (q_X12_doTick _ _ _ _ _ _).trans ?_ | with_reducible refine (q_X12_missBy _ _ _ _ _).trans ?_ | with_reducible refine (q_X12_shut _ _).trans ?_ | with_reducible refine (shp_sI _ _ _ _).trans ?_ | with_reducible refine (shp_sJ _ _ _ _).trans ?_ | with_reducible refine shi ?_ ?_ | with_reducible refine shb (fun _ _ => ?_) | with_reducible refine shiP (fun q : Int32 × Int32 × Int32 × HSt => q.2.2.2) ?_ ?_ | with_reducible refine shbP (fun q : Int32 × Int32 × Int32 × HSt => q.2.2.2) (fun _ _ => ?_) | (subst_vars; with_reducible rfl) | (subst_vars; with_reducible refine (ih _ _ _ _).trans ?_) | (subst_vars; with_reducible refine (q_X12_doClose _ _).trans ?_) | (subst_vars; with_reducible refine (q_X12_doTick _ _ _ _ _ _).trans ?_) | (subst_vars; with_reducible refine (q_X12_missBy _ _ _ _ _).trans ?_) | (subst_vars; with_reducible refine (q_X12_shut _ _).trans ?_) | (subst_vars; with_reducible refine (shp_sI _ _ _ _).trans ?_) | (subst_vars; with_reducible refine (shp_sJ _ _ _ _).trans ?_) | (subst_vars; with_reducible refine shi ?_ ?_) | (subst_vars; with_reducible refine shb (fun _ _ => ?_)))
theorem vL_X12_doAct_89 : ∀ (n : Nat) (S : HSt) (v1 : Int32) (v2 : Int32) (v3 : Int32), Fr [(64, 20), (64, 21), (64, 22), (64, 23), (64, 24), (64, 25), (64, 26), (64, 30)] S (L_X12_doAct_89 n S v1 v2 v3).2.2.2 := by
  intro n
  induction n with
  | zero => intros; exact Fr.refl _ _
  | succ n ih =>
    intro S v1 v2 v3
    unfold L_X12_doAct_89
    repeat' (first | with_reducible refine frpr3 ?_ | with_reducible exact Fr.refl _ _ | with_reducible refine Fr.lP (fun q : Int32 × Int32 × Int32 × HSt => q.2.2.2) (fun _ _ => ?_) | with_reducible refine Fr.iteP (fun q : Int32 × Int32 × Int32 × HSt => q.2.2.2) ?_ ?_ | with_reducible refine Fr.l1 (fun _ _ => ?_) | with_reducible refine Fr.ite ?_ ?_ | with_reducible refine Fr.sE (by assumption) (by first | decide | simp only [List.mem_cons, List.not_mem_nil, or_false, true_or, or_true, eq_self_iff_true]) ?_ | with_reducible refine Fr.jE (by assumption) ?_ | with_reducible refine Fr.rE (by assumption) (by first | decide | simp only [List.mem_cons, List.not_mem_nil, or_false, true_or, or_true, eq_self_iff_true]) ?_ | with_reducible refine Fr.iE (by assumption) ?_ ?_ | with_reducible refine Fr.tr (ih _ _ _ _) (by first | decide | simp only [List.mem_cons, List.not_mem_nil, or_false, forall_eq_or_imp, forall_eq, true_or, or_true, and_self, eq_self_iff_true]) ?_ | with_reducible refine Fr.tr (w_X12_doClose _ _ _ (by assumption)) (by first | decide | simp only [List.mem_cons, List.not_mem_nil, or_false, forall_eq_or_imp, forall_eq, true_or, or_true, and_self, eq_self_iff_true]) ?_ | with_reducible refine Fr.tr (w_X12_doTick _ _ _ _ _ _ _ (by assumption)) (by first | decide | simp only [List.mem_cons, List.not_mem_nil, or_false, forall_eq_or_imp, forall_eq, true_or, or_true, and_self, eq_self_iff_true]) ?_ | with_reducible refine Fr.tr (w_X12_missBy _ _ _ _ _ _ (by assumption)) (by first | decide | simp only [List.mem_cons, List.not_mem_nil, or_false, forall_eq_or_imp, forall_eq, true_or, or_true, and_self, eq_self_iff_true]) ?_ | with_reducible refine Fr.tr (w_X12_shut _ _ _ (by assumption)) (by first | decide | simp only [List.mem_cons, List.not_mem_nil, or_false, forall_eq_or_imp, forall_eq, true_or, or_true, and_self, eq_self_iff_true]) ?_)
theorem wL_X12_doAct_89 (n : Nat) (S : HSt) (v1 : Int32) (v2 : Int32) (v3 : Int32) (r : Int32 × Int32 × Int32 × HSt) (e : L_X12_doAct_89 n S v1 v2 v3 = r) : Fr [(64, 20), (64, 21), (64, 22), (64, 23), (64, 24), (64, 25), (64, 26), (64, 30)] S r.2.2.2 := by
  rw [← e]
  exact vL_X12_doAct_89 n S v1 v2 v3
set_option maxRecDepth 100000 in
theorem l_X12_doAct_89 {p : Program} {l : Launch} {e : Env} {s : State} {m : MethodId} {args : Array Value} {below : List Frame} {meth : Method} {c : Code} {G : GG} {Q : State → Prop} (hC : ACx p s m args meth c cX12_doAct RX12 4 none) (hSt : St G s)  : ∀ (n : Nat) (S : HSt) (v1 : Int32) (v2 : Int32) (v3 : Int32), MS S → T_X12_doAct_89 n S v1 v2 v3 → AW p l e (rmD 3 0 0) s m args below meth c G 4 Q (L_X12_doAct_89 n S v1 v2 v3).2.2.2 0 0 152 [(0, .ref 64), (1, .int (L_X12_doAct_89 n S v1 v2 v3).1), (2, .int (L_X12_doAct_89 n S v1 v2 v3).2.1), (3, .int (L_X12_doAct_89 n S v1 v2 v3).2.2.1)] [] → AW p l e (rmD 3 0 0) s m args below meth c G 4 Q S 0 0 89 [(0, .ref 64), (1, .int v1), (2, .int v2), (3, .int v3)] [] := by
  intro n
  induction n with
  | zero => intro S v1 v2 v3 _ hT; exact hT.elim
  | succ n ih =>
    intro S v1 v2 v3 hM hT hk
    unfold T_X12_doAct_89 at hT
    obtain ⟨h0, h1, h2, h3, h4, h5⟩ := hT
    refine aw_iload_n hC 3 dX12_doAct_89 rfl rfl ?_
    refine aw_aload_n hC 0 dX12_doAct_90 rfl rfl ?_
    refine aw_iload_n hC 1 dX12_doAct_91 rfl rfl ?_
    refine aw_iconst (v := 1) hC dX12_doAct_92 (by decide) ?_
    refine aw_cV2r hC hSt (t_X12_deed G l hM _ _ (h0)) w_1080 w_1088 w_1089 w_1090 w_953 rfl rfl (by decide +kernel) ⟨Nat.le_of_ble_eq_true rfl, Nat.le_of_ble_eq_true rfl⟩ (ms_lt 64 (by decide) hM) (ms_k 64 12 0 (by decide) hM) rfl (Nat.le_of_ble_eq_true rfl) dX12_doAct_93 ⟨Nat.zero_le _, Nat.zero_le _⟩ ?_
    refine aw_icmp_ge hC 152 dX12_doAct_96 (by decide) (fun c1015 => ?_) (fun c1015 => ?_)
    · refine aw_sub [0, 1, 2, 3] rfl ?_
      have E : L_X12_doAct_89 (n + 1) S v1 v2 v3 = _ := (if_pos c1015).trans (rfl)
      rw [E] at hk
      exact hk
    · refine aw_aload_n hC 0 dX12_doAct_99 rfl rfl ?_
      refine aw_cV0r hC hSt (t_X12_isStill G l hM ) w_1099 w_1118 w_1119 w_1120 w_953 rfl rfl (by decide +kernel) ⟨Nat.le_of_ble_eq_true rfl, Nat.le_of_ble_eq_true rfl⟩ (ms_lt 64 (by decide) hM) (ms_k 64 12 0 (by decide) hM) rfl (Nat.le_of_ble_eq_true rfl) dX12_doAct_100 ⟨Nat.zero_le _, Nat.zero_le _⟩ ?_
      refine aw_if_ne hC 152 dX12_doAct_103 (by decide) (fun c1016 => ?_) (fun c1016 => ?_)
      · refine aw_sub [0, 1, 2, 3] rfl ?_
        have E : L_X12_doAct_89 (n + 1) S v1 v2 v3 = _ := (if_neg c1015).trans ((if_neg c1016).trans (rfl))
        rw [E] at hk
        exact hk
      · refine aw_aload_n hC 0 dX12_doAct_106 rfl rfl ?_
        refine aw_iload_n hC 2 dX12_doAct_107 rfl rfl ?_
        refine aw_iconst (v := 3) hC dX12_doAct_108 (by decide) ?_
        refine aw_cut (S' := S) (pc' := 117) (lv' := [(0, .ref 64), (1, .int v1), (2, .int v2), (3, .int v3)]) (st' := [.int (if v2 = (3 : Int32) then (1 : Int32) else (0 : Int32)), .ref 64]) ?_ (fun Jc1017 => ?_)
        · generalize ex1018 : (if v2 = (3 : Int32) then (1 : Int32) else (0 : Int32)) = x1018
          refine aw_aload_n hC 0 dX12_doAct_117 rfl rfl ?_
          refine aw_iload_n hC 1 dX12_doAct_118 rfl rfl ?_
          refine aw_iconst (v := 2) hC dX12_doAct_119 (by decide) ?_
          refine aw_cV2r hC hSt (t_X12_deed G l hM _ _ (h1 c1015 c1016 x1018 ex1018)) w_1080 w_1088 w_1089 w_1090 w_953 rfl rfl (by decide +kernel) ⟨Nat.le_of_ble_eq_true rfl, Nat.le_of_ble_eq_true rfl⟩ (ms_lt 64 (by decide) hM) (ms_k 64 12 0 (by decide) hM) rfl (Nat.le_of_ble_eq_true rfl) dX12_doAct_120 ⟨Nat.zero_le _, Nat.zero_le _⟩ ?_
          refine aw_aload_n hC 0 dX12_doAct_123 rfl rfl ?_
          refine aw_iload_n hC 1 dX12_doAct_124 rfl rfl ?_
          refine aw_iconst (v := 3) hC dX12_doAct_125 (by decide) ?_
          refine aw_cV2r hC hSt (t_X12_deed G l hM _ _ (h2 c1015 c1016 x1018 ex1018)) w_1080 w_1088 w_1089 w_1090 w_953 rfl rfl (by decide +kernel) ⟨Nat.le_of_ble_eq_true rfl, Nat.le_of_ble_eq_true rfl⟩ (ms_lt 64 (by decide) hM) (ms_k 64 12 0 (by decide) hM) rfl (Nat.le_of_ble_eq_true rfl) dX12_doAct_126 ⟨Nat.zero_le _, Nat.zero_le _⟩ ?_
          refine aw_aload_n hC 0 dX12_doAct_129 rfl rfl ?_
          refine aw_iload_n hC 1 dX12_doAct_130 rfl rfl ?_
          refine aw_iconst (v := 4) hC dX12_doAct_131 (by decide) ?_
          refine aw_cV2r hC hSt (t_X12_deed G l hM _ _ (h3 c1015 c1016 x1018 ex1018)) w_1080 w_1088 w_1089 w_1090 w_953 rfl rfl (by decide +kernel) ⟨Nat.le_of_ble_eq_true rfl, Nat.le_of_ble_eq_true rfl⟩ (ms_lt 64 (by decide) hM) (ms_k 64 12 0 (by decide) hM) rfl (Nat.le_of_ble_eq_true rfl) dX12_doAct_132 ⟨Nat.zero_le _, Nat.zero_le _⟩ ?_
          refine aw_cV4v hC hSt (t_X12_doTick G l hM _ _ _ _ (h4 c1015 c1016 x1018 ex1018)) w_1110 w_1155 w_1156 w_1157 w_953 rfl rfl (by decide +kernel) ⟨Nat.le_of_ble_eq_true rfl, Nat.le_of_ble_eq_true rfl⟩ (ms_lt 64 (by decide) hM) (ms_k 64 12 0 (by decide) hM) rfl (Nat.le_of_ble_eq_true rfl) dX12_doAct_135 ⟨Nat.zero_le _, Nat.zero_le _⟩ ?_
          generalize er1019 : f_X12_doTick S 64 x1018 (f_X12_deed S 64 v1 (2 : Int32)) (f_X12_deed S 64 v1 (3 : Int32)) (f_X12_deed S 64 v1 (4 : Int32)) = r1019
          have hM : MS r1019 := MS.of (by rw [← er1019]; exact q_X12_doTick _ _ _ _ _ _) hM
          refine aw_aload_n hC 0 dX12_doAct_138 rfl rfl ?_
          refine aw_aload_n hC 0 dX12_doAct_139 rfl rfl ?_
          refine aw_getI hC hSt 26 (ms_lt 64 (by decide) hM) (ms_k 64 12 0 (by decide) hM) rfl (by decide) w_1038 rfl dX12_doAct_140 ?_
          refine aw_putI hC hSt 30 (ms_lt 64 (by decide) hM) (ms_k 64 12 0 (by decide) hM) rfl (by decide) w_1183 rfl rfl rfl rfl dX12_doAct_143 ?_
          generalize eS1020 : (sI r1019 64 30 (gI r1019 64 26)) = S1020
          have hM : MS S1020 := MS.of (by rw [← eS1020]; exact shp_sI _ _ _ _) hM
          refine aw_iinc (v := (v3 + (1 : Int32))) hC 3 [(3, .int _), (0, .ref 64), (1, .int _), (2, .int _)] dX12_doAct_146 rfl rfl (by decide) rfl ?_
          refine aw_goto hC 89 dX12_doAct_149 (by decide) ?_
          refine aw_sub [1, 2, 3, 0] rfl ?_
          have hTn := (h5 c1015 c1016 x1018 ex1018 r1019 er1019 S1020 eS1020)
          have hMn : MS S1020 := hM
          have E : L_X12_doAct_89 (n + 1) S v1 v2 v3 = _ := (if_neg c1015).trans ((if_pos c1016).trans ((bd_eq ex1018).trans ((bd_eq er1019).trans ((bd_eq eS1020).trans (rfl)))))
          rw [E] at hk
          exact ih _ _ _ _ hMn hTn hk
        · refine aw_icmp_ne hC 116 dX12_doAct_109 (by decide) (fun c1017 => ?_) (fun c1017 => ?_)
          · refine aw_iconst (v := 0) hC dX12_doAct_116 (by decide) ?_
            simp only [bd_def, if_neg c1017] at Jc1017 ⊢
            exact Jc1017
          · refine aw_iconst (v := 1) hC dX12_doAct_112 (by decide) ?_
            refine aw_goto hC 117 dX12_doAct_113 (by decide) ?_
            simp only [bd_def, if_pos c1017] at Jc1017 ⊢
            exact Jc1017
noncomputable def f_X12_doAct (S : HSt) (_o : Nat) (a1 : Int32) : HSt := bd ((f_X12_deed S 64 a1 (0 : Int32))) fun x1 => bd ((sI S 64 29 (-1000000 : Int32))) fun S2 => bd ((sI S2 64 30 (-1000000 : Int32))) fun S3 => bd ((if x1 = (6 : Int32) then (bd (f_X12_doClose S3 64) fun r24 => x1) else (if x1 = (4 : Int32) then (bd ((if x1 = (5 : Int32) then (1 : Int32) else (0 : Int32))) fun x7 => bd (f_X12_missBy S3 64 x7 (f_X12_deed S3 64 a1 (1 : Int32)) (gI S3 64 21)) fun r8 => bd (r8.1) fun x9 => bd ((if 0 ≤ x9 then x9 else (0 : Int32))) fun x11 => bd ((sI r8.2 64 29 x11)) fun S12 => bd (f_X12_shut S12 64) fun r13 => x1) else (if x1 = (5 : Int32) then (bd ((if x1 = (5 : Int32) then (1 : Int32) else (0 : Int32))) fun x17 => bd (f_X12_missBy S3 64 x17 (f_X12_deed S3 64 a1 (1 : Int32)) (gI S3 64 21)) fun r18 => bd (r18.1) fun x19 => bd ((if 0 ≤ x19 then x19 else (0 : Int32))) fun x21 => bd ((sI r18.2 64 29 x21)) fun S22 => bd (f_X12_shut S22 64) fun r23 => x1) else (bd (L_X12_doAct_89 1000 S3 a1 x1 (0 : Int32)) fun r15 => r15.2.1))))) fun x25 => bd ((if x1 = (6 : Int32) then (bd (f_X12_doClose S3 64) fun r24 => a1) else (if x1 = (4 : Int32) then (bd ((if x1 = (5 : Int32) then (1 : Int32) else (0 : Int32))) fun x7 => bd (f_X12_missBy S3 64 x7 (f_X12_deed S3 64 a1 (1 : Int32)) (gI S3 64 21)) fun r8 => bd (r8.1) fun x9 => bd ((if 0 ≤ x9 then x9 else (0 : Int32))) fun x11 => bd ((sI r8.2 64 29 x11)) fun S12 => bd (f_X12_shut S12 64) fun r13 => a1) else (if x1 = (5 : Int32) then (bd ((if x1 = (5 : Int32) then (1 : Int32) else (0 : Int32))) fun x17 => bd (f_X12_missBy S3 64 x17 (f_X12_deed S3 64 a1 (1 : Int32)) (gI S3 64 21)) fun r18 => bd (r18.1) fun x19 => bd ((if 0 ≤ x19 then x19 else (0 : Int32))) fun x21 => bd ((sI r18.2 64 29 x21)) fun S22 => bd (f_X12_shut S22 64) fun r23 => a1) else (bd (L_X12_doAct_89 1000 S3 a1 x1 (0 : Int32)) fun r15 => r15.1))))) fun x26 => bd ((if x1 = (6 : Int32) then (bd (f_X12_doClose S3 64) fun r24 => r24) else (if x1 = (4 : Int32) then (bd ((if x1 = (5 : Int32) then (1 : Int32) else (0 : Int32))) fun x7 => bd (f_X12_missBy S3 64 x7 (f_X12_deed S3 64 a1 (1 : Int32)) (gI S3 64 21)) fun r8 => bd (r8.1) fun x9 => bd ((if 0 ≤ x9 then x9 else (0 : Int32))) fun x11 => bd ((sI r8.2 64 29 x11)) fun S12 => bd (f_X12_shut S12 64) fun r13 => r13) else (if x1 = (5 : Int32) then (bd ((if x1 = (5 : Int32) then (1 : Int32) else (0 : Int32))) fun x17 => bd (f_X12_missBy S3 64 x17 (f_X12_deed S3 64 a1 (1 : Int32)) (gI S3 64 21)) fun r18 => bd (r18.1) fun x19 => bd ((if 0 ≤ x19 then x19 else (0 : Int32))) fun x21 => bd ((sI r18.2 64 29 x21)) fun S22 => bd (f_X12_shut S22 64) fun r23 => r23) else (bd (L_X12_doAct_89 1000 S3 a1 x1 (0 : Int32)) fun r15 => r15.2.2.2))))) fun S27 => S27
def p_X12_doAct (S : HSt) (_o : Nat) (a1 : Int32) : Prop := (p_X12_deed S 64 a1 (0 : Int32)) ∧ (∀ x1 : Int32, (f_X12_deed S 64 a1 (0 : Int32)) = x1 → ∀ S2 : HSt, (sI S 64 29 (-1000000 : Int32)) = S2 → ∀ S3 : HSt, (sI S2 64 30 (-1000000 : Int32)) = S3 → (¬ x1 = (6 : Int32)) → (x1 = (4 : Int32)) → ∀ x7 : Int32, (if x1 = (5 : Int32) then (1 : Int32) else (0 : Int32)) = x7 → p_X12_deed S3 64 a1 (1 : Int32)) ∧ (∀ x1 : Int32, (f_X12_deed S 64 a1 (0 : Int32)) = x1 → ∀ S2 : HSt, (sI S 64 29 (-1000000 : Int32)) = S2 → ∀ S3 : HSt, (sI S2 64 30 (-1000000 : Int32)) = S3 → (¬ x1 = (6 : Int32)) → (x1 = (4 : Int32)) → ∀ x7 : Int32, (if x1 = (5 : Int32) then (1 : Int32) else (0 : Int32)) = x7 → p_X12_missBy S3 64 x7 (f_X12_deed S3 64 a1 (1 : Int32)) (gI S3 64 21)) ∧ (∀ x1 : Int32, (f_X12_deed S 64 a1 (0 : Int32)) = x1 → ∀ S2 : HSt, (sI S 64 29 (-1000000 : Int32)) = S2 → ∀ S3 : HSt, (sI S2 64 30 (-1000000 : Int32)) = S3 → (¬ x1 = (6 : Int32)) → (¬ x1 = (4 : Int32)) → (¬ x1 = (5 : Int32)) → T_X12_doAct_89 1000 S3 a1 x1 (0 : Int32)) ∧ (∀ x1 : Int32, (f_X12_deed S 64 a1 (0 : Int32)) = x1 → ∀ S2 : HSt, (sI S 64 29 (-1000000 : Int32)) = S2 → ∀ S3 : HSt, (sI S2 64 30 (-1000000 : Int32)) = S3 → (¬ x1 = (6 : Int32)) → (¬ x1 = (4 : Int32)) → (x1 = (5 : Int32)) → ∀ x17 : Int32, (if x1 = (5 : Int32) then (1 : Int32) else (0 : Int32)) = x17 → p_X12_deed S3 64 a1 (1 : Int32)) ∧ (∀ x1 : Int32, (f_X12_deed S 64 a1 (0 : Int32)) = x1 → ∀ S2 : HSt, (sI S 64 29 (-1000000 : Int32)) = S2 → ∀ S3 : HSt, (sI S2 64 30 (-1000000 : Int32)) = S3 → (¬ x1 = (6 : Int32)) → (¬ x1 = (4 : Int32)) → (x1 = (5 : Int32)) → ∀ x17 : Int32, (if x1 = (5 : Int32) then (1 : Int32) else (0 : Int32)) = x17 → p_X12_missBy S3 64 x17 (f_X12_deed S3 64 a1 (1 : Int32)) (gI S3 64 21))
set_option maxRecDepth 100000 in
theorem t_X12_doAct (G : GG) (l : Launch) {S : HSt} (hM : MS S) (a1 : Int32) (hp : p_X12_doAct S 64 a1) : AM G l yX12_doAct cX12_doAct 4 none (rmD 3 0 0) 0 0 [.ref 64, .int a1] S (FP none (f_X12_doAct S 64 a1)) := by
  obtain ⟨h0, h1, h2, h3, h4, h5⟩ := hp
  refine AM.mk (by decide) (Nat.le_of_ble_eq_true rfl) ?_
  intro p e s m below meth c hC hSt _
  refine aw_aload_n hC 0 dX12_doAct_0 rfl rfl ?_
  refine aw_iload_n hC 1 dX12_doAct_1 rfl rfl ?_
  refine aw_iconst (v := 0) hC dX12_doAct_2 (by decide) ?_
  refine aw_cV2r hC hSt (t_X12_deed G l hM _ _ (h0)) w_1080 w_1088 w_1089 w_1090 w_953 rfl rfl (by decide +kernel) ⟨Nat.le_of_ble_eq_true rfl, Nat.le_of_ble_eq_true rfl⟩ (ms_lt 64 (by decide) hM) (ms_k 64 12 0 (by decide) hM) rfl (Nat.le_of_ble_eq_true rfl) dX12_doAct_3 ⟨Nat.zero_le _, Nat.zero_le _⟩ ?_
  refine aw_istore_n hC [(2, .int _), (0, .ref 64), (1, .int _)] dX12_doAct_6 rfl (by decide) rfl ?_
  generalize ex1 : (f_X12_deed S 64 a1 (0 : Int32)) = x1
  refine aw_aload_n hC 1 dX12_doAct_7 rfl rfl ?_
  refine aw_ldc (v := -1000000) hC w_923 dX12_doAct_8 ?_
  refine aw_putI hC hSt 29 (ms_lt 64 (by decide) hM) (ms_k 64 12 0 (by decide) hM) rfl (by decide) w_1182 rfl rfl rfl rfl dX12_doAct_10 ?_
  generalize eS2 : (sI S 64 29 (-1000000 : Int32)) = S2
  have hM : MS S2 := MS.of (by rw [← eS2]; exact shp_sI _ _ _ _) hM
  refine aw_aload_n hC 1 dX12_doAct_13 rfl rfl ?_
  refine aw_ldc (v := -1000000) hC w_923 dX12_doAct_14 ?_
  refine aw_putI hC hSt 30 (ms_lt 64 (by decide) hM) (ms_k 64 12 0 (by decide) hM) rfl (by decide) w_1183 rfl rfl rfl rfl dX12_doAct_16 ?_
  generalize eS3 : (sI S2 64 30 (-1000000 : Int32)) = S3
  have hM : MS S3 := MS.of (by rw [← eS3]; exact shp_sI _ _ _ _) hM
  refine aw_iload_n hC 0 dX12_doAct_19 rfl rfl ?_
  refine aw_bipush (v := 6) hC dX12_doAct_20 (by decide) ?_
  refine aw_cut (S' := (if x1 = (6 : Int32) then (bd (f_X12_doClose S3 64) fun r24 => r24) else (if x1 = (4 : Int32) then (bd ((if x1 = (5 : Int32) then (1 : Int32) else (0 : Int32))) fun x7 => bd (f_X12_missBy S3 64 x7 (f_X12_deed S3 64 a1 (1 : Int32)) (gI S3 64 21)) fun r8 => bd (r8.1) fun x9 => bd ((if 0 ≤ x9 then x9 else (0 : Int32))) fun x11 => bd ((sI r8.2 64 29 x11)) fun S12 => bd (f_X12_shut S12 64) fun r13 => r13) else (if x1 = (5 : Int32) then (bd ((if x1 = (5 : Int32) then (1 : Int32) else (0 : Int32))) fun x17 => bd (f_X12_missBy S3 64 x17 (f_X12_deed S3 64 a1 (1 : Int32)) (gI S3 64 21)) fun r18 => bd (r18.1) fun x19 => bd ((if 0 ≤ x19 then x19 else (0 : Int32))) fun x21 => bd ((sI r18.2 64 29 x21)) fun S22 => bd (f_X12_shut S22 64) fun r23 => r23) else (bd (L_X12_doAct_89 1000 S3 a1 x1 (0 : Int32)) fun r15 => r15.2.2.2))))) (pc' := 152) (lv' := [(2, .int (if x1 = (6 : Int32) then (bd (f_X12_doClose S3 64) fun r24 => x1) else (if x1 = (4 : Int32) then (bd ((if x1 = (5 : Int32) then (1 : Int32) else (0 : Int32))) fun x7 => bd (f_X12_missBy S3 64 x7 (f_X12_deed S3 64 a1 (1 : Int32)) (gI S3 64 21)) fun r8 => bd (r8.1) fun x9 => bd ((if 0 ≤ x9 then x9 else (0 : Int32))) fun x11 => bd ((sI r8.2 64 29 x11)) fun S12 => bd (f_X12_shut S12 64) fun r13 => x1) else (if x1 = (5 : Int32) then (bd ((if x1 = (5 : Int32) then (1 : Int32) else (0 : Int32))) fun x17 => bd (f_X12_missBy S3 64 x17 (f_X12_deed S3 64 a1 (1 : Int32)) (gI S3 64 21)) fun r18 => bd (r18.1) fun x19 => bd ((if 0 ≤ x19 then x19 else (0 : Int32))) fun x21 => bd ((sI r18.2 64 29 x21)) fun S22 => bd (f_X12_shut S22 64) fun r23 => x1) else (bd (L_X12_doAct_89 1000 S3 a1 x1 (0 : Int32)) fun r15 => r15.2.1))))), (0, .ref 64), (1, .int (if x1 = (6 : Int32) then (bd (f_X12_doClose S3 64) fun r24 => a1) else (if x1 = (4 : Int32) then (bd ((if x1 = (5 : Int32) then (1 : Int32) else (0 : Int32))) fun x7 => bd (f_X12_missBy S3 64 x7 (f_X12_deed S3 64 a1 (1 : Int32)) (gI S3 64 21)) fun r8 => bd (r8.1) fun x9 => bd ((if 0 ≤ x9 then x9 else (0 : Int32))) fun x11 => bd ((sI r8.2 64 29 x11)) fun S12 => bd (f_X12_shut S12 64) fun r13 => a1) else (if x1 = (5 : Int32) then (bd ((if x1 = (5 : Int32) then (1 : Int32) else (0 : Int32))) fun x17 => bd (f_X12_missBy S3 64 x17 (f_X12_deed S3 64 a1 (1 : Int32)) (gI S3 64 21)) fun r18 => bd (r18.1) fun x19 => bd ((if 0 ≤ x19 then x19 else (0 : Int32))) fun x21 => bd ((sI r18.2 64 29 x21)) fun S22 => bd (f_X12_shut S22 64) fun r23 => a1) else (bd (L_X12_doAct_89 1000 S3 a1 x1 (0 : Int32)) fun r15 => r15.1)))))]) (st' := []) ?_ (fun Jc4 => ?_)
  · generalize ex25 : (if x1 = (6 : Int32) then (bd (f_X12_doClose S3 64) fun r24 => x1) else (if x1 = (4 : Int32) then (bd ((if x1 = (5 : Int32) then (1 : Int32) else (0 : Int32))) fun x7 => bd (f_X12_missBy S3 64 x7 (f_X12_deed S3 64 a1 (1 : Int32)) (gI S3 64 21)) fun r8 => bd (r8.1) fun x9 => bd ((if 0 ≤ x9 then x9 else (0 : Int32))) fun x11 => bd ((sI r8.2 64 29 x11)) fun S12 => bd (f_X12_shut S12 64) fun r13 => x1) else (if x1 = (5 : Int32) then (bd ((if x1 = (5 : Int32) then (1 : Int32) else (0 : Int32))) fun x17 => bd (f_X12_missBy S3 64 x17 (f_X12_deed S3 64 a1 (1 : Int32)) (gI S3 64 21)) fun r18 => bd (r18.1) fun x19 => bd ((if 0 ≤ x19 then x19 else (0 : Int32))) fun x21 => bd ((sI r18.2 64 29 x21)) fun S22 => bd (f_X12_shut S22 64) fun r23 => x1) else (bd (L_X12_doAct_89 1000 S3 a1 x1 (0 : Int32)) fun r15 => r15.2.1)))) = x25
    generalize ex26 : (if x1 = (6 : Int32) then (bd (f_X12_doClose S3 64) fun r24 => a1) else (if x1 = (4 : Int32) then (bd ((if x1 = (5 : Int32) then (1 : Int32) else (0 : Int32))) fun x7 => bd (f_X12_missBy S3 64 x7 (f_X12_deed S3 64 a1 (1 : Int32)) (gI S3 64 21)) fun r8 => bd (r8.1) fun x9 => bd ((if 0 ≤ x9 then x9 else (0 : Int32))) fun x11 => bd ((sI r8.2 64 29 x11)) fun S12 => bd (f_X12_shut S12 64) fun r13 => a1) else (if x1 = (5 : Int32) then (bd ((if x1 = (5 : Int32) then (1 : Int32) else (0 : Int32))) fun x17 => bd (f_X12_missBy S3 64 x17 (f_X12_deed S3 64 a1 (1 : Int32)) (gI S3 64 21)) fun r18 => bd (r18.1) fun x19 => bd ((if 0 ≤ x19 then x19 else (0 : Int32))) fun x21 => bd ((sI r18.2 64 29 x21)) fun S22 => bd (f_X12_shut S22 64) fun r23 => a1) else (bd (L_X12_doAct_89 1000 S3 a1 x1 (0 : Int32)) fun r15 => r15.1)))) = x26
    generalize eS27 : (if x1 = (6 : Int32) then (bd (f_X12_doClose S3 64) fun r24 => r24) else (if x1 = (4 : Int32) then (bd ((if x1 = (5 : Int32) then (1 : Int32) else (0 : Int32))) fun x7 => bd (f_X12_missBy S3 64 x7 (f_X12_deed S3 64 a1 (1 : Int32)) (gI S3 64 21)) fun r8 => bd (r8.1) fun x9 => bd ((if 0 ≤ x9 then x9 else (0 : Int32))) fun x11 => bd ((sI r8.2 64 29 x11)) fun S12 => bd (f_X12_shut S12 64) fun r13 => r13) else (if x1 = (5 : Int32) then (bd ((if x1 = (5 : Int32) then (1 : Int32) else (0 : Int32))) fun x17 => bd (f_X12_missBy S3 64 x17 (f_X12_deed S3 64 a1 (1 : Int32)) (gI S3 64 21)) fun r18 => bd (r18.1) fun x19 => bd ((if 0 ≤ x19 then x19 else (0 : Int32))) fun x21 => bd ((sI r18.2 64 29 x21)) fun S22 => bd (f_X12_shut S22 64) fun r23 => r23) else (bd (L_X12_doAct_89 1000 S3 a1 x1 (0 : Int32)) fun r15 => r15.2.2.2)))) = S27
    have hM : MS S27 := MS.of (by rw [← eS27]; repeat' (first | with_reducible rfl | with_reducible refine (qL_X12_doAct_89 _ _ _ _ _).trans ?_ | with_reducible refine (q_X12_doClose _ _).trans ?_ | with_reducible refine (q_X12_missBy _ _ _ _ _).trans ?_ | with_reducible refine (q_X12_shut _ _).trans ?_ | with_reducible refine (shp_sI _ _ _ _).trans ?_ | with_reducible refine (shp_sJ _ _ _ _).trans ?_ | with_reducible refine shi ?_ ?_ | with_reducible refine shb (fun _ _ => ?_) | (subst_vars; with_reducible rfl) | (subst_vars; with_reducible refine (qL_X12_doAct_89 _ _ _ _ _).trans ?_) | (subst_vars; with_reducible refine (q_X12_doClose _ _).trans ?_) | (subst_vars; with_reducible refine (q_X12_missBy _ _ _ _ _).trans ?_) | (subst_vars; with_reducible refine (q_X12_shut _ _).trans ?_) | (subst_vars; with_reducible refine (shp_sI _ _ _ _).trans ?_) | (subst_vars; with_reducible refine (shp_sJ _ _ _ _).trans ?_) | (subst_vars; with_reducible refine shi ?_ ?_) | (subst_vars; with_reducible refine shb (fun _ _ => ?_)))) hM
    refine aw_vret hC dX12_doAct_152 (Nat.le_refl _) (Nat.le_refl _) ?_
    exact FP.qV ((bd_eq ex1).trans ((bd_eq eS2).trans ((bd_eq eS3).trans ((bd_eq ex25).trans ((bd_eq ex26).trans ((bd_eq eS27).trans (rfl)))))))
  · refine aw_icmp_ne hC 32 dX12_doAct_22 (by decide) (fun c4 => ?_) (fun c4 => ?_)
    · refine aw_iload_n hC 0 dX12_doAct_32 rfl rfl ?_
      refine aw_iconst (v := 4) hC dX12_doAct_33 (by decide) ?_
      refine aw_icmp_eq hC 42 dX12_doAct_34 (by decide) (fun c5 => ?_) (fun c5 => ?_)
      · refine aw_aload_n hC 1 dX12_doAct_42 rfl rfl ?_
        refine aw_iload_n hC 0 dX12_doAct_43 rfl rfl ?_
        refine aw_iconst (v := 5) hC dX12_doAct_44 (by decide) ?_
        refine aw_cut (S' := S3) (pc' := 53) (lv' := [(2, .int x1), (0, .ref 64), (1, .int a1)]) (st' := [.int (if x1 = (5 : Int32) then (1 : Int32) else (0 : Int32)), .ref 64]) ?_ (fun Jc6 => ?_)
        · generalize ex7 : (if x1 = (5 : Int32) then (1 : Int32) else (0 : Int32)) = x7
          refine aw_aload_n hC 1 dX12_doAct_53 rfl rfl ?_
          refine aw_iload_n hC 2 dX12_doAct_54 rfl rfl ?_
          refine aw_iconst (v := 1) hC dX12_doAct_55 (by decide) ?_
          refine aw_cV2r hC hSt (t_X12_deed G l hM _ _ (h1 x1 ex1 S2 eS2 S3 eS3 c4 c5 x7 ex7)) w_1080 w_1088 w_1089 w_1090 w_953 rfl rfl (by decide +kernel) ⟨Nat.le_of_ble_eq_true rfl, Nat.le_of_ble_eq_true rfl⟩ (ms_lt 64 (by decide) hM) (ms_k 64 12 0 (by decide) hM) rfl (Nat.le_of_ble_eq_true rfl) dX12_doAct_56 ⟨Nat.zero_le _, Nat.zero_le _⟩ ?_
          refine aw_aload_n hC 1 dX12_doAct_59 rfl rfl ?_
          refine aw_getI hC hSt 21 (ms_lt 64 (by decide) hM) (ms_k 64 12 0 (by decide) hM) rfl (by decide) w_1033 rfl dX12_doAct_60 ?_
          refine aw_cV3r hC hSt (t_X12_missBy G l hM _ _ _ (h2 x1 ex1 S2 eS2 S3 eS3 c4 c5 x7 ex7)) w_1116 w_1128 w_1129 w_1130 w_953 rfl rfl (by decide +kernel) ⟨Nat.le_of_ble_eq_true rfl, Nat.le_of_ble_eq_true rfl⟩ (ms_lt 64 (by decide) hM) (ms_k 64 12 0 (by decide) hM) rfl (Nat.le_of_ble_eq_true rfl) dX12_doAct_63 ⟨Nat.zero_le _, Nat.zero_le _⟩ ?_
          generalize er8 : f_X12_missBy S3 64 x7 (f_X12_deed S3 64 a1 (1 : Int32)) (gI S3 64 21) = r8
          have hM : MS r8.2 := MS.of (by rw [← er8]; exact q_X12_missBy _ _ _ _ _) hM
          refine aw_istore_n hC [(3, .int _), (2, .int _), (0, .ref 64), (1, .int _)] dX12_doAct_66 rfl (by decide) rfl ?_
          generalize ex9 : r8.1 = x9
          refine aw_aload_n hC 2 dX12_doAct_67 rfl rfl ?_
          refine aw_iload_n hC 0 dX12_doAct_68 rfl rfl ?_
          refine aw_cut (S' := r8.2) (pc' := 77) (lv' := [(3, .int x9), (2, .int x1), (0, .ref 64), (1, .int a1)]) (st' := [.int (if 0 ≤ x9 then x9 else (0 : Int32)), .ref 64]) ?_ (fun Jc10 => ?_)
          · generalize ex11 : (if 0 ≤ x9 then x9 else (0 : Int32)) = x11
            refine aw_putI hC hSt 29 (ms_lt 64 (by decide) hM) (ms_k 64 12 0 (by decide) hM) rfl (by decide) w_1182 rfl rfl rfl rfl dX12_doAct_77 ?_
            generalize eS12 : (sI r8.2 64 29 x11) = S12
            have hM : MS S12 := MS.of (by rw [← eS12]; exact shp_sI _ _ _ _) hM
            refine aw_aload_n hC 2 dX12_doAct_80 rfl rfl ?_
            refine aw_cV0v hC hSt (t_X12_shut G l hM ) w_1111 w_1113 w_1114 w_1115 w_953 rfl rfl (by decide +kernel) ⟨Nat.le_of_ble_eq_true rfl, Nat.le_of_ble_eq_true rfl⟩ (ms_lt 64 (by decide) hM) (ms_k 64 12 0 (by decide) hM) rfl (Nat.le_of_ble_eq_true rfl) dX12_doAct_81 ⟨Nat.zero_le _, Nat.zero_le _⟩ ?_
            generalize er13 : f_X12_shut S12 64 = r13
            have hM : MS r13 := MS.of (by rw [← er13]; exact q_X12_shut _ _) hM
            refine aw_goto hC 152 dX12_doAct_84 (by decide) ?_
            refine aw_sub [1, 2, 3] rfl ?_
            subst er13
            subst eS12
            subst ex11
            subst ex9
            subst er8
            subst ex7
            simp only [bd_def, if_neg c4, if_pos c5] at Jc4 ⊢
            exact Jc4
          · refine aw_if_ge hC 76 dX12_doAct_69 (by decide) (fun c10 => ?_) (fun c10 => ?_)
            · refine aw_iload_n hC 0 dX12_doAct_76 rfl rfl ?_
              simp only [bd_def, if_pos c10] at Jc10 ⊢
              exact Jc10
            · refine aw_iconst (v := 0) hC dX12_doAct_72 (by decide) ?_
              refine aw_goto hC 77 dX12_doAct_73 (by decide) ?_
              simp only [bd_def, if_neg c10] at Jc10 ⊢
              exact Jc10
        · refine aw_icmp_ne hC 52 dX12_doAct_45 (by decide) (fun c6 => ?_) (fun c6 => ?_)
          · refine aw_iconst (v := 0) hC dX12_doAct_52 (by decide) ?_
            simp only [bd_def, if_neg c6] at Jc6 ⊢
            exact Jc6
          · refine aw_iconst (v := 1) hC dX12_doAct_48 (by decide) ?_
            refine aw_goto hC 53 dX12_doAct_49 (by decide) ?_
            simp only [bd_def, if_pos c6] at Jc6 ⊢
            exact Jc6
      · refine aw_iload_n hC 0 dX12_doAct_37 rfl rfl ?_
        refine aw_iconst (v := 5) hC dX12_doAct_38 (by decide) ?_
        refine aw_icmp_ne hC 87 dX12_doAct_39 (by decide) (fun c14 => ?_) (fun c14 => ?_)
        · refine aw_iconst (v := 0) hC dX12_doAct_87 (by decide) ?_
          refine aw_istore_n hC [(3, .int _), (2, .int _), (0, .ref 64), (1, .int _)] dX12_doAct_88 rfl (by decide) rfl ?_
          refine aw_sub [2, 3, 1, 0] rfl ?_
          refine l_X12_doAct_89 hC hSt 1000 _ _ _ _ hM (h3 x1 ex1 S2 eS2 S3 eS3 c4 c5 c14) ?_
          generalize er15 : L_X12_doAct_89 1000 S3 a1 x1 (0 : Int32) = r15
          have hM : MS r15.2.2.2 := MS.of (by rw [← er15]; exact qL_X12_doAct_89 _ _ _ _ _) hM
          refine aw_sub [2, 0, 1] rfl ?_
          subst er15
          simp only [bd_def, if_neg c4, if_neg c5, if_neg c14] at Jc4 ⊢
          exact Jc4
        · refine aw_aload_n hC 1 dX12_doAct_42 rfl rfl ?_
          refine aw_iload_n hC 0 dX12_doAct_43 rfl rfl ?_
          refine aw_iconst (v := 5) hC dX12_doAct_44 (by decide) ?_
          refine aw_cut (S' := S3) (pc' := 53) (lv' := [(2, .int x1), (0, .ref 64), (1, .int a1)]) (st' := [.int (if x1 = (5 : Int32) then (1 : Int32) else (0 : Int32)), .ref 64]) ?_ (fun Jc16 => ?_)
          · generalize ex17 : (if x1 = (5 : Int32) then (1 : Int32) else (0 : Int32)) = x17
            refine aw_aload_n hC 1 dX12_doAct_53 rfl rfl ?_
            refine aw_iload_n hC 2 dX12_doAct_54 rfl rfl ?_
            refine aw_iconst (v := 1) hC dX12_doAct_55 (by decide) ?_
            refine aw_cV2r hC hSt (t_X12_deed G l hM _ _ (h4 x1 ex1 S2 eS2 S3 eS3 c4 c5 c14 x17 ex17)) w_1080 w_1088 w_1089 w_1090 w_953 rfl rfl (by decide +kernel) ⟨Nat.le_of_ble_eq_true rfl, Nat.le_of_ble_eq_true rfl⟩ (ms_lt 64 (by decide) hM) (ms_k 64 12 0 (by decide) hM) rfl (Nat.le_of_ble_eq_true rfl) dX12_doAct_56 ⟨Nat.zero_le _, Nat.zero_le _⟩ ?_
            refine aw_aload_n hC 1 dX12_doAct_59 rfl rfl ?_
            refine aw_getI hC hSt 21 (ms_lt 64 (by decide) hM) (ms_k 64 12 0 (by decide) hM) rfl (by decide) w_1033 rfl dX12_doAct_60 ?_
            refine aw_cV3r hC hSt (t_X12_missBy G l hM _ _ _ (h5 x1 ex1 S2 eS2 S3 eS3 c4 c5 c14 x17 ex17)) w_1116 w_1128 w_1129 w_1130 w_953 rfl rfl (by decide +kernel) ⟨Nat.le_of_ble_eq_true rfl, Nat.le_of_ble_eq_true rfl⟩ (ms_lt 64 (by decide) hM) (ms_k 64 12 0 (by decide) hM) rfl (Nat.le_of_ble_eq_true rfl) dX12_doAct_63 ⟨Nat.zero_le _, Nat.zero_le _⟩ ?_
            generalize er18 : f_X12_missBy S3 64 x17 (f_X12_deed S3 64 a1 (1 : Int32)) (gI S3 64 21) = r18
            have hM : MS r18.2 := MS.of (by rw [← er18]; exact q_X12_missBy _ _ _ _ _) hM
            refine aw_istore_n hC [(3, .int _), (2, .int _), (0, .ref 64), (1, .int _)] dX12_doAct_66 rfl (by decide) rfl ?_
            generalize ex19 : r18.1 = x19
            refine aw_aload_n hC 2 dX12_doAct_67 rfl rfl ?_
            refine aw_iload_n hC 0 dX12_doAct_68 rfl rfl ?_
            refine aw_cut (S' := r18.2) (pc' := 77) (lv' := [(3, .int x19), (2, .int x1), (0, .ref 64), (1, .int a1)]) (st' := [.int (if 0 ≤ x19 then x19 else (0 : Int32)), .ref 64]) ?_ (fun Jc20 => ?_)
            · generalize ex21 : (if 0 ≤ x19 then x19 else (0 : Int32)) = x21
              refine aw_putI hC hSt 29 (ms_lt 64 (by decide) hM) (ms_k 64 12 0 (by decide) hM) rfl (by decide) w_1182 rfl rfl rfl rfl dX12_doAct_77 ?_
              generalize eS22 : (sI r18.2 64 29 x21) = S22
              have hM : MS S22 := MS.of (by rw [← eS22]; exact shp_sI _ _ _ _) hM
              refine aw_aload_n hC 2 dX12_doAct_80 rfl rfl ?_
              refine aw_cV0v hC hSt (t_X12_shut G l hM ) w_1111 w_1113 w_1114 w_1115 w_953 rfl rfl (by decide +kernel) ⟨Nat.le_of_ble_eq_true rfl, Nat.le_of_ble_eq_true rfl⟩ (ms_lt 64 (by decide) hM) (ms_k 64 12 0 (by decide) hM) rfl (Nat.le_of_ble_eq_true rfl) dX12_doAct_81 ⟨Nat.zero_le _, Nat.zero_le _⟩ ?_
              generalize er23 : f_X12_shut S22 64 = r23
              have hM : MS r23 := MS.of (by rw [← er23]; exact q_X12_shut _ _) hM
              refine aw_goto hC 152 dX12_doAct_84 (by decide) ?_
              refine aw_sub [1, 2, 3] rfl ?_
              subst er23
              subst eS22
              subst ex21
              subst ex19
              subst er18
              subst ex17
              simp only [bd_def, if_neg c4, if_neg c5, if_pos c14] at Jc4 ⊢
              exact Jc4
            · refine aw_if_ge hC 76 dX12_doAct_69 (by decide) (fun c20 => ?_) (fun c20 => ?_)
              · refine aw_iload_n hC 0 dX12_doAct_76 rfl rfl ?_
                simp only [bd_def, if_pos c20] at Jc20 ⊢
                exact Jc20
              · refine aw_iconst (v := 0) hC dX12_doAct_72 (by decide) ?_
                refine aw_goto hC 77 dX12_doAct_73 (by decide) ?_
                simp only [bd_def, if_neg c20] at Jc20 ⊢
                exact Jc20
          · refine aw_icmp_ne hC 52 dX12_doAct_45 (by decide) (fun c16 => ?_) (fun c16 => ?_)
            · refine aw_iconst (v := 0) hC dX12_doAct_52 (by decide) ?_
              simp only [bd_def, if_neg c16] at Jc16 ⊢
              exact Jc16
            · refine aw_iconst (v := 1) hC dX12_doAct_48 (by decide) ?_
              refine aw_goto hC 53 dX12_doAct_49 (by decide) ?_
              simp only [bd_def, if_pos c16] at Jc16 ⊢
              exact Jc16
    · refine aw_aload_n hC 1 dX12_doAct_25 rfl rfl ?_
      refine aw_cV0v hC hSt (t_X12_doClose G l hM ) w_1112 w_1163 w_1164 w_1165 w_953 rfl rfl (by decide +kernel) ⟨Nat.le_of_ble_eq_true rfl, Nat.le_of_ble_eq_true rfl⟩ (ms_lt 64 (by decide) hM) (ms_k 64 12 0 (by decide) hM) rfl (Nat.le_of_ble_eq_true rfl) dX12_doAct_26 ⟨Nat.zero_le _, Nat.zero_le _⟩ ?_
      generalize er24 : f_X12_doClose S3 64 = r24
      have hM : MS r24 := MS.of (by rw [← er24]; exact q_X12_doClose _ _) hM
      refine aw_goto hC 152 dX12_doAct_29 (by decide) ?_
      subst er24
      simp only [bd_def, if_pos c4] at Jc4 ⊢
      exact Jc4
theorem q_X12_doAct (S : HSt) (_o : Nat) (a1 : Int32) : shp (f_X12_doAct S _o a1) = shp S := by
  unfold f_X12_doAct
  repeat' (first | with_reducible rfl | with_reducible refine (q_X12_doClose _ _).trans ?_ | with_reducible refine (q_X12_doTick _ _ _ _ _ _).trans ?_ | with_reducible refine (q_X12_missBy _ _ _ _ _).trans ?_ | with_reducible refine (q_X12_shut _ _).trans ?_ | with_reducible refine (qL_X12_doAct_89 _ _ _ _ _).trans ?_ | with_reducible refine (shp_sI _ _ _ _).trans ?_ | with_reducible refine (shp_sJ _ _ _ _).trans ?_ | with_reducible refine shi ?_ ?_ | with_reducible refine shb (fun _ _ => ?_) | (subst_vars; with_reducible rfl) | (subst_vars; with_reducible refine (q_X12_doClose _ _).trans ?_) | (subst_vars; with_reducible refine (q_X12_doTick _ _ _ _ _ _).trans ?_) | (subst_vars; with_reducible refine (q_X12_missBy _ _ _ _ _).trans ?_) | (subst_vars; with_reducible refine (q_X12_shut _ _).trans ?_) | (subst_vars; with_reducible refine (qL_X12_doAct_89 _ _ _ _ _).trans ?_) | (subst_vars; with_reducible refine (shp_sI _ _ _ _).trans ?_) | (subst_vars; with_reducible refine (shp_sJ _ _ _ _).trans ?_) | (subst_vars; with_reducible refine shi ?_ ?_) | (subst_vars; with_reducible refine shb (fun _ _ => ?_)))
theorem v_X12_doAct (S : HSt) (_o : Nat) (a1 : Int32) : Fr [(64, 20), (64, 21), (64, 22), (64, 23), (64, 24), (64, 25), (64, 26), (64, 28), (64, 29), (64, 30)] S (f_X12_doAct S _o a1) := by
  unfold f_X12_doAct
  repeat' (first | with_reducible exact Fr.refl _ _ | with_reducible refine Fr.l1 (fun _ _ => ?_) | with_reducible refine Fr.ite ?_ ?_ | with_reducible refine Fr.sE (by assumption) (by first | decide | simp only [List.mem_cons, List.not_mem_nil, or_false, true_or, or_true, eq_self_iff_true]) ?_ | with_reducible refine Fr.jE (by assumption) ?_ | with_reducible refine Fr.rE (by assumption) (by first | decide | simp only [List.mem_cons, List.not_mem_nil, or_false, true_or, or_true, eq_self_iff_true]) ?_ | with_reducible refine Fr.iE (by assumption) ?_ ?_ | with_reducible refine Fr.tr (w_X12_doClose _ _ _ (by assumption)) (by first | decide | simp only [List.mem_cons, List.not_mem_nil, or_false, forall_eq_or_imp, forall_eq, true_or, or_true, and_self, eq_self_iff_true]) ?_ | with_reducible refine Fr.tr (w_X12_doTick _ _ _ _ _ _ _ (by assumption)) (by first | decide | simp only [List.mem_cons, List.not_mem_nil, or_false, forall_eq_or_imp, forall_eq, true_or, or_true, and_self, eq_self_iff_true]) ?_ | with_reducible refine Fr.tr (w_X12_missBy _ _ _ _ _ _ (by assumption)) (by first | decide | simp only [List.mem_cons, List.not_mem_nil, or_false, forall_eq_or_imp, forall_eq, true_or, or_true, and_self, eq_self_iff_true]) ?_ | with_reducible refine Fr.tr (w_X12_shut _ _ _ (by assumption)) (by first | decide | simp only [List.mem_cons, List.not_mem_nil, or_false, forall_eq_or_imp, forall_eq, true_or, or_true, and_self, eq_self_iff_true]) ?_ | with_reducible refine Fr.tr (wL_X12_doAct_89 _ _ _ _ _ _ (by assumption)) (by first | decide | simp only [List.mem_cons, List.not_mem_nil, or_false, forall_eq_or_imp, forall_eq, true_or, or_true, and_self, eq_self_iff_true]) ?_)
theorem w_X12_doAct (S : HSt) (_o : Nat) (a1 : Int32) (r : HSt) (e : f_X12_doAct S _o a1 = r) : Fr [(64, 20), (64, 21), (64, 22), (64, 23), (64, 24), (64, 25), (64, 26), (64, 28), (64, 29), (64, 30)] S r := by
  rw [← e]
  exact v_X12_doAct S _o a1