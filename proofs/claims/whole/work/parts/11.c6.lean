noncomputable def f_X11_way (S : HSt) (_o0 : Nat) : Int64 × HSt := bd (f_X4_read S 13) fun r1 => if r1.1 = 0 then (pr (((-9000000000000000100 : Int64) - (f_X4_faultPlace r1.2 13).toInt64)) (r1.2)) else (bd (f_X7_begin r1.2 18 (f_X4_draft r1.2 13)) fun r3 => pr ((f_X10_howMany r3 19 (5 : Int32)).toInt64) (r3))
def p_X11_way (S : HSt) (_o0 : Nat) : Prop := (p_X4_read S 13) ∧ (∀ r1, f_X4_read S 13 = r1 → (¬ r1.1 = 0) → p_X7_begin r1.2 18 (f_X4_draft r1.2 13)) ∧ (∀ r1, f_X4_read S 13 = r1 → (¬ r1.1 = 0) → ∀ r3, f_X7_begin r1.2 18 (f_X4_draft r1.2 13) = r3 → p_X10_howMany r3 19 (5 : Int32))
set_option maxRecDepth 100000 in
theorem t_X11_way (G : GG) (l : Launch) {S : HSt} (hM : CS S)   (hp : p_X11_way S 0) : AM G l yX11_way cX11_way 1 (some .long) (rmD 8 0 0) 0 0 [.ref 0] S (FP (some (.long (f_X11_way S 0).1)) ((f_X11_way S 0).2)) := by
  obtain ⟨h0, h1, h2⟩ := hp
  refine AM.mk (by decide) (Nat.le_of_ble_eq_true rfl) ?_
  intro p e s m below meth c hC hSt _
  refine aw_aload_n hC 0 dX11_way_0 rfl rfl ?_
  refine aw_getP (b := 13) hC hSt 1 (cs_lt 0 11 0 (by decide) hM) (cs_k 0 11 0 (by decide) hM) rfl (by decide) w_675 rfl (cs_p 0 1 13 (by decide) hM) dX11_way_1 ?_
  refine aw_cV0r hC hSt (t_X4_read G l hM  (h0)) w_461 w_751 w_752 w_753 w_351 rfl rfl (by decide +kernel) ⟨Nat.le_of_ble_eq_true rfl, Nat.le_of_ble_eq_true rfl⟩ (cs_lt 13 4 0 (by decide) hM) (cs_k 13 4 0 (by decide) hM) rfl (Nat.le_of_ble_eq_true rfl) dX11_way_4 ⟨Nat.zero_le _, Nat.zero_le _⟩ ?_
  generalize er1 : f_X4_read S 13 = r1
  have hM : CS r1.2 := CS.of (by rw [← er1]; exact q_X4_read _ _) hM
  refine aw_if_ne hC 23 dX11_way_7 (by decide) (fun c2 => ?_) (fun c2 => ?_)
  · refine aw_aload_n hC 0 dX11_way_23 rfl rfl ?_
    refine aw_getP (b := 18) hC hSt 2 (cs_lt 0 11 0 (by decide) hM) (cs_k 0 11 0 (by decide) hM) rfl (by decide) w_678 rfl (cs_p 0 2 18 (by decide) hM) dX11_way_24 ?_
    refine aw_aload_n hC 0 dX11_way_27 rfl rfl ?_
    refine aw_getP (b := 13) hC hSt 1 (cs_lt 0 11 0 (by decide) hM) (cs_k 0 11 0 (by decide) hM) rfl (by decide) w_675 rfl (cs_p 0 1 13 (by decide) hM) dX11_way_28 ?_
    refine aw_cV0r hC hSt (t_X4_draft G l hM ) w_334 w_757 w_758 w_759 w_351 rfl rfl (by decide +kernel) ⟨Nat.le_of_ble_eq_true rfl, Nat.le_of_ble_eq_true rfl⟩ (cs_lt 13 4 0 (by decide) hM) (cs_k 13 4 0 (by decide) hM) rfl (Nat.le_of_ble_eq_true rfl) dX11_way_31 ⟨Nat.zero_le _, Nat.zero_le _⟩ ?_
    refine aw_cV1v hC hSt (t_X7_begin G l hM _ _ (by decide) (show (15, 10, 0) ∈ cKT by decide) (h1 r1 er1 c2)) w_597 w_760 w_761 w_762 w_114 rfl rfl (by decide +kernel) ⟨Nat.le_of_ble_eq_true rfl, Nat.le_of_ble_eq_true rfl⟩ (cs_lt 18 7 0 (by decide) hM) (cs_k 18 7 0 (by decide) hM) rfl (Nat.le_of_ble_eq_true rfl) dX11_way_34 ⟨Nat.zero_le _, Nat.zero_le _⟩ ?_
    generalize er3 : f_X7_begin r1.2 18 (f_X4_draft r1.2 13) = r3
    have hM : CS r3 := CS.of (by rw [← er3]; exact q_X7_begin _ _ _) hM
    refine aw_aload_n hC 0 dX11_way_37 rfl rfl ?_
    refine aw_getP (b := 18) hC hSt 2 (cs_lt 0 11 0 (by decide) hM) (cs_k 0 11 0 (by decide) hM) rfl (by decide) w_678 rfl (cs_p 0 2 18 (by decide) hM) dX11_way_38 ?_
    refine aw_getP (b := 19) hC hSt 0 (cs_lt 18 7 0 (by decide) hM) (cs_k 18 7 0 (by decide) hM) rfl (by decide) w_750 rfl (cs_p 18 0 19 (by decide) hM) dX11_way_41 ?_
    refine aw_iconst (v := 5) hC dX11_way_44 (by decide) ?_
    refine aw_cV1r hC hSt (t_X10_howMany G l hM _ _ (by decide) (h2 r1 er1 c2 r3 er3)) w_152 w_763 w_237 w_238 w_18 rfl rfl (by decide +kernel) ⟨Nat.le_of_ble_eq_true rfl, Nat.le_of_ble_eq_true rfl⟩ (cs_lt 19 10 0 (by decide) hM) (cs_k 19 10 0 (by decide) hM) rfl (Nat.le_of_ble_eq_true rfl) dX11_way_45 ⟨Nat.zero_le _, Nat.zero_le _⟩ ?_
    refine aw_i2l hC dX11_way_48 ?_
    refine aw_lret hC dX11_way_49 (Nat.le_refl _) (Nat.le_refl _) ?_
    exact FP.qJ ((bd_eq er1).trans ((if_neg c2).trans ((bd_eq er3).trans (rfl))))
  · refine aw_ldc2 (v := -9000000000000000100) hC w_749 dX11_way_10 ?_
    refine aw_aload_n hC 0 dX11_way_13 rfl rfl ?_
    refine aw_getP (b := 13) hC hSt 1 (cs_lt 0 11 0 (by decide) hM) (cs_k 0 11 0 (by decide) hM) rfl (by decide) w_675 rfl (cs_p 0 1 13 (by decide) hM) dX11_way_14 ?_
    refine aw_cV0r hC hSt (t_X4_faultPlace G l hM ) w_332 w_754 w_755 w_756 w_351 rfl rfl (by decide +kernel) ⟨Nat.le_of_ble_eq_true rfl, Nat.le_of_ble_eq_true rfl⟩ (cs_lt 13 4 0 (by decide) hM) (cs_k 13 4 0 (by decide) hM) rfl (Nat.le_of_ble_eq_true rfl) dX11_way_17 ⟨Nat.zero_le _, Nat.zero_le _⟩ ?_
    refine aw_i2l hC dX11_way_20 ?_
    refine aw_lsub hC dX11_way_21 ?_
    refine aw_lret hC dX11_way_22 (Nat.le_refl _) (Nat.le_refl _) ?_
    exact FP.qJ ((bd_eq er1).trans ((if_pos c2).trans (rfl)))
theorem q_X11_way (S : HSt) (_o0 : Nat) : shp ((f_X11_way S _o0).2) = shp S := by
  unfold f_X11_way
  repeat' (first | with_reducible refine shpr1 ?_ | with_reducible rfl | with_reducible refine (q_X4_read _ _).trans ?_ | with_reducible refine (q_X7_begin _ _ _).trans ?_ | with_reducible refine (shp_sI _ _ _ _).trans ?_ | with_reducible refine (shp_sJ _ _ _ _).trans ?_ | with_reducible refine (shp_rI _ _ _).trans ?_ | with_reducible refine shi ?_ ?_ | with_reducible refine shb (fun _ _ => ?_) | with_reducible refine shiP (fun q : Int64 × HSt => q.2) ?_ ?_ | with_reducible refine shbP (fun q : Int64 × HSt => q.2) (fun _ _ => ?_) | (subst_vars; with_reducible rfl) | (subst_vars; with_reducible refine (q_X4_read _ _).trans ?_) | (subst_vars; with_reducible refine (q_X7_begin _ _ _).trans ?_) | (subst_vars; with_reducible refine (shp_sI _ _ _ _).trans ?_) | (subst_vars; with_reducible refine (shp_sJ _ _ _ _).trans ?_) | (subst_vars; with_reducible refine (shp_rI _ _ _).trans ?_) | (subst_vars; with_reducible refine shi ?_ ?_) | (subst_vars; with_reducible refine shb (fun _ _ => ?_)))
theorem v_X11_way (S : HSt) (_o0 : Nat) : Fr [(((18 + 1) + 1), 1000), (((18 + 1) + 2), 1000), (13, 2), (13, 3), (13, 4), (13, 5), (13, 6), (13, 7), (13, 8), (16, 1000), (17, 1000), (18, 2), (18, 3), (18, 4), (18, 5), (18, 6), (18, 7), (18, 8), (18, 9), (22, 0), (22, 1), (22, 2), (22, 3), (22, 4), (22, 5), (22, 6)] S ((f_X11_way S _o0).2) := by
  unfold f_X11_way
  repeat' (first | with_reducible refine frpr1 ?_ | with_reducible exact Fr.refl _ _ | with_reducible refine Fr.lP (fun q : Int64 × HSt => q.2) (fun _ _ => ?_) | with_reducible refine Fr.iteP (fun q : Int64 × HSt => q.2) ?_ ?_ | with_reducible refine Fr.l1 (fun _ _ => ?_) | with_reducible refine Fr.ite ?_ ?_ | with_reducible refine Fr.sE (by assumption) (by first | decide | simp only [List.mem_cons, List.not_mem_nil, or_false, true_or, or_true, eq_self_iff_true]) ?_ | with_reducible refine Fr.jE (by assumption) ?_ | with_reducible refine Fr.rE (by assumption) (by first | decide | simp only [List.mem_cons, List.not_mem_nil, or_false, true_or, or_true, eq_self_iff_true]) ?_ | with_reducible refine Fr.iE (by assumption) ?_ ?_ | with_reducible refine Fr.tr (w_X4_read _ _ _ (by assumption)) (by first | decide | simp only [List.mem_cons, List.not_mem_nil, or_false, forall_eq_or_imp, forall_eq, true_or, or_true, and_self, eq_self_iff_true]) ?_ | with_reducible refine Fr.tr (w_X7_begin _ _ _ _ (by assumption)) (by first | decide | simp only [List.mem_cons, List.not_mem_nil, or_false, forall_eq_or_imp, forall_eq, true_or, or_true, and_self, eq_self_iff_true]) ?_)
theorem w_X11_way (S : HSt) (_o0 : Nat) (r : Int64 × HSt) (e : f_X11_way S _o0 = r) : Fr [(((18 + 1) + 1), 1000), (((18 + 1) + 2), 1000), (13, 2), (13, 3), (13, 4), (13, 5), (13, 6), (13, 7), (13, 8), (16, 1000), (17, 1000), (18, 2), (18, 3), (18, 4), (18, 5), (18, 6), (18, 7), (18, 8), (18, 9), (22, 0), (22, 1), (22, 2), (22, 3), (22, 4), (22, 5), (22, 6)] S r.2 := by
  rw [← e]
  exact v_X11_way S _o0
noncomputable def F_X11_fault (S : HSt) (_o0 : Nat) : Int32 × HSt := pr ((f_X4_latestFault S 13)) (S)
noncomputable def f_X11_fault (S : HSt) (_o0 : Nat) : Int32 := (F_X11_fault S _o0).1
set_option maxRecDepth 100000 in
theorem t_X11_fault (G : GG) (l : Launch) {S : HSt} (hM : CS S)    : AM G l yX11_fault cX11_fault 1 (some .int) (rmD 1 0 0) 0 0 [.ref 0] S (FP (some (.int (f_X11_fault S 0))) (S)) := by
  refine AM.mk (by decide) (Nat.le_of_ble_eq_true rfl) ?_
  intro p e s m below meth c hC hSt _
  refine aw_aload_n hC 0 dX11_fault_0 rfl rfl ?_
  refine aw_getP (b := 13) hC hSt 1 (cs_lt 0 11 0 (by decide) hM) (cs_k 0 11 0 (by decide) hM) rfl (by decide) w_675 rfl (cs_p 0 1 13 (by decide) hM) dX11_fault_1 ?_
  refine aw_cV0r hC hSt (t_X4_latestFault G l hM ) w_330 w_766 w_767 w_768 w_351 rfl rfl (by decide +kernel) ⟨Nat.le_of_ble_eq_true rfl, Nat.le_of_ble_eq_true rfl⟩ (cs_lt 13 4 0 (by decide) hM) (cs_k 13 4 0 (by decide) hM) rfl (Nat.le_of_ble_eq_true rfl) dX11_fault_4 ⟨Nat.zero_le _, Nat.zero_le _⟩ ?_
  refine aw_iret hC dX11_fault_7 (Nat.le_refl _) (Nat.le_refl _) ?_
  exact FP.pI (rfl)
noncomputable def F_X11_act (S : HSt) (_o0 : Nat) (a1 : Int32) (a2 : Int32) : Int64 × HSt := if (f_X11_hasAct S 0 a1) = 0 then (pr ((-9000000000000000001 : Int64)) (S)) else (if (f_X11_within S a2 (0 : Int32) (3 : Int32)) = 0 then (pr ((-9000000000000000001 : Int64)) (S)) else (if (f_X10_isA S 19 a1 (1 : Int32)) = 0 then (if (f_X10_isA S 19 a1 (4 : Int32)) = 0 then (pr ((-1000000 : Int64)) (S)) else (if a2 = 0 then (pr ((f_X10_value S 19 (5 : Int32) a1 ((1 : Int32) + a2)).toInt64) (S)) else (pr ((-1000000 : Int64)) (S)))) else (pr ((f_X10_value S 19 (5 : Int32) a1 ((1 : Int32) + a2)).toInt64) (S))))
noncomputable def f_X11_act (S : HSt) (_o0 : Nat) (a1 : Int32) (a2 : Int32) : Int64 := (F_X11_act S _o0 a1 a2).1
def p_X11_act (S : HSt) (_o0 : Nat) (a1 : Int32) (a2 : Int32) : Prop := (p_X11_hasAct S 0 a1) ∧ ((¬ (f_X11_hasAct S 0 a1) = 0) → (¬ (f_X11_within S a2 (0 : Int32) (3 : Int32)) = 0) → p_X10_isA S 19 a1 (1 : Int32)) ∧ ((¬ (f_X11_hasAct S 0 a1) = 0) → (¬ (f_X11_within S a2 (0 : Int32) (3 : Int32)) = 0) → (¬ (f_X10_isA S 19 a1 (1 : Int32)) = 0) → p_X10_value S 19 (5 : Int32) a1 ((1 : Int32) + a2)) ∧ ((¬ (f_X11_hasAct S 0 a1) = 0) → (¬ (f_X11_within S a2 (0 : Int32) (3 : Int32)) = 0) → ((f_X10_isA S 19 a1 (1 : Int32)) = 0) → p_X10_isA S 19 a1 (4 : Int32)) ∧ ((¬ (f_X11_hasAct S 0 a1) = 0) → (¬ (f_X11_within S a2 (0 : Int32) (3 : Int32)) = 0) → ((f_X10_isA S 19 a1 (1 : Int32)) = 0) → (¬ (f_X10_isA S 19 a1 (4 : Int32)) = 0) → (a2 = 0) → p_X10_value S 19 (5 : Int32) a1 ((1 : Int32) + a2))
set_option maxRecDepth 100000 in
theorem t_X11_act (G : GG) (l : Launch) {S : HSt} (hM : CS S) (a1 : Int32) (a2 : Int32)  (hp : p_X11_act S 0 a1 a2) : AM G l yX11_act cX11_act 3 (some .long) (rmD 3 0 0) 0 0 [.ref 0, .int a1, .int a2] S (FP (some (.long (f_X11_act S 0 a1 a2))) (S)) := by
  obtain ⟨h0, h1, h2, h3, h4⟩ := hp
  refine AM.mk (by decide) (Nat.le_of_ble_eq_true rfl) ?_
  intro p e s m below meth c hC hSt _
  refine aw_aload_n hC 0 dX11_act_0 rfl rfl ?_
  refine aw_iload_n hC 1 dX11_act_1 rfl rfl ?_
  refine aw_cV1r hC hSt (t_X11_hasAct G l hM _ (h0)) w_769 w_774 w_775 w_776 w_517 rfl rfl (by decide +kernel) ⟨Nat.le_of_ble_eq_true rfl, Nat.le_of_ble_eq_true rfl⟩ (cs_lt 0 11 0 (by decide) hM) (cs_k 0 11 0 (by decide) hM) rfl (Nat.le_of_ble_eq_true rfl) dX11_act_2 ⟨Nat.zero_le _, Nat.zero_le _⟩ ?_
  refine aw_if_eq hC 17 dX11_act_5 (by decide) (fun c1 => ?_) (fun c1 => ?_)
  · refine aw_ldc2 (v := -9000000000000000001) hC w_710 dX11_act_17 ?_
    refine aw_lret hC dX11_act_20 (Nat.le_refl _) (Nat.le_refl _) ?_
    exact FP.pJ ((if_pos c1).trans (rfl))
  · refine aw_iload_n hC 2 dX11_act_8 rfl rfl ?_
    refine aw_iconst (v := 0) hC dX11_act_9 (by decide) ?_
    refine aw_iconst (v := 3) hC dX11_act_10 (by decide) ?_
    refine aw_cS3r hC hSt (t_X11_within G l  _ _ _) w_706 w_712 w_713 w_517 rfl rfl (by decide +kernel) ⟨Nat.le_of_ble_eq_true rfl, Nat.le_of_ble_eq_true rfl⟩ (Nat.le_of_ble_eq_true rfl) dX11_act_11 ⟨Nat.zero_le _, Nat.zero_le _⟩ ?_
    refine aw_if_ne hC 21 dX11_act_14 (by decide) (fun c2 => ?_) (fun c2 => ?_)
    · refine aw_aload_n hC 0 dX11_act_21 rfl rfl ?_
      refine aw_getP (b := 18) hC hSt 2 (cs_lt 0 11 0 (by decide) hM) (cs_k 0 11 0 (by decide) hM) rfl (by decide) w_678 rfl (cs_p 0 2 18 (by decide) hM) dX11_act_22 ?_
      refine aw_getP (b := 19) hC hSt 0 (cs_lt 18 7 0 (by decide) hM) (cs_k 18 7 0 (by decide) hM) rfl (by decide) w_750 rfl (cs_p 18 0 19 (by decide) hM) dX11_act_25 ?_
      refine aw_iload_n hC 1 dX11_act_28 rfl rfl ?_
      refine aw_iconst (v := 1) hC dX11_act_29 (by decide) ?_
      refine aw_cV2r hC hSt (t_X10_isA G l hM _ _ _ (by decide) (h1 c1 c2)) w_496 w_777 w_547 w_548 w_18 rfl rfl (by decide +kernel) ⟨Nat.le_of_ble_eq_true rfl, Nat.le_of_ble_eq_true rfl⟩ (cs_lt 19 10 0 (by decide) hM) (cs_k 19 10 0 (by decide) hM) rfl (Nat.le_of_ble_eq_true rfl) dX11_act_30 ⟨Nat.zero_le _, Nat.zero_le _⟩ ?_
      refine aw_if_ne hC 55 dX11_act_33 (by decide) (fun c3 => ?_) (fun c3 => ?_)
      · refine aw_aload_n hC 0 dX11_act_55 rfl rfl ?_
        refine aw_getP (b := 18) hC hSt 2 (cs_lt 0 11 0 (by decide) hM) (cs_k 0 11 0 (by decide) hM) rfl (by decide) w_678 rfl (cs_p 0 2 18 (by decide) hM) dX11_act_56 ?_
        refine aw_getP (b := 19) hC hSt 0 (cs_lt 18 7 0 (by decide) hM) (cs_k 18 7 0 (by decide) hM) rfl (by decide) w_750 rfl (cs_p 18 0 19 (by decide) hM) dX11_act_59 ?_
        refine aw_iconst (v := 5) hC dX11_act_62 (by decide) ?_
        refine aw_iload_n hC 1 dX11_act_63 rfl rfl ?_
        refine aw_iconst (v := 1) hC dX11_act_64 (by decide) ?_
        refine aw_iload_n hC 2 dX11_act_65 rfl rfl ?_
        refine aw_iadd hC dX11_act_66 ?_
        refine aw_cV3r hC hSt (t_X10_value G l hM _ _ _ _ (by decide) (h2 c1 c2 c3)) w_10 w_778 w_16 w_17 w_18 rfl rfl (by decide +kernel) ⟨Nat.le_of_ble_eq_true rfl, Nat.le_of_ble_eq_true rfl⟩ (cs_lt 19 10 0 (by decide) hM) (cs_k 19 10 0 (by decide) hM) rfl (Nat.le_of_ble_eq_true rfl) dX11_act_67 ⟨Nat.zero_le _, Nat.zero_le _⟩ ?_
        refine aw_i2l hC dX11_act_70 ?_
        refine aw_lret hC dX11_act_71 (Nat.le_refl _) (Nat.le_refl _) ?_
        exact FP.pJ ((if_neg c1).trans ((if_neg c2).trans ((if_neg c3).trans (rfl))))
      · refine aw_aload_n hC 0 dX11_act_36 rfl rfl ?_
        refine aw_getP (b := 18) hC hSt 2 (cs_lt 0 11 0 (by decide) hM) (cs_k 0 11 0 (by decide) hM) rfl (by decide) w_678 rfl (cs_p 0 2 18 (by decide) hM) dX11_act_37 ?_
        refine aw_getP (b := 19) hC hSt 0 (cs_lt 18 7 0 (by decide) hM) (cs_k 18 7 0 (by decide) hM) rfl (by decide) w_750 rfl (cs_p 18 0 19 (by decide) hM) dX11_act_40 ?_
        refine aw_iload_n hC 1 dX11_act_43 rfl rfl ?_
        refine aw_iconst (v := 4) hC dX11_act_44 (by decide) ?_
        refine aw_cV2r hC hSt (t_X10_isA G l hM _ _ _ (by decide) (h3 c1 c2 c3)) w_496 w_777 w_547 w_548 w_18 rfl rfl (by decide +kernel) ⟨Nat.le_of_ble_eq_true rfl, Nat.le_of_ble_eq_true rfl⟩ (cs_lt 19 10 0 (by decide) hM) (cs_k 19 10 0 (by decide) hM) rfl (Nat.le_of_ble_eq_true rfl) dX11_act_45 ⟨Nat.zero_le _, Nat.zero_le _⟩ ?_
        refine aw_if_eq hC 72 dX11_act_48 (by decide) (fun c4 => ?_) (fun c4 => ?_)
        · refine aw_ldc2 (v := -1000000) hC w_773 dX11_act_72 ?_
          refine aw_lret hC dX11_act_75 (Nat.le_refl _) (Nat.le_refl _) ?_
          exact FP.pJ ((if_neg c1).trans ((if_neg c2).trans ((if_pos c3).trans ((if_pos c4).trans (rfl)))))
        · refine aw_iload_n hC 2 dX11_act_51 rfl rfl ?_
          refine aw_if_ne hC 72 dX11_act_52 (by decide) (fun c5 => ?_) (fun c5 => ?_)
          · refine aw_ldc2 (v := -1000000) hC w_773 dX11_act_72 ?_
            refine aw_lret hC dX11_act_75 (Nat.le_refl _) (Nat.le_refl _) ?_
            exact FP.pJ ((if_neg c1).trans ((if_neg c2).trans ((if_pos c3).trans ((if_neg c4).trans ((if_neg c5).trans (rfl))))))
          · refine aw_aload_n hC 0 dX11_act_55 rfl rfl ?_
            refine aw_getP (b := 18) hC hSt 2 (cs_lt 0 11 0 (by decide) hM) (cs_k 0 11 0 (by decide) hM) rfl (by decide) w_678 rfl (cs_p 0 2 18 (by decide) hM) dX11_act_56 ?_
            refine aw_getP (b := 19) hC hSt 0 (cs_lt 18 7 0 (by decide) hM) (cs_k 18 7 0 (by decide) hM) rfl (by decide) w_750 rfl (cs_p 18 0 19 (by decide) hM) dX11_act_59 ?_
            refine aw_iconst (v := 5) hC dX11_act_62 (by decide) ?_
            refine aw_iload_n hC 1 dX11_act_63 rfl rfl ?_
            refine aw_iconst (v := 1) hC dX11_act_64 (by decide) ?_
            refine aw_iload_n hC 2 dX11_act_65 rfl rfl ?_
            refine aw_iadd hC dX11_act_66 ?_
            refine aw_cV3r hC hSt (t_X10_value G l hM _ _ _ _ (by decide) (h4 c1 c2 c3 c4 c5)) w_10 w_778 w_16 w_17 w_18 rfl rfl (by decide +kernel) ⟨Nat.le_of_ble_eq_true rfl, Nat.le_of_ble_eq_true rfl⟩ (cs_lt 19 10 0 (by decide) hM) (cs_k 19 10 0 (by decide) hM) rfl (Nat.le_of_ble_eq_true rfl) dX11_act_67 ⟨Nat.zero_le _, Nat.zero_le _⟩ ?_
            refine aw_i2l hC dX11_act_70 ?_
            refine aw_lret hC dX11_act_71 (Nat.le_refl _) (Nat.le_refl _) ?_
            exact FP.pJ ((if_neg c1).trans ((if_neg c2).trans ((if_pos c3).trans ((if_neg c4).trans ((if_pos c5).trans (rfl))))))
    · refine aw_ldc2 (v := -9000000000000000001) hC w_710 dX11_act_17 ?_
      refine aw_lret hC dX11_act_20 (Nat.le_refl _) (Nat.le_refl _) ?_
      exact FP.pJ ((if_neg c1).trans ((if_pos c2).trans (rfl)))
noncomputable def f_X11_take (S : HSt) (_o0 : Nat) (a1 : Int32) (a2 : Int32) : Int64 × HSt := if (f_X10_has S 19 (0 : Int32) a1) = 0 then (pr ((-9000000000000000001 : Int64)) (S)) else (if a2 = (-1000000 : Int32) then (bd (f_X7_takeUp S 18 a1 a2) fun r3 => pr ((1 : Int64)) (r3)) else (if (f_X10_has S 19 (1 : Int32) a2) = 0 then (pr ((-9000000000000000001 : Int64)) (S)) else (bd (f_X7_takeUp S 18 a1 a2) fun r5 => pr ((1 : Int64)) (r5))))
def p_X11_take (S : HSt) (_o0 : Nat) (a1 : Int32) (a2 : Int32) : Prop := (p_X10_has S 19 (0 : Int32) a1) ∧ ((¬ (f_X10_has S 19 (0 : Int32) a1) = 0) → (a2 = (-1000000 : Int32)) → p_X7_takeUp S 18 a1 a2) ∧ ((¬ (f_X10_has S 19 (0 : Int32) a1) = 0) → (¬ a2 = (-1000000 : Int32)) → p_X10_has S 19 (1 : Int32) a2) ∧ ((¬ (f_X10_has S 19 (0 : Int32) a1) = 0) → (¬ a2 = (-1000000 : Int32)) → (¬ (f_X10_has S 19 (1 : Int32) a2) = 0) → p_X7_takeUp S 18 a1 a2)
set_option maxRecDepth 100000 in
theorem t_X11_take (G : GG) (l : Launch) {S : HSt} (hM : CS S) (a1 : Int32) (a2 : Int32)  (hp : p_X11_take S 0 a1 a2) : AM G l yX11_take cX11_take 3 (some .long) (rmD 3 0 0) 0 0 [.ref 0, .int a1, .int a2] S (FP (some (.long (f_X11_take S 0 a1 a2).1)) ((f_X11_take S 0 a1 a2).2)) := by
  obtain ⟨h0, h1, h2, h3⟩ := hp
  refine AM.mk (by decide) (Nat.le_of_ble_eq_true rfl) ?_
  intro p e s m below meth c hC hSt _
  refine aw_aload_n hC 0 dX11_take_0 rfl rfl ?_
  refine aw_getP (b := 18) hC hSt 2 (cs_lt 0 11 0 (by decide) hM) (cs_k 0 11 0 (by decide) hM) rfl (by decide) w_678 rfl (cs_p 0 2 18 (by decide) hM) dX11_take_1 ?_
  refine aw_getP (b := 19) hC hSt 0 (cs_lt 18 7 0 (by decide) hM) (cs_k 18 7 0 (by decide) hM) rfl (by decide) w_750 rfl (cs_p 18 0 19 (by decide) hM) dX11_take_4 ?_
  refine aw_iconst (v := 0) hC dX11_take_7 (by decide) ?_
  refine aw_iload_n hC 1 dX11_take_8 rfl rfl ?_
  refine aw_cV2r hC hSt (t_X10_has G l hM _ _ _ (by decide) (h0)) w_665 w_770 w_771 w_772 w_18 rfl rfl (by decide +kernel) ⟨Nat.le_of_ble_eq_true rfl, Nat.le_of_ble_eq_true rfl⟩ (cs_lt 19 10 0 (by decide) hM) (cs_k 19 10 0 (by decide) hM) rfl (Nat.le_of_ble_eq_true rfl) dX11_take_9 ⟨Nat.zero_le _, Nat.zero_le _⟩ ?_
  refine aw_if_eq hC 36 dX11_take_12 (by decide) (fun c1 => ?_) (fun c1 => ?_)
  · refine aw_ldc2 (v := -9000000000000000001) hC w_710 dX11_take_36 ?_
    refine aw_lret hC dX11_take_39 (Nat.le_refl _) (Nat.le_refl _) ?_
    exact FP.qJ ((if_pos c1).trans (rfl))
  · refine aw_iload_n hC 2 dX11_take_15 rfl rfl ?_
    refine aw_ldc (v := -1000000) hC w_780 dX11_take_16 ?_
    refine aw_icmp_eq hC 40 dX11_take_18 (by decide) (fun c2 => ?_) (fun c2 => ?_)
    · refine aw_aload_n hC 0 dX11_take_40 rfl rfl ?_
      refine aw_getP (b := 18) hC hSt 2 (cs_lt 0 11 0 (by decide) hM) (cs_k 0 11 0 (by decide) hM) rfl (by decide) w_678 rfl (cs_p 0 2 18 (by decide) hM) dX11_take_41 ?_
      refine aw_iload_n hC 1 dX11_take_44 rfl rfl ?_
      refine aw_iload_n hC 2 dX11_take_45 rfl rfl ?_
      refine aw_cV2v hC hSt (t_X7_takeUp G l hM _ _ _ (by decide) (h1 c1 c2)) w_589 w_781 w_595 w_596 w_114 rfl rfl (by decide +kernel) ⟨Nat.le_of_ble_eq_true rfl, Nat.le_of_ble_eq_true rfl⟩ (cs_lt 18 7 0 (by decide) hM) (cs_k 18 7 0 (by decide) hM) rfl (Nat.le_of_ble_eq_true rfl) dX11_take_46 ⟨Nat.zero_le _, Nat.zero_le _⟩ ?_
      generalize er3 : f_X7_takeUp S 18 a1 a2 = r3
      have hM : CS r3 := CS.of (by rw [← er3]; exact q_X7_takeUp _ _ _ _) hM
      refine aw_lconst (v := 1) hC dX11_take_49 (by decide) ?_
      refine aw_lret hC dX11_take_50 (Nat.le_refl _) (Nat.le_refl _) ?_
      exact FP.qJ ((if_neg c1).trans ((if_pos c2).trans ((bd_eq er3).trans (rfl))))
    · refine aw_aload_n hC 0 dX11_take_21 rfl rfl ?_
      refine aw_getP (b := 18) hC hSt 2 (cs_lt 0 11 0 (by decide) hM) (cs_k 0 11 0 (by decide) hM) rfl (by decide) w_678 rfl (cs_p 0 2 18 (by decide) hM) dX11_take_22 ?_
      refine aw_getP (b := 19) hC hSt 0 (cs_lt 18 7 0 (by decide) hM) (cs_k 18 7 0 (by decide) hM) rfl (by decide) w_750 rfl (cs_p 18 0 19 (by decide) hM) dX11_take_25 ?_
      refine aw_iconst (v := 1) hC dX11_take_28 (by decide) ?_
      refine aw_iload_n hC 2 dX11_take_29 rfl rfl ?_
      refine aw_cV2r hC hSt (t_X10_has G l hM _ _ _ (by decide) (h2 c1 c2)) w_665 w_770 w_771 w_772 w_18 rfl rfl (by decide +kernel) ⟨Nat.le_of_ble_eq_true rfl, Nat.le_of_ble_eq_true rfl⟩ (cs_lt 19 10 0 (by decide) hM) (cs_k 19 10 0 (by decide) hM) rfl (Nat.le_of_ble_eq_true rfl) dX11_take_30 ⟨Nat.zero_le _, Nat.zero_le _⟩ ?_
      refine aw_if_ne hC 40 dX11_take_33 (by decide) (fun c4 => ?_) (fun c4 => ?_)
      · refine aw_aload_n hC 0 dX11_take_40 rfl rfl ?_
        refine aw_getP (b := 18) hC hSt 2 (cs_lt 0 11 0 (by decide) hM) (cs_k 0 11 0 (by decide) hM) rfl (by decide) w_678 rfl (cs_p 0 2 18 (by decide) hM) dX11_take_41 ?_
        refine aw_iload_n hC 1 dX11_take_44 rfl rfl ?_
        refine aw_iload_n hC 2 dX11_take_45 rfl rfl ?_
        refine aw_cV2v hC hSt (t_X7_takeUp G l hM _ _ _ (by decide) (h3 c1 c2 c4)) w_589 w_781 w_595 w_596 w_114 rfl rfl (by decide +kernel) ⟨Nat.le_of_ble_eq_true rfl, Nat.le_of_ble_eq_true rfl⟩ (cs_lt 18 7 0 (by decide) hM) (cs_k 18 7 0 (by decide) hM) rfl (Nat.le_of_ble_eq_true rfl) dX11_take_46 ⟨Nat.zero_le _, Nat.zero_le _⟩ ?_
        generalize er5 : f_X7_takeUp S 18 a1 a2 = r5
        have hM : CS r5 := CS.of (by rw [← er5]; exact q_X7_takeUp _ _ _ _) hM
        refine aw_lconst (v := 1) hC dX11_take_49 (by decide) ?_
        refine aw_lret hC dX11_take_50 (Nat.le_refl _) (Nat.le_refl _) ?_
        exact FP.qJ ((if_neg c1).trans ((if_neg c2).trans ((if_neg c4).trans ((bd_eq er5).trans (rfl)))))
      · refine aw_ldc2 (v := -9000000000000000001) hC w_710 dX11_take_36 ?_
        refine aw_lret hC dX11_take_39 (Nat.le_refl _) (Nat.le_refl _) ?_
        exact FP.qJ ((if_neg c1).trans ((if_neg c2).trans ((if_pos c4).trans (rfl))))
theorem q_X11_take (S : HSt) (_o0 : Nat) (a1 : Int32) (a2 : Int32) : shp ((f_X11_take S _o0 a1 a2).2) = shp S := by
  unfold f_X11_take
  repeat' (first | with_reducible refine shpr1 ?_ | with_reducible rfl | with_reducible refine (q_X7_takeUp _ _ _ _).trans ?_ | with_reducible refine (shp_sI _ _ _ _).trans ?_ | with_reducible refine (shp_sJ _ _ _ _).trans ?_ | with_reducible refine (shp_rI _ _ _).trans ?_ | with_reducible refine shi ?_ ?_ | with_reducible refine shb (fun _ _ => ?_) | with_reducible refine shiP (fun q : Int64 × HSt => q.2) ?_ ?_ | with_reducible refine shbP (fun q : Int64 × HSt => q.2) (fun _ _ => ?_) | (subst_vars; with_reducible rfl) | (subst_vars; with_reducible refine (q_X7_takeUp _ _ _ _).trans ?_) | (subst_vars; with_reducible refine (shp_sI _ _ _ _).trans ?_) | (subst_vars; with_reducible refine (shp_sJ _ _ _ _).trans ?_) | (subst_vars; with_reducible refine (shp_rI _ _ _).trans ?_) | (subst_vars; with_reducible refine shi ?_ ?_) | (subst_vars; with_reducible refine shb (fun _ _ => ?_)))
theorem v_X11_take (S : HSt) (_o0 : Nat) (a1 : Int32) (a2 : Int32) : Fr [(18, 3), (18, 4), (18, 5), (18, 6), (18, 7), (18, 8), (18, 9), (22, 0), (22, 1), (22, 2), (22, 3), (22, 4), (22, 5), (22, 6)] S ((f_X11_take S _o0 a1 a2).2) := by
  unfold f_X11_take
  repeat' (first | with_reducible refine frpr1 ?_ | with_reducible exact Fr.refl _ _ | with_reducible refine Fr.lP (fun q : Int64 × HSt => q.2) (fun _ _ => ?_) | with_reducible refine Fr.iteP (fun q : Int64 × HSt => q.2) ?_ ?_ | with_reducible refine Fr.l1 (fun _ _ => ?_) | with_reducible refine Fr.ite ?_ ?_ | with_reducible refine Fr.sE (by assumption) (by first | decide | simp only [List.mem_cons, List.not_mem_nil, or_false, true_or, or_true, eq_self_iff_true]) ?_ | with_reducible refine Fr.jE (by assumption) ?_ | with_reducible refine Fr.rE (by assumption) (by first | decide | simp only [List.mem_cons, List.not_mem_nil, or_false, true_or, or_true, eq_self_iff_true]) ?_ | with_reducible refine Fr.iE (by assumption) ?_ ?_ | with_reducible refine Fr.tr (w_X7_takeUp _ _ _ _ _ (by assumption)) (by first | decide | simp only [List.mem_cons, List.not_mem_nil, or_false, forall_eq_or_imp, forall_eq, true_or, or_true, and_self, eq_self_iff_true]) ?_)
theorem w_X11_take (S : HSt) (_o0 : Nat) (a1 : Int32) (a2 : Int32) (r : Int64 × HSt) (e : f_X11_take S _o0 a1 a2 = r) : Fr [(18, 3), (18, 4), (18, 5), (18, 6), (18, 7), (18, 8), (18, 9), (22, 0), (22, 1), (22, 2), (22, 3), (22, 4), (22, 5), (22, 6)] S r.2 := by
  rw [← e]
  exact v_X11_take S _o0 a1 a2
noncomputable def f_X11_tick (S : HSt) (_o0 : Nat) (a1 : Int32) (a2 : Int32) (a3 : Int32) (a4 : Int32) : Int64 × HSt := if (f_X11_within S a1 (0 : Int32) (1 : Int32)) = 0 then (pr ((-9000000000000000001 : Int64)) (S)) else (if (f_X11_within S a2 (0 : Int32) (4 : Int32)) = 0 then (pr ((-9000000000000000001 : Int64)) (S)) else (if (f_X11_within S a3 (0 : Int32) (9 : Int32)) = 0 then (pr ((-9000000000000000001 : Int64)) (S)) else (if (f_X11_within S a4 (0 : Int32) (15 : Int32)) = 0 then (pr ((-9000000000000000001 : Int64)) (S)) else (if (gI S 18 2) = 0 then (pr ((-9000000000000000002 : Int64)) (S)) else (if (f_X1_hasFallen S 22) = 0 then (bd ((if a1 = (1 : Int32) then (1 : Int32) else (0 : Int32))) fun x8 => bd (f_X1_advance S 22 18 x8 a2 a3 a4) fun r9 => pr ((gI r9 22 5).toInt64) (r9)) else (pr ((-9000000000000000002 : Int64)) (S)))))))
set_option maxRecDepth 100000 in
theorem t_X11_tick (G : GG) (l : Launch) {S : HSt} (hM : CS S) (a1 : Int32) (a2 : Int32) (a3 : Int32) (a4 : Int32)   : AM G l yX11_tick cX11_tick 5 (some .long) (rmD 3 0 0) 0 0 [.ref 0, .int a1, .int a2, .int a3, .int a4] S (FP (some (.long (f_X11_tick S 0 a1 a2 a3 a4).1)) ((f_X11_tick S 0 a1 a2 a3 a4).2)) := by
  refine AM.mk (by decide) (Nat.le_of_ble_eq_true rfl) ?_
  intro p e s m below meth c hC hSt _
  refine aw_iload_n hC 1 dX11_tick_0 rfl rfl ?_
  refine aw_iconst (v := 0) hC dX11_tick_1 (by decide) ?_
  refine aw_iconst (v := 1) hC dX11_tick_2 (by decide) ?_
  refine aw_cS3r hC hSt (t_X11_within G l  _ _ _) w_706 w_712 w_713 w_517 rfl rfl (by decide +kernel) ⟨Nat.le_of_ble_eq_true rfl, Nat.le_of_ble_eq_true rfl⟩ (Nat.le_of_ble_eq_true rfl) dX11_tick_3 ⟨Nat.zero_le _, Nat.zero_le _⟩ ?_
  refine aw_if_eq hC 39 dX11_tick_6 (by decide) (fun c1 => ?_) (fun c1 => ?_)
  · refine aw_ldc2 (v := -9000000000000000001) hC w_710 dX11_tick_39 ?_
    refine aw_lret hC dX11_tick_42 (Nat.le_refl _) (Nat.le_refl _) ?_
    exact FP.qJ ((if_pos c1).trans (rfl))
  · refine aw_iload_n hC 2 dX11_tick_9 rfl rfl ?_
    refine aw_iconst (v := 0) hC dX11_tick_10 (by decide) ?_
    refine aw_iconst (v := 4) hC dX11_tick_11 (by decide) ?_
    refine aw_cS3r hC hSt (t_X11_within G l  _ _ _) w_706 w_712 w_713 w_517 rfl rfl (by decide +kernel) ⟨Nat.le_of_ble_eq_true rfl, Nat.le_of_ble_eq_true rfl⟩ (Nat.le_of_ble_eq_true rfl) dX11_tick_12 ⟨Nat.zero_le _, Nat.zero_le _⟩ ?_
    refine aw_if_eq hC 39 dX11_tick_15 (by decide) (fun c2 => ?_) (fun c2 => ?_)
    · refine aw_ldc2 (v := -9000000000000000001) hC w_710 dX11_tick_39 ?_
      refine aw_lret hC dX11_tick_42 (Nat.le_refl _) (Nat.le_refl _) ?_
      exact FP.qJ ((if_neg c1).trans ((if_pos c2).trans (rfl)))
    · refine aw_iload_n hC 3 dX11_tick_18 rfl rfl ?_
      refine aw_iconst (v := 0) hC dX11_tick_19 (by decide) ?_
      refine aw_bipush (v := 9) hC dX11_tick_20 (by decide) ?_
      refine aw_cS3r hC hSt (t_X11_within G l  _ _ _) w_706 w_712 w_713 w_517 rfl rfl (by decide +kernel) ⟨Nat.le_of_ble_eq_true rfl, Nat.le_of_ble_eq_true rfl⟩ (Nat.le_of_ble_eq_true rfl) dX11_tick_22 ⟨Nat.zero_le _, Nat.zero_le _⟩ ?_
      refine aw_if_eq hC 39 dX11_tick_25 (by decide) (fun c3 => ?_) (fun c3 => ?_)
      · refine aw_ldc2 (v := -9000000000000000001) hC w_710 dX11_tick_39 ?_
        refine aw_lret hC dX11_tick_42 (Nat.le_refl _) (Nat.le_refl _) ?_
        exact FP.qJ ((if_neg c1).trans ((if_neg c2).trans ((if_pos c3).trans (rfl))))
      · refine aw_iload hC 4 dX11_tick_28 rfl ?_
        refine aw_iconst (v := 0) hC dX11_tick_30 (by decide) ?_
        refine aw_bipush (v := 15) hC dX11_tick_31 (by decide) ?_
        refine aw_cS3r hC hSt (t_X11_within G l  _ _ _) w_706 w_712 w_713 w_517 rfl rfl (by decide +kernel) ⟨Nat.le_of_ble_eq_true rfl, Nat.le_of_ble_eq_true rfl⟩ (Nat.le_of_ble_eq_true rfl) dX11_tick_33 ⟨Nat.zero_le _, Nat.zero_le _⟩ ?_
        refine aw_if_ne hC 43 dX11_tick_36 (by decide) (fun c4 => ?_) (fun c4 => ?_)
        · refine aw_aload_n hC 0 dX11_tick_43 rfl rfl ?_
          refine aw_getP (b := 18) hC hSt 2 (cs_lt 0 11 0 (by decide) hM) (cs_k 0 11 0 (by decide) hM) rfl (by decide) w_678 rfl (cs_p 0 2 18 (by decide) hM) dX11_tick_44 ?_
          refine aw_getI hC hSt 2 (cs_lt 18 7 0 (by decide) hM) (cs_k 18 7 0 (by decide) hM) rfl (by decide) w_783 rfl dX11_tick_47 ?_
          refine aw_if_eq hC 66 dX11_tick_50 (by decide) (fun c5 => ?_) (fun c5 => ?_)
          · refine aw_ldc2 (v := -9000000000000000002) hC w_785 dX11_tick_66 ?_
            refine aw_lret hC dX11_tick_69 (Nat.le_refl _) (Nat.le_refl _) ?_
            exact FP.qJ ((if_neg c1).trans ((if_neg c2).trans ((if_neg c3).trans ((if_neg c4).trans ((if_pos c5).trans (rfl))))))
          · refine aw_aload_n hC 0 dX11_tick_53 rfl rfl ?_
            refine aw_getP (b := 18) hC hSt 2 (cs_lt 0 11 0 (by decide) hM) (cs_k 0 11 0 (by decide) hM) rfl (by decide) w_678 rfl (cs_p 0 2 18 (by decide) hM) dX11_tick_54 ?_
            refine aw_getP (b := 22) hC hSt 1 (cs_lt 18 7 0 (by decide) hM) (cs_k 18 7 0 (by decide) hM) rfl (by decide) w_784 rfl (cs_p 18 1 22 (by decide) hM) dX11_tick_57 ?_
            refine aw_cV0r hC hSt (t_X1_hasFallen G l hM _ (by decide)) w_88 w_787 w_204 w_205 w_84 rfl rfl (by decide +kernel) ⟨Nat.le_of_ble_eq_true rfl, Nat.le_of_ble_eq_true rfl⟩ (cs_lt 22 1 0 (by decide) hM) (cs_k 22 1 0 (by decide) hM) rfl (Nat.le_of_ble_eq_true rfl) dX11_tick_60 ⟨Nat.zero_le _, Nat.zero_le _⟩ ?_
            refine aw_if_eq hC 70 dX11_tick_63 (by decide) (fun c6 => ?_) (fun c6 => ?_)
            · refine aw_aload_n hC 0 dX11_tick_70 rfl rfl ?_
              refine aw_getP (b := 18) hC hSt 2 (cs_lt 0 11 0 (by decide) hM) (cs_k 0 11 0 (by decide) hM) rfl (by decide) w_678 rfl (cs_p 0 2 18 (by decide) hM) dX11_tick_71 ?_
              refine aw_getP (b := 22) hC hSt 1 (cs_lt 18 7 0 (by decide) hM) (cs_k 18 7 0 (by decide) hM) rfl (by decide) w_784 rfl (cs_p 18 1 22 (by decide) hM) dX11_tick_74 ?_
              refine aw_aload_n hC 0 dX11_tick_77 rfl rfl ?_
              refine aw_getP (b := 18) hC hSt 2 (cs_lt 0 11 0 (by decide) hM) (cs_k 0 11 0 (by decide) hM) rfl (by decide) w_678 rfl (cs_p 0 2 18 (by decide) hM) dX11_tick_78 ?_
              refine aw_iload_n hC 1 dX11_tick_81 rfl rfl ?_
              refine aw_iconst (v := 1) hC dX11_tick_82 (by decide) ?_
              refine aw_cut (S' := S) (pc' := 91) (lv' := [(0, .ref 0), (1, .int a1), (2, .int a2), (3, .int a3), (4, .int a4)]) (st' := [.int (if a1 = (1 : Int32) then (1 : Int32) else (0 : Int32)), .ref 18, .ref 22]) ?_ (fun Jc7 => ?_)
              · generalize ex8 : (if a1 = (1 : Int32) then (1 : Int32) else (0 : Int32)) = x8
                refine aw_iload_n hC 2 dX11_tick_91 rfl rfl ?_
                refine aw_iload_n hC 3 dX11_tick_92 rfl rfl ?_
                refine aw_iload hC 4 dX11_tick_93 rfl ?_
                refine aw_cV5v hC hSt (t_X1_advance G l hM _ _ _ _ _ _ (by decide) (by decide)) w_124 w_788 w_229 w_230 w_84 rfl rfl (by decide +kernel) ⟨Nat.le_of_ble_eq_true rfl, Nat.le_of_ble_eq_true rfl⟩ (cs_lt 22 1 0 (by decide) hM) (cs_k 22 1 0 (by decide) hM) rfl (Nat.le_of_ble_eq_true rfl) dX11_tick_95 ⟨Nat.zero_le _, Nat.zero_le _⟩ ?_
                generalize er9 : f_X1_advance S 22 18 x8 a2 a3 a4 = r9
                have hM : CS r9 := CS.of (by rw [← er9]; exact q_X1_advance _ _ _ _ _ _ _) hM
                refine aw_aload_n hC 0 dX11_tick_98 rfl rfl ?_
                refine aw_getP (b := 18) hC hSt 2 (cs_lt 0 11 0 (by decide) hM) (cs_k 0 11 0 (by decide) hM) rfl (by decide) w_678 rfl (cs_p 0 2 18 (by decide) hM) dX11_tick_99 ?_
                refine aw_getP (b := 22) hC hSt 1 (cs_lt 18 7 0 (by decide) hM) (cs_k 18 7 0 (by decide) hM) rfl (by decide) w_784 rfl (cs_p 18 1 22 (by decide) hM) dX11_tick_102 ?_
                refine aw_getI hC hSt 5 (cs_lt 22 1 0 (by decide) hM) (cs_k 22 1 0 (by decide) hM) rfl (by decide) w_786 rfl dX11_tick_105 ?_
                refine aw_i2l hC dX11_tick_108 ?_
                refine aw_lret hC dX11_tick_109 (Nat.le_refl _) (Nat.le_refl _) ?_
                exact FP.qJ ((if_neg c1).trans ((if_neg c2).trans ((if_neg c3).trans ((if_neg c4).trans ((if_neg c5).trans ((if_pos c6).trans ((bd_eq ex8).trans ((bd_eq er9).trans (rfl)))))))))
              · refine aw_icmp_ne hC 90 dX11_tick_83 (by decide) (fun c7 => ?_) (fun c7 => ?_)
                · refine aw_iconst (v := 0) hC dX11_tick_90 (by decide) ?_
                  simp only [bd_def, if_neg c7] at Jc7 ⊢
                  exact Jc7
                · refine aw_iconst (v := 1) hC dX11_tick_86 (by decide) ?_
                  refine aw_goto hC 91 dX11_tick_87 (by decide) ?_
                  simp only [bd_def, if_pos c7] at Jc7 ⊢
                  exact Jc7
            · refine aw_ldc2 (v := -9000000000000000002) hC w_785 dX11_tick_66 ?_
              refine aw_lret hC dX11_tick_69 (Nat.le_refl _) (Nat.le_refl _) ?_
              exact FP.qJ ((if_neg c1).trans ((if_neg c2).trans ((if_neg c3).trans ((if_neg c4).trans ((if_neg c5).trans ((if_neg c6).trans (rfl)))))))
        · refine aw_ldc2 (v := -9000000000000000001) hC w_710 dX11_tick_39 ?_
          refine aw_lret hC dX11_tick_42 (Nat.le_refl _) (Nat.le_refl _) ?_
          exact FP.qJ ((if_neg c1).trans ((if_neg c2).trans ((if_neg c3).trans ((if_pos c4).trans (rfl)))))
theorem q_X11_tick (S : HSt) (_o0 : Nat) (a1 : Int32) (a2 : Int32) (a3 : Int32) (a4 : Int32) : shp ((f_X11_tick S _o0 a1 a2 a3 a4).2) = shp S := by
  unfold f_X11_tick
  repeat' (first | with_reducible refine shpr1 ?_ | with_reducible rfl | with_reducible refine (q_X1_advance _ _ _ _ _ _ _).trans ?_ | with_reducible refine (shp_sI _ _ _ _).trans ?_ | with_reducible refine (shp_sJ _ _ _ _).trans ?_ | with_reducible refine (shp_rI _ _ _).trans ?_ | with_reducible refine shi ?_ ?_ | with_reducible refine shb (fun _ _ => ?_) | with_reducible refine shiP (fun q : Int64 × HSt => q.2) ?_ ?_ | with_reducible refine shbP (fun q : Int64 × HSt => q.2) (fun _ _ => ?_) | (subst_vars; with_reducible rfl) | (subst_vars; with_reducible refine (q_X1_advance _ _ _ _ _ _ _).trans ?_) | (subst_vars; with_reducible refine (shp_sI _ _ _ _).trans ?_) | (subst_vars; with_reducible refine (shp_sJ _ _ _ _).trans ?_) | (subst_vars; with_reducible refine (shp_rI _ _ _).trans ?_) | (subst_vars; with_reducible refine shi ?_ ?_) | (subst_vars; with_reducible refine shb (fun _ _ => ?_)))
theorem v_X11_tick (S : HSt) (_o0 : Nat) (a1 : Int32) (a2 : Int32) (a3 : Int32) (a4 : Int32) : Fr [(22, 0), (22, 1), (22, 2), (22, 3), (22, 4), (22, 5), (22, 6)] S ((f_X11_tick S _o0 a1 a2 a3 a4).2) := by
  unfold f_X11_tick
  repeat' (first | with_reducible refine frpr1 ?_ | with_reducible exact Fr.refl _ _ | with_reducible refine Fr.lP (fun q : Int64 × HSt => q.2) (fun _ _ => ?_) | with_reducible refine Fr.iteP (fun q : Int64 × HSt => q.2) ?_ ?_ | with_reducible refine Fr.l1 (fun _ _ => ?_) | with_reducible refine Fr.ite ?_ ?_ | with_reducible refine Fr.sE (by assumption) (by first | decide | simp only [List.mem_cons, List.not_mem_nil, or_false, true_or, or_true, eq_self_iff_true]) ?_ | with_reducible refine Fr.jE (by assumption) ?_ | with_reducible refine Fr.rE (by assumption) (by first | decide | simp only [List.mem_cons, List.not_mem_nil, or_false, true_or, or_true, eq_self_iff_true]) ?_ | with_reducible refine Fr.iE (by assumption) ?_ ?_ | with_reducible refine Fr.tr (w_X1_advance _ _ _ _ _ _ _ _ (by assumption)) (by first | decide | simp only [List.mem_cons, List.not_mem_nil, or_false, forall_eq_or_imp, forall_eq, true_or, or_true, and_self, eq_self_iff_true]) ?_)
theorem w_X11_tick (S : HSt) (_o0 : Nat) (a1 : Int32) (a2 : Int32) (a3 : Int32) (a4 : Int32) (r : Int64 × HSt) (e : f_X11_tick S _o0 a1 a2 a3 a4 = r) : Fr [(22, 0), (22, 1), (22, 2), (22, 3), (22, 4), (22, 5), (22, 6)] S r.2 := by
  rw [← e]
  exact v_X11_tick S _o0 a1 a2 a3 a4
noncomputable def f_X11_hurl (S : HSt) (_o0 : Nat) (a1 : Int32) (a2 : Int32) : Int64 × HSt := if (f_X11_canThrow S 0 a1 a2) = 0 then (pr ((-9000000000000000001 : Int64)) (S)) else (bd (f_X9_aim S 34 18 22 a1 a2) fun r2 => bd (f_X1_fallToHand r2 22) fun r3 => bd ((if (gI r3 34 0) ≤ 0 then ((-(gI r3 34 1)) - (1 : Int32)).toInt64 else (gI r3 34 0).toInt64)) fun x5 => pr (x5) (r3))
def p_X11_hurl (S : HSt) (_o0 : Nat) (a1 : Int32) (a2 : Int32) : Prop := (p_X11_canThrow S 0 a1 a2) ∧ ((¬ (f_X11_canThrow S 0 a1 a2) = 0) → p_X9_aim S 34 18 22 a1 a2)
set_option maxRecDepth 100000 in
theorem t_X11_hurl (G : GG) (l : Launch) {S : HSt} (hM : CS S) (a1 : Int32) (a2 : Int32)  (hp : p_X11_hurl S 0 a1 a2) : AM G l yX11_hurl cX11_hurl 3 (some .long) (rmD 4 0 0) 0 0 [.ref 0, .int a1, .int a2] S (FP (some (.long (f_X11_hurl S 0 a1 a2).1)) ((f_X11_hurl S 0 a1 a2).2)) := by
  obtain ⟨h0, h1⟩ := hp
  refine AM.mk (by decide) (Nat.le_of_ble_eq_true rfl) ?_
  intro p e s m below meth c hC hSt _
  refine aw_aload_n hC 0 dX11_hurl_0 rfl rfl ?_
  refine aw_iload_n hC 1 dX11_hurl_1 rfl rfl ?_
  refine aw_iload_n hC 2 dX11_hurl_2 rfl rfl ?_
  refine aw_cV2r hC hSt (t_X11_canThrow G l hM _ _ (h0)) w_790 w_793 w_794 w_795 w_517 rfl rfl (by decide +kernel) ⟨Nat.le_of_ble_eq_true rfl, Nat.le_of_ble_eq_true rfl⟩ (cs_lt 0 11 0 (by decide) hM) (cs_k 0 11 0 (by decide) hM) rfl (Nat.le_of_ble_eq_true rfl) dX11_hurl_3 ⟨Nat.zero_le _, Nat.zero_le _⟩ ?_
  refine aw_if_ne hC 13 dX11_hurl_6 (by decide) (fun c1 => ?_) (fun c1 => ?_)
  · refine aw_aload_n hC 0 dX11_hurl_13 rfl rfl ?_
    refine aw_getP (b := 34) hC hSt 4 (cs_lt 0 11 0 (by decide) hM) (cs_k 0 11 0 (by decide) hM) rfl (by decide) w_681 rfl (cs_p 0 4 34 (by decide) hM) dX11_hurl_14 ?_
    refine aw_aload_n hC 0 dX11_hurl_17 rfl rfl ?_
    refine aw_getP (b := 18) hC hSt 2 (cs_lt 0 11 0 (by decide) hM) (cs_k 0 11 0 (by decide) hM) rfl (by decide) w_678 rfl (cs_p 0 2 18 (by decide) hM) dX11_hurl_18 ?_
    refine aw_aload_n hC 0 dX11_hurl_21 rfl rfl ?_
    refine aw_getP (b := 18) hC hSt 2 (cs_lt 0 11 0 (by decide) hM) (cs_k 0 11 0 (by decide) hM) rfl (by decide) w_678 rfl (cs_p 0 2 18 (by decide) hM) dX11_hurl_22 ?_
    refine aw_getP (b := 22) hC hSt 1 (cs_lt 18 7 0 (by decide) hM) (cs_k 18 7 0 (by decide) hM) rfl (by decide) w_784 rfl (cs_p 18 1 22 (by decide) hM) dX11_hurl_25 ?_
    refine aw_iload_n hC 1 dX11_hurl_28 rfl rfl ?_
    refine aw_iload_n hC 2 dX11_hurl_29 rfl rfl ?_
    refine aw_cV4v hC hSt (t_X9_aim G l hM _ _ _ _ _ (by decide) (by decide) (by decide) (h1 c1)) w_511 w_796 w_531 w_532 w_140 rfl rfl (by decide +kernel) ⟨Nat.le_of_ble_eq_true rfl, Nat.le_of_ble_eq_true rfl⟩ (cs_lt 34 9 0 (by decide) hM) (cs_k 34 9 0 (by decide) hM) rfl (Nat.le_of_ble_eq_true rfl) dX11_hurl_30 ⟨Nat.zero_le _, Nat.zero_le _⟩ ?_
    generalize er2 : f_X9_aim S 34 18 22 a1 a2 = r2
    have hM : CS r2 := CS.of (by rw [← er2]; exact q_X9_aim _ _ _ _ _ _) hM
    refine aw_aload_n hC 0 dX11_hurl_33 rfl rfl ?_
    refine aw_getP (b := 18) hC hSt 2 (cs_lt 0 11 0 (by decide) hM) (cs_k 0 11 0 (by decide) hM) rfl (by decide) w_678 rfl (cs_p 0 2 18 (by decide) hM) dX11_hurl_34 ?_
    refine aw_getP (b := 22) hC hSt 1 (cs_lt 18 7 0 (by decide) hM) (cs_k 18 7 0 (by decide) hM) rfl (by decide) w_784 rfl (cs_p 18 1 22 (by decide) hM) dX11_hurl_37 ?_
    refine aw_cV0v hC hSt (t_X1_fallToHand G l hM _ (by decide)) w_71 w_797 w_82 w_83 w_84 rfl rfl (by decide +kernel) ⟨Nat.le_of_ble_eq_true rfl, Nat.le_of_ble_eq_true rfl⟩ (cs_lt 22 1 0 (by decide) hM) (cs_k 22 1 0 (by decide) hM) rfl (Nat.le_of_ble_eq_true rfl) dX11_hurl_40 ⟨Nat.zero_le _, Nat.zero_le _⟩ ?_
    generalize er3 : f_X1_fallToHand r2 22 = r3
    have hM : CS r3 := CS.of (by rw [← er3]; exact q_X1_fallToHand _ _) hM
    refine aw_aload_n hC 0 dX11_hurl_43 rfl rfl ?_
    refine aw_getP (b := 34) hC hSt 4 (cs_lt 0 11 0 (by decide) hM) (cs_k 0 11 0 (by decide) hM) rfl (by decide) w_681 rfl (cs_p 0 4 34 (by decide) hM) dX11_hurl_44 ?_
    refine aw_getI hC hSt 0 (cs_lt 34 9 0 (by decide) hM) (cs_k 34 9 0 (by decide) hM) rfl (by decide) w_791 rfl dX11_hurl_47 ?_
    refine aw_cut (S' := r3) (pc' := 75) (lv' := [(0, .ref 0), (1, .int a1), (2, .int a2)]) (st' := [.long (if (gI r3 34 0) ≤ 0 then ((-(gI r3 34 1)) - (1 : Int32)).toInt64 else (gI r3 34 0).toInt64)]) ?_ (fun Jc4 => ?_)
    · generalize ex5 : (if (gI r3 34 0) ≤ 0 then ((-(gI r3 34 1)) - (1 : Int32)).toInt64 else (gI r3 34 0).toInt64) = x5
      refine aw_lret hC dX11_hurl_75 (Nat.le_refl _) (Nat.le_refl _) ?_
      exact FP.qJ ((if_neg c1).trans ((bd_eq er2).trans ((bd_eq er3).trans ((bd_eq ex5).trans (rfl)))))
    · refine aw_if_le hC 64 dX11_hurl_50 (by decide) (fun c4 => ?_) (fun c4 => ?_)
      · refine aw_aload_n hC 0 dX11_hurl_64 rfl rfl ?_
        refine aw_getP (b := 34) hC hSt 4 (cs_lt 0 11 0 (by decide) hM) (cs_k 0 11 0 (by decide) hM) rfl (by decide) w_681 rfl (cs_p 0 4 34 (by decide) hM) dX11_hurl_65 ?_
        refine aw_getI hC hSt 1 (cs_lt 34 9 0 (by decide) hM) (cs_k 34 9 0 (by decide) hM) rfl (by decide) w_792 rfl dX11_hurl_68 ?_
        refine aw_ineg hC dX11_hurl_71 ?_
        refine aw_iconst (v := 1) hC dX11_hurl_72 (by decide) ?_
        refine aw_isub hC dX11_hurl_73 ?_
        refine aw_i2l hC dX11_hurl_74 ?_
        simp only [bd_def, if_pos c4] at Jc4 ⊢
        exact Jc4
      · refine aw_aload_n hC 0 dX11_hurl_53 rfl rfl ?_
        refine aw_getP (b := 34) hC hSt 4 (cs_lt 0 11 0 (by decide) hM) (cs_k 0 11 0 (by decide) hM) rfl (by decide) w_681 rfl (cs_p 0 4 34 (by decide) hM) dX11_hurl_54 ?_
        refine aw_getI hC hSt 0 (cs_lt 34 9 0 (by decide) hM) (cs_k 34 9 0 (by decide) hM) rfl (by decide) w_791 rfl dX11_hurl_57 ?_
        refine aw_i2l hC dX11_hurl_60 ?_
        refine aw_goto hC 75 dX11_hurl_61 (by decide) ?_
        simp only [bd_def, if_neg c4] at Jc4 ⊢
        exact Jc4
  · refine aw_ldc2 (v := -9000000000000000001) hC w_710 dX11_hurl_9 ?_
    refine aw_lret hC dX11_hurl_12 (Nat.le_refl _) (Nat.le_refl _) ?_
    exact FP.qJ ((if_pos c1).trans (rfl))
theorem q_X11_hurl (S : HSt) (_o0 : Nat) (a1 : Int32) (a2 : Int32) : shp ((f_X11_hurl S _o0 a1 a2).2) = shp S := by
  unfold f_X11_hurl
  repeat' (first | with_reducible refine shpr1 ?_ | with_reducible rfl | with_reducible refine (q_X1_fallToHand _ _).trans ?_ | with_reducible refine (q_X9_aim _ _ _ _ _ _).trans ?_ | with_reducible refine (shp_sI _ _ _ _).trans ?_ | with_reducible refine (shp_sJ _ _ _ _).trans ?_ | with_reducible refine (shp_rI _ _ _).trans ?_ | with_reducible refine shi ?_ ?_ | with_reducible refine shb (fun _ _ => ?_) | with_reducible refine shiP (fun q : Int64 × HSt => q.2) ?_ ?_ | with_reducible refine shbP (fun q : Int64 × HSt => q.2) (fun _ _ => ?_) | (subst_vars; with_reducible rfl) | (subst_vars; with_reducible refine (q_X1_fallToHand _ _).trans ?_) | (subst_vars; with_reducible refine (q_X9_aim _ _ _ _ _ _).trans ?_) | (subst_vars; with_reducible refine (shp_sI _ _ _ _).trans ?_) | (subst_vars; with_reducible refine (shp_sJ _ _ _ _).trans ?_) | (subst_vars; with_reducible refine (shp_rI _ _ _).trans ?_) | (subst_vars; with_reducible refine shi ?_ ?_) | (subst_vars; with_reducible refine shb (fun _ _ => ?_)))
theorem v_X11_hurl (S : HSt) (_o0 : Nat) (a1 : Int32) (a2 : Int32) : Fr [(22, 0), (22, 1), (22, 2), (22, 4), (22, 5), (22, 6), (34, 0), (34, 1), (34, 10), (34, 2), (34, 3), (34, 4), (34, 5), (34, 6), (34, 7), (34, 8), (34, 9)] S ((f_X11_hurl S _o0 a1 a2).2) := by
  unfold f_X11_hurl
  repeat' (first | with_reducible refine frpr1 ?_ | with_reducible exact Fr.refl _ _ | with_reducible refine Fr.lP (fun q : Int64 × HSt => q.2) (fun _ _ => ?_) | with_reducible refine Fr.iteP (fun q : Int64 × HSt => q.2) ?_ ?_ | with_reducible refine Fr.l1 (fun _ _ => ?_) | with_reducible refine Fr.ite ?_ ?_ | with_reducible refine Fr.sE (by assumption) (by first | decide | simp only [List.mem_cons, List.not_mem_nil, or_false, true_or, or_true, eq_self_iff_true]) ?_ | with_reducible refine Fr.jE (by assumption) ?_ | with_reducible refine Fr.rE (by assumption) (by first | decide | simp only [List.mem_cons, List.not_mem_nil, or_false, true_or, or_true, eq_self_iff_true]) ?_ | with_reducible refine Fr.iE (by assumption) ?_ ?_ | with_reducible refine Fr.tr (w_X1_fallToHand _ _ _ (by assumption)) (by first | decide | simp only [List.mem_cons, List.not_mem_nil, or_false, forall_eq_or_imp, forall_eq, true_or, or_true, and_self, eq_self_iff_true]) ?_ | with_reducible refine Fr.tr (w_X9_aim _ _ _ _ _ _ _ (by assumption)) (by first | decide | simp only [List.mem_cons, List.not_mem_nil, or_false, forall_eq_or_imp, forall_eq, true_or, or_true, and_self, eq_self_iff_true]) ?_)
theorem w_X11_hurl (S : HSt) (_o0 : Nat) (a1 : Int32) (a2 : Int32) (r : Int64 × HSt) (e : f_X11_hurl S _o0 a1 a2 = r) : Fr [(22, 0), (22, 1), (22, 2), (22, 4), (22, 5), (22, 6), (34, 0), (34, 1), (34, 10), (34, 2), (34, 3), (34, 4), (34, 5), (34, 6), (34, 7), (34, 8), (34, 9)] S r.2 := by
  rw [← e]
  exact v_X11_hurl S _o0 a1 a2
noncomputable def f_X11_close (S : HSt) (_o0 : Nat) : Int64 × HSt := if (gI S 18 2) = 0 then (pr ((-9000000000000000002 : Int64)) (S)) else (bd (f_X1_gather S 22) fun r2 => pr ((gI r2 22 4).toInt64) (r2))
set_option maxRecDepth 100000 in
theorem t_X11_close (G : GG) (l : Launch) {S : HSt} (hM : CS S)    : AM G l yX11_close cX11_close 1 (some .long) (rmD 2 0 0) 0 0 [.ref 0] S (FP (some (.long (f_X11_close S 0).1)) ((f_X11_close S 0).2)) := by
  refine AM.mk (by decide) (Nat.le_of_ble_eq_true rfl) ?_
  intro p e s m below meth c hC hSt _
  refine aw_aload_n hC 0 dX11_close_0 rfl rfl ?_
  refine aw_getP (b := 18) hC hSt 2 (cs_lt 0 11 0 (by decide) hM) (cs_k 0 11 0 (by decide) hM) rfl (by decide) w_678 rfl (cs_p 0 2 18 (by decide) hM) dX11_close_1 ?_
  refine aw_getI hC hSt 2 (cs_lt 18 7 0 (by decide) hM) (cs_k 18 7 0 (by decide) hM) rfl (by decide) w_783 rfl dX11_close_4 ?_
  refine aw_if_ne hC 14 dX11_close_7 (by decide) (fun c1 => ?_) (fun c1 => ?_)
  · refine aw_aload_n hC 0 dX11_close_14 rfl rfl ?_
    refine aw_getP (b := 18) hC hSt 2 (cs_lt 0 11 0 (by decide) hM) (cs_k 0 11 0 (by decide) hM) rfl (by decide) w_678 rfl (cs_p 0 2 18 (by decide) hM) dX11_close_15 ?_
    refine aw_getP (b := 22) hC hSt 1 (cs_lt 18 7 0 (by decide) hM) (cs_k 18 7 0 (by decide) hM) rfl (by decide) w_784 rfl (cs_p 18 1 22 (by decide) hM) dX11_close_18 ?_
    refine aw_cV0v hC hSt (t_X1_gather G l hM _ (by decide)) w_85 w_801 w_557 w_558 w_84 rfl rfl (by decide +kernel) ⟨Nat.le_of_ble_eq_true rfl, Nat.le_of_ble_eq_true rfl⟩ (cs_lt 22 1 0 (by decide) hM) (cs_k 22 1 0 (by decide) hM) rfl (Nat.le_of_ble_eq_true rfl) dX11_close_21 ⟨Nat.zero_le _, Nat.zero_le _⟩ ?_
    generalize er2 : f_X1_gather S 22 = r2
    have hM : CS r2 := CS.of (by rw [← er2]; exact q_X1_gather _ _) hM
    refine aw_aload_n hC 0 dX11_close_24 rfl rfl ?_
    refine aw_getP (b := 18) hC hSt 2 (cs_lt 0 11 0 (by decide) hM) (cs_k 0 11 0 (by decide) hM) rfl (by decide) w_678 rfl (cs_p 0 2 18 (by decide) hM) dX11_close_25 ?_
    refine aw_getP (b := 22) hC hSt 1 (cs_lt 18 7 0 (by decide) hM) (cs_k 18 7 0 (by decide) hM) rfl (by decide) w_784 rfl (cs_p 18 1 22 (by decide) hM) dX11_close_28 ?_
    refine aw_getI hC hSt 4 (cs_lt 22 1 0 (by decide) hM) (cs_k 22 1 0 (by decide) hM) rfl (by decide) w_800 rfl dX11_close_31 ?_
    refine aw_i2l hC dX11_close_34 ?_
    refine aw_lret hC dX11_close_35 (Nat.le_refl _) (Nat.le_refl _) ?_
    exact FP.qJ ((if_neg c1).trans ((bd_eq er2).trans (rfl)))
  · refine aw_ldc2 (v := -9000000000000000002) hC w_785 dX11_close_10 ?_
    refine aw_lret hC dX11_close_13 (Nat.le_refl _) (Nat.le_refl _) ?_
    exact FP.qJ ((if_pos c1).trans (rfl))
theorem q_X11_close (S : HSt) (_o0 : Nat) : shp ((f_X11_close S _o0).2) = shp S := by
  unfold f_X11_close
  repeat' (first | with_reducible refine shpr1 ?_ | with_reducible rfl | with_reducible refine (q_X1_gather _ _).trans ?_ | with_reducible refine (shp_sI _ _ _ _).trans ?_ | with_reducible refine (shp_sJ _ _ _ _).trans ?_ | with_reducible refine (shp_rI _ _ _).trans ?_ | with_reducible refine shi ?_ ?_ | with_reducible refine shb (fun _ _ => ?_) | with_reducible refine shiP (fun q : Int64 × HSt => q.2) ?_ ?_ | with_reducible refine shbP (fun q : Int64 × HSt => q.2) (fun _ _ => ?_) | (subst_vars; with_reducible rfl) | (subst_vars; with_reducible refine (q_X1_gather _ _).trans ?_) | (subst_vars; with_reducible refine (shp_sI _ _ _ _).trans ?_) | (subst_vars; with_reducible refine (shp_sJ _ _ _ _).trans ?_) | (subst_vars; with_reducible refine (shp_rI _ _ _).trans ?_) | (subst_vars; with_reducible refine shi ?_ ?_) | (subst_vars; with_reducible refine shb (fun _ _ => ?_)))
theorem v_X11_close (S : HSt) (_o0 : Nat) : Fr [(22, 0), (22, 1), (22, 2), (22, 3), (22, 4), (22, 5), (22, 6)] S ((f_X11_close S _o0).2) := by
  unfold f_X11_close
  repeat' (first | with_reducible refine frpr1 ?_ | with_reducible exact Fr.refl _ _ | with_reducible refine Fr.lP (fun q : Int64 × HSt => q.2) (fun _ _ => ?_) | with_reducible refine Fr.iteP (fun q : Int64 × HSt => q.2) ?_ ?_ | with_reducible refine Fr.l1 (fun _ _ => ?_) | with_reducible refine Fr.ite ?_ ?_ | with_reducible refine Fr.sE (by assumption) (by first | decide | simp only [List.mem_cons, List.not_mem_nil, or_false, true_or, or_true, eq_self_iff_true]) ?_ | with_reducible refine Fr.jE (by assumption) ?_ | with_reducible refine Fr.rE (by assumption) (by first | decide | simp only [List.mem_cons, List.not_mem_nil, or_false, true_or, or_true, eq_self_iff_true]) ?_ | with_reducible refine Fr.iE (by assumption) ?_ ?_ | with_reducible refine Fr.tr (w_X1_gather _ _ _ (by assumption)) (by first | decide | simp only [List.mem_cons, List.not_mem_nil, or_false, forall_eq_or_imp, forall_eq, true_or, or_true, and_self, eq_self_iff_true]) ?_)
theorem w_X11_close (S : HSt) (_o0 : Nat) (r : Int64 × HSt) (e : f_X11_close S _o0 = r) : Fr [(22, 0), (22, 1), (22, 2), (22, 3), (22, 4), (22, 5), (22, 6)] S r.2 := by
  rw [← e]
  exact v_X11_close S _o0
noncomputable def F_X11_now (S : HSt) (_o0 : Nat) (a1 : Int32) : Int64 × HSt := if (f_X11_within S a1 (0 : Int32) (6 : Int32)) = 0 then (pr ((-9000000000000000001 : Int64)) (S)) else (if (gI S 18 2) = 0 then (pr ((-9000000000000000002 : Int64)) (S)) else (bd ((if a1 = (6 : Int32) then (gI S 22 5).toInt64 else (f_X1_tell S 22 a1).toInt64)) fun x4 => pr (x4) (S)))
noncomputable def f_X11_now (S : HSt) (_o0 : Nat) (a1 : Int32) : Int64 := (F_X11_now S _o0 a1).1
set_option maxRecDepth 100000 in
theorem t_X11_now (G : GG) (l : Launch) {S : HSt} (hM : CS S) (a1 : Int32)   : AM G l yX11_now cX11_now 2 (some .long) (rmD 1 0 0) 0 0 [.ref 0, .int a1] S (FP (some (.long (f_X11_now S 0 a1))) (S)) := by
  refine AM.mk (by decide) (Nat.le_of_ble_eq_true rfl) ?_
  intro p e s m below meth c hC hSt _
  refine aw_iload_n hC 1 dX11_now_0 rfl rfl ?_
  refine aw_iconst (v := 0) hC dX11_now_1 (by decide) ?_
  refine aw_bipush (v := 6) hC dX11_now_2 (by decide) ?_
  refine aw_cS3r hC hSt (t_X11_within G l  _ _ _) w_706 w_712 w_713 w_517 rfl rfl (by decide +kernel) ⟨Nat.le_of_ble_eq_true rfl, Nat.le_of_ble_eq_true rfl⟩ (Nat.le_of_ble_eq_true rfl) dX11_now_4 ⟨Nat.zero_le _, Nat.zero_le _⟩ ?_
  refine aw_if_ne hC 14 dX11_now_7 (by decide) (fun c1 => ?_) (fun c1 => ?_)
  · refine aw_aload_n hC 0 dX11_now_14 rfl rfl ?_
    refine aw_getP (b := 18) hC hSt 2 (cs_lt 0 11 0 (by decide) hM) (cs_k 0 11 0 (by decide) hM) rfl (by decide) w_678 rfl (cs_p 0 2 18 (by decide) hM) dX11_now_15 ?_
    refine aw_getI hC hSt 2 (cs_lt 18 7 0 (by decide) hM) (cs_k 18 7 0 (by decide) hM) rfl (by decide) w_783 rfl dX11_now_18 ?_
    refine aw_if_ne hC 28 dX11_now_21 (by decide) (fun c2 => ?_) (fun c2 => ?_)
    · refine aw_iload_n hC 1 dX11_now_28 rfl rfl ?_
      refine aw_bipush (v := 6) hC dX11_now_29 (by decide) ?_
      refine aw_cut (S' := S) (pc' := 60) (lv' := [(0, .ref 0), (1, .int a1)]) (st' := [.long (if a1 = (6 : Int32) then (gI S 22 5).toInt64 else (f_X1_tell S 22 a1).toInt64)]) ?_ (fun Jc3 => ?_)
      · generalize ex4 : (if a1 = (6 : Int32) then (gI S 22 5).toInt64 else (f_X1_tell S 22 a1).toInt64) = x4
        refine aw_lret hC dX11_now_60 (Nat.le_refl _) (Nat.le_refl _) ?_
        exact FP.pJ ((if_neg c1).trans ((if_neg c2).trans ((bd_eq ex4).trans (rfl))))
      · refine aw_icmp_ne hC 48 dX11_now_31 (by decide) (fun c3 => ?_) (fun c3 => ?_)
        · refine aw_aload_n hC 0 dX11_now_48 rfl rfl ?_
          refine aw_getP (b := 18) hC hSt 2 (cs_lt 0 11 0 (by decide) hM) (cs_k 0 11 0 (by decide) hM) rfl (by decide) w_678 rfl (cs_p 0 2 18 (by decide) hM) dX11_now_49 ?_
          refine aw_getP (b := 22) hC hSt 1 (cs_lt 18 7 0 (by decide) hM) (cs_k 18 7 0 (by decide) hM) rfl (by decide) w_784 rfl (cs_p 18 1 22 (by decide) hM) dX11_now_52 ?_
          refine aw_iload_n hC 1 dX11_now_55 rfl rfl ?_
          refine aw_cV1r hC hSt (t_X1_tell G l hM _ _ (by decide)) w_125 w_803 w_804 w_805 w_84 rfl rfl (by decide +kernel) ⟨Nat.le_of_ble_eq_true rfl, Nat.le_of_ble_eq_true rfl⟩ (cs_lt 22 1 0 (by decide) hM) (cs_k 22 1 0 (by decide) hM) rfl (Nat.le_of_ble_eq_true rfl) dX11_now_56 ⟨Nat.zero_le _, Nat.zero_le _⟩ ?_
          refine aw_i2l hC dX11_now_59 ?_
          simp only [bd_def, if_neg c3] at Jc3 ⊢
          exact Jc3
        · refine aw_aload_n hC 0 dX11_now_34 rfl rfl ?_
          refine aw_getP (b := 18) hC hSt 2 (cs_lt 0 11 0 (by decide) hM) (cs_k 0 11 0 (by decide) hM) rfl (by decide) w_678 rfl (cs_p 0 2 18 (by decide) hM) dX11_now_35 ?_
          refine aw_getP (b := 22) hC hSt 1 (cs_lt 18 7 0 (by decide) hM) (cs_k 18 7 0 (by decide) hM) rfl (by decide) w_784 rfl (cs_p 18 1 22 (by decide) hM) dX11_now_38 ?_
          refine aw_getI hC hSt 5 (cs_lt 22 1 0 (by decide) hM) (cs_k 22 1 0 (by decide) hM) rfl (by decide) w_786 rfl dX11_now_41 ?_
          refine aw_i2l hC dX11_now_44 ?_
          refine aw_goto hC 60 dX11_now_45 (by decide) ?_
          simp only [bd_def, if_pos c3] at Jc3 ⊢
          exact Jc3
    · refine aw_ldc2 (v := -9000000000000000002) hC w_785 dX11_now_24 ?_
      refine aw_lret hC dX11_now_27 (Nat.le_refl _) (Nat.le_refl _) ?_
      exact FP.pJ ((if_neg c1).trans ((if_pos c2).trans (rfl)))
  · refine aw_ldc2 (v := -9000000000000000001) hC w_710 dX11_now_10 ?_
    refine aw_lret hC dX11_now_13 (Nat.le_refl _) (Nat.le_refl _) ?_
    exact FP.pJ ((if_pos c1).trans (rfl))
noncomputable def F_X11_piece (S : HSt) (_o0 : Nat) (a1 : Int32) : Int64 × HSt := if (gI S 18 2) = 0 then (pr ((-9000000000000000002 : Int64)) (S)) else (if a1 < 0 then (pr ((-9000000000000000001 : Int64)) (S)) else (if a1 < (f_X7_pieces S 18) then (pr ((f_X1_whereIs S 22 a1).toInt64) (S)) else (pr ((-9000000000000000001 : Int64)) (S))))
noncomputable def f_X11_piece (S : HSt) (_o0 : Nat) (a1 : Int32) : Int64 := (F_X11_piece S _o0 a1).1
set_option maxRecDepth 100000 in
theorem t_X11_piece (G : GG) (l : Launch) {S : HSt} (hM : CS S) (a1 : Int32)   : AM G l yX11_piece cX11_piece 2 (some .long) (rmD 1 0 0) 0 0 [.ref 0, .int a1] S (FP (some (.long (f_X11_piece S 0 a1))) (S)) := by
  refine AM.mk (by decide) (Nat.le_of_ble_eq_true rfl) ?_
  intro p e s m below meth c hC hSt _
  refine aw_aload_n hC 0 dX11_piece_0 rfl rfl ?_
  refine aw_getP (b := 18) hC hSt 2 (cs_lt 0 11 0 (by decide) hM) (cs_k 0 11 0 (by decide) hM) rfl (by decide) w_678 rfl (cs_p 0 2 18 (by decide) hM) dX11_piece_1 ?_
  refine aw_getI hC hSt 2 (cs_lt 18 7 0 (by decide) hM) (cs_k 18 7 0 (by decide) hM) rfl (by decide) w_783 rfl dX11_piece_4 ?_
  refine aw_if_ne hC 14 dX11_piece_7 (by decide) (fun c1 => ?_) (fun c1 => ?_)
  · refine aw_iload_n hC 1 dX11_piece_14 rfl rfl ?_
    refine aw_if_lt hC 29 dX11_piece_15 (by decide) (fun c2 => ?_) (fun c2 => ?_)
    · refine aw_ldc2 (v := -9000000000000000001) hC w_710 dX11_piece_29 ?_
      refine aw_lret hC dX11_piece_32 (Nat.le_refl _) (Nat.le_refl _) ?_
      exact FP.pJ ((if_neg c1).trans ((if_pos c2).trans (rfl)))
    · refine aw_iload_n hC 1 dX11_piece_18 rfl rfl ?_
      refine aw_aload_n hC 0 dX11_piece_19 rfl rfl ?_
      refine aw_getP (b := 18) hC hSt 2 (cs_lt 0 11 0 (by decide) hM) (cs_k 0 11 0 (by decide) hM) rfl (by decide) w_678 rfl (cs_p 0 2 18 (by decide) hM) dX11_piece_20 ?_
      refine aw_cV0r hC hSt (t_X7_pieces G l hM _ (by decide)) w_600 w_807 w_808 w_809 w_114 rfl rfl (by decide +kernel) ⟨Nat.le_of_ble_eq_true rfl, Nat.le_of_ble_eq_true rfl⟩ (cs_lt 18 7 0 (by decide) hM) (cs_k 18 7 0 (by decide) hM) rfl (Nat.le_of_ble_eq_true rfl) dX11_piece_23 ⟨Nat.zero_le _, Nat.zero_le _⟩ ?_
      refine aw_icmp_lt hC 33 dX11_piece_26 (by decide) (fun c3 => ?_) (fun c3 => ?_)
      · refine aw_aload_n hC 0 dX11_piece_33 rfl rfl ?_
        refine aw_getP (b := 18) hC hSt 2 (cs_lt 0 11 0 (by decide) hM) (cs_k 0 11 0 (by decide) hM) rfl (by decide) w_678 rfl (cs_p 0 2 18 (by decide) hM) dX11_piece_34 ?_
        refine aw_getP (b := 22) hC hSt 1 (cs_lt 18 7 0 (by decide) hM) (cs_k 18 7 0 (by decide) hM) rfl (by decide) w_784 rfl (cs_p 18 1 22 (by decide) hM) dX11_piece_37 ?_
        refine aw_iload_n hC 1 dX11_piece_40 rfl rfl ?_
        refine aw_cV1r hC hSt (t_X1_whereIs G l hM _ _ (by decide)) w_126 w_810 w_811 w_812 w_84 rfl rfl (by decide +kernel) ⟨Nat.le_of_ble_eq_true rfl, Nat.le_of_ble_eq_true rfl⟩ (cs_lt 22 1 0 (by decide) hM) (cs_k 22 1 0 (by decide) hM) rfl (Nat.le_of_ble_eq_true rfl) dX11_piece_41 ⟨Nat.zero_le _, Nat.zero_le _⟩ ?_
        refine aw_i2l hC dX11_piece_44 ?_
        refine aw_lret hC dX11_piece_45 (Nat.le_refl _) (Nat.le_refl _) ?_
        exact FP.pJ ((if_neg c1).trans ((if_neg c2).trans ((if_pos c3).trans (rfl))))
      · refine aw_ldc2 (v := -9000000000000000001) hC w_710 dX11_piece_29 ?_
        refine aw_lret hC dX11_piece_32 (Nat.le_refl _) (Nat.le_refl _) ?_
        exact FP.pJ ((if_neg c1).trans ((if_neg c2).trans ((if_neg c3).trans (rfl))))
  · refine aw_ldc2 (v := -9000000000000000002) hC w_785 dX11_piece_10 ?_
    refine aw_lret hC dX11_piece_13 (Nat.le_refl _) (Nat.le_refl _) ?_
    exact FP.pJ ((if_pos c1).trans (rfl))
noncomputable def f_X11_odds (S : HSt) (_o0 : Nat) (a1 : Int32) (a2 : Int32) (a3 : Int32) : Int64 × HSt := if (f_X11_canThrow S 0 a1 a2) = 0 then (pr ((-9000000000000000001 : Int64)) (S)) else (if (f_X11_within S a3 (0 : Int32) (1 : Int32)) = 0 then (pr ((-9000000000000000001 : Int64)) (S)) else (bd (f_X9_aim S 34 18 22 a1 a2) fun r3 => pr ((f_X11_lowest r3 (gI r3 34 2).toInt64 (gI r3 34 3).toInt64 a3)) (r3)))
def p_X11_odds (S : HSt) (_o0 : Nat) (a1 : Int32) (a2 : Int32) (a3 : Int32) : Prop := (p_X11_canThrow S 0 a1 a2) ∧ ((¬ (f_X11_canThrow S 0 a1 a2) = 0) → (¬ (f_X11_within S a3 (0 : Int32) (1 : Int32)) = 0) → p_X9_aim S 34 18 22 a1 a2) ∧ ((¬ (f_X11_canThrow S 0 a1 a2) = 0) → (¬ (f_X11_within S a3 (0 : Int32) (1 : Int32)) = 0) → ∀ r3, f_X9_aim S 34 18 22 a1 a2 = r3 → p_X11_lowest r3 (gI r3 34 2).toInt64 (gI r3 34 3).toInt64 a3)
set_option maxRecDepth 100000 in
theorem t_X11_odds (G : GG) (l : Launch) {S : HSt} (hM : CS S) (a1 : Int32) (a2 : Int32) (a3 : Int32)  (hp : p_X11_odds S 0 a1 a2 a3) : AM G l yX11_odds cX11_odds 4 (some .long) (rmD 4 0 0) 0 0 [.ref 0, .int a1, .int a2, .int a3] S (FP (some (.long (f_X11_odds S 0 a1 a2 a3).1)) ((f_X11_odds S 0 a1 a2 a3).2)) := by
  obtain ⟨h0, h1, h2⟩ := hp
  refine AM.mk (by decide) (Nat.le_of_ble_eq_true rfl) ?_
  intro p e s m below meth c hC hSt _
  refine aw_aload_n hC 0 dX11_odds_0 rfl rfl ?_
  refine aw_iload_n hC 1 dX11_odds_1 rfl rfl ?_
  refine aw_iload_n hC 2 dX11_odds_2 rfl rfl ?_
  refine aw_cV2r hC hSt (t_X11_canThrow G l hM _ _ (h0)) w_790 w_793 w_794 w_795 w_517 rfl rfl (by decide +kernel) ⟨Nat.le_of_ble_eq_true rfl, Nat.le_of_ble_eq_true rfl⟩ (cs_lt 0 11 0 (by decide) hM) (cs_k 0 11 0 (by decide) hM) rfl (Nat.le_of_ble_eq_true rfl) dX11_odds_3 ⟨Nat.zero_le _, Nat.zero_le _⟩ ?_
  refine aw_if_eq hC 18 dX11_odds_6 (by decide) (fun c1 => ?_) (fun c1 => ?_)
  · refine aw_ldc2 (v := -9000000000000000001) hC w_710 dX11_odds_18 ?_
    refine aw_lret hC dX11_odds_21 (Nat.le_refl _) (Nat.le_refl _) ?_
    exact FP.qJ ((if_pos c1).trans (rfl))
  · refine aw_iload_n hC 3 dX11_odds_9 rfl rfl ?_
    refine aw_iconst (v := 0) hC dX11_odds_10 (by decide) ?_
    refine aw_iconst (v := 1) hC dX11_odds_11 (by decide) ?_
    refine aw_cS3r hC hSt (t_X11_within G l  _ _ _) w_706 w_712 w_713 w_517 rfl rfl (by decide +kernel) ⟨Nat.le_of_ble_eq_true rfl, Nat.le_of_ble_eq_true rfl⟩ (Nat.le_of_ble_eq_true rfl) dX11_odds_12 ⟨Nat.zero_le _, Nat.zero_le _⟩ ?_
    refine aw_if_ne hC 22 dX11_odds_15 (by decide) (fun c2 => ?_) (fun c2 => ?_)
    · refine aw_aload_n hC 0 dX11_odds_22 rfl rfl ?_
      refine aw_getP (b := 34) hC hSt 4 (cs_lt 0 11 0 (by decide) hM) (cs_k 0 11 0 (by decide) hM) rfl (by decide) w_681 rfl (cs_p 0 4 34 (by decide) hM) dX11_odds_23 ?_
      refine aw_aload_n hC 0 dX11_odds_26 rfl rfl ?_
      refine aw_getP (b := 18) hC hSt 2 (cs_lt 0 11 0 (by decide) hM) (cs_k 0 11 0 (by decide) hM) rfl (by decide) w_678 rfl (cs_p 0 2 18 (by decide) hM) dX11_odds_27 ?_
      refine aw_aload_n hC 0 dX11_odds_30 rfl rfl ?_
      refine aw_getP (b := 18) hC hSt 2 (cs_lt 0 11 0 (by decide) hM) (cs_k 0 11 0 (by decide) hM) rfl (by decide) w_678 rfl (cs_p 0 2 18 (by decide) hM) dX11_odds_31 ?_
      refine aw_getP (b := 22) hC hSt 1 (cs_lt 18 7 0 (by decide) hM) (cs_k 18 7 0 (by decide) hM) rfl (by decide) w_784 rfl (cs_p 18 1 22 (by decide) hM) dX11_odds_34 ?_
      refine aw_iload_n hC 1 dX11_odds_37 rfl rfl ?_
      refine aw_iload_n hC 2 dX11_odds_38 rfl rfl ?_
      refine aw_cV4v hC hSt (t_X9_aim G l hM _ _ _ _ _ (by decide) (by decide) (by decide) (h1 c1 c2)) w_511 w_796 w_531 w_532 w_140 rfl rfl (by decide +kernel) ⟨Nat.le_of_ble_eq_true rfl, Nat.le_of_ble_eq_true rfl⟩ (cs_lt 34 9 0 (by decide) hM) (cs_k 34 9 0 (by decide) hM) rfl (Nat.le_of_ble_eq_true rfl) dX11_odds_39 ⟨Nat.zero_le _, Nat.zero_le _⟩ ?_
      generalize er3 : f_X9_aim S 34 18 22 a1 a2 = r3
      have hM : CS r3 := CS.of (by rw [← er3]; exact q_X9_aim _ _ _ _ _ _) hM
      refine aw_aload_n hC 0 dX11_odds_42 rfl rfl ?_
      refine aw_getP (b := 34) hC hSt 4 (cs_lt 0 11 0 (by decide) hM) (cs_k 0 11 0 (by decide) hM) rfl (by decide) w_681 rfl (cs_p 0 4 34 (by decide) hM) dX11_odds_43 ?_
      refine aw_getI hC hSt 2 (cs_lt 34 9 0 (by decide) hM) (cs_k 34 9 0 (by decide) hM) rfl (by decide) w_813 rfl dX11_odds_46 ?_
      refine aw_i2l hC dX11_odds_49 ?_
      refine aw_aload_n hC 0 dX11_odds_50 rfl rfl ?_
      refine aw_getP (b := 34) hC hSt 4 (cs_lt 0 11 0 (by decide) hM) (cs_k 0 11 0 (by decide) hM) rfl (by decide) w_681 rfl (cs_p 0 4 34 (by decide) hM) dX11_odds_51 ?_
      refine aw_getI hC hSt 3 (cs_lt 34 9 0 (by decide) hM) (cs_k 34 9 0 (by decide) hM) rfl (by decide) w_814 rfl dX11_odds_54 ?_
      refine aw_i2l hC dX11_odds_57 ?_
      refine aw_iload_n hC 3 dX11_odds_58 rfl rfl ?_
      refine aw_cS3r hC hSt (t_X11_lowest G l  _ _ _ (h2 c1 c2 r3 er3)) w_514 w_815 w_523 w_517 rfl rfl (by decide +kernel) ⟨Nat.le_of_ble_eq_true rfl, Nat.le_of_ble_eq_true rfl⟩ (Nat.le_of_ble_eq_true rfl) dX11_odds_59 ⟨Nat.zero_le _, Nat.zero_le _⟩ ?_
      refine aw_lret hC dX11_odds_62 (Nat.le_refl _) (Nat.le_refl _) ?_
      exact FP.qJ ((if_neg c1).trans ((if_neg c2).trans ((bd_eq er3).trans (rfl))))
    · refine aw_ldc2 (v := -9000000000000000001) hC w_710 dX11_odds_18 ?_
      refine aw_lret hC dX11_odds_21 (Nat.le_refl _) (Nat.le_refl _) ?_
      exact FP.qJ ((if_neg c1).trans ((if_pos c2).trans (rfl)))
theorem q_X11_odds (S : HSt) (_o0 : Nat) (a1 : Int32) (a2 : Int32) (a3 : Int32) : shp ((f_X11_odds S _o0 a1 a2 a3).2) = shp S := by
  unfold f_X11_odds
  repeat' (first | with_reducible refine shpr1 ?_ | with_reducible rfl | with_reducible refine (q_X9_aim _ _ _ _ _ _).trans ?_ | with_reducible refine (shp_sI _ _ _ _).trans ?_ | with_reducible refine (shp_sJ _ _ _ _).trans ?_ | with_reducible refine (shp_rI _ _ _).trans ?_ | with_reducible refine shi ?_ ?_ | with_reducible refine shb (fun _ _ => ?_) | with_reducible refine shiP (fun q : Int64 × HSt => q.2) ?_ ?_ | with_reducible refine shbP (fun q : Int64 × HSt => q.2) (fun _ _ => ?_) | (subst_vars; with_reducible rfl) | (subst_vars; with_reducible refine (q_X9_aim _ _ _ _ _ _).trans ?_) | (subst_vars; with_reducible refine (shp_sI _ _ _ _).trans ?_) | (subst_vars; with_reducible refine (shp_sJ _ _ _ _).trans ?_) | (subst_vars; with_reducible refine (shp_rI _ _ _).trans ?_) | (subst_vars; with_reducible refine shi ?_ ?_) | (subst_vars; with_reducible refine shb (fun _ _ => ?_)))
theorem v_X11_odds (S : HSt) (_o0 : Nat) (a1 : Int32) (a2 : Int32) (a3 : Int32) : Fr [(34, 0), (34, 1), (34, 10), (34, 2), (34, 3), (34, 4), (34, 5), (34, 6), (34, 7), (34, 8), (34, 9)] S ((f_X11_odds S _o0 a1 a2 a3).2) := by
  unfold f_X11_odds
  repeat' (first | with_reducible refine frpr1 ?_ | with_reducible exact Fr.refl _ _ | with_reducible refine Fr.lP (fun q : Int64 × HSt => q.2) (fun _ _ => ?_) | with_reducible refine Fr.iteP (fun q : Int64 × HSt => q.2) ?_ ?_ | with_reducible refine Fr.l1 (fun _ _ => ?_) | with_reducible refine Fr.ite ?_ ?_ | with_reducible refine Fr.sE (by assumption) (by first | decide | simp only [List.mem_cons, List.not_mem_nil, or_false, true_or, or_true, eq_self_iff_true]) ?_ | with_reducible refine Fr.jE (by assumption) ?_ | with_reducible refine Fr.rE (by assumption) (by first | decide | simp only [List.mem_cons, List.not_mem_nil, or_false, true_or, or_true, eq_self_iff_true]) ?_ | with_reducible refine Fr.iE (by assumption) ?_ ?_ | with_reducible refine Fr.tr (w_X9_aim _ _ _ _ _ _ _ (by assumption)) (by first | decide | simp only [List.mem_cons, List.not_mem_nil, or_false, forall_eq_or_imp, forall_eq, true_or, or_true, and_self, eq_self_iff_true]) ?_)
theorem w_X11_odds (S : HSt) (_o0 : Nat) (a1 : Int32) (a2 : Int32) (a3 : Int32) (r : Int64 × HSt) (e : f_X11_odds S _o0 a1 a2 a3 = r) : Fr [(34, 0), (34, 1), (34, 10), (34, 2), (34, 3), (34, 4), (34, 5), (34, 6), (34, 7), (34, 8), (34, 9)] S r.2 := by
  rw [← e]
  exact v_X11_odds S _o0 a1 a2 a3
noncomputable def F_X11_need (S : HSt) (_o0 : Nat) (a1 : Int32) : Int64 × HSt := if (f_X11_within S a1 (0 : Int32) (200 : Int32)) = 0 then (pr ((-9000000000000000001 : Int64)) (S)) else (bd ((if (gI S 18 2) = 0 then (-9000000000000000002 : Int64) else (f_X7_needOf S 18 a1).toInt64)) fun x3 => pr (x3) (S))
noncomputable def f_X11_need (S : HSt) (_o0 : Nat) (a1 : Int32) : Int64 := (F_X11_need S _o0 a1).1
set_option maxRecDepth 100000 in
theorem t_X11_need (G : GG) (l : Launch) {S : HSt} (hM : CS S) (a1 : Int32)   : AM G l yX11_need cX11_need 2 (some .long) (rmD 2 0 0) 0 0 [.ref 0, .int a1] S (FP (some (.long (f_X11_need S 0 a1))) (S)) := by
  refine AM.mk (by decide) (Nat.le_of_ble_eq_true rfl) ?_
  intro p e s m below meth c hC hSt _
  refine aw_iload_n hC 1 dX11_need_0 rfl rfl ?_
  refine aw_iconst (v := 0) hC dX11_need_1 (by decide) ?_
  refine aw_sipush (v := 200) hC dX11_need_2 (by decide) ?_
  refine aw_cS3r hC hSt (t_X11_within G l  _ _ _) w_706 w_712 w_713 w_517 rfl rfl (by decide +kernel) ⟨Nat.le_of_ble_eq_true rfl, Nat.le_of_ble_eq_true rfl⟩ (Nat.le_of_ble_eq_true rfl) dX11_need_5 ⟨Nat.zero_le _, Nat.zero_le _⟩ ?_
  refine aw_if_ne hC 15 dX11_need_8 (by decide) (fun c1 => ?_) (fun c1 => ?_)
  · refine aw_aload_n hC 0 dX11_need_15 rfl rfl ?_
    refine aw_getP (b := 18) hC hSt 2 (cs_lt 0 11 0 (by decide) hM) (cs_k 0 11 0 (by decide) hM) rfl (by decide) w_678 rfl (cs_p 0 2 18 (by decide) hM) dX11_need_16 ?_
    refine aw_getI hC hSt 2 (cs_lt 18 7 0 (by decide) hM) (cs_k 18 7 0 (by decide) hM) rfl (by decide) w_783 rfl dX11_need_19 ?_
    refine aw_cut (S' := S) (pc' := 40) (lv' := [(0, .ref 0), (1, .int a1)]) (st' := [.long (if (gI S 18 2) = 0 then (-9000000000000000002 : Int64) else (f_X7_needOf S 18 a1).toInt64)]) ?_ (fun Jc2 => ?_)
    · generalize ex3 : (if (gI S 18 2) = 0 then (-9000000000000000002 : Int64) else (f_X7_needOf S 18 a1).toInt64) = x3
      refine aw_lret hC dX11_need_40 (Nat.le_refl _) (Nat.le_refl _) ?_
      exact FP.pJ ((if_neg c1).trans ((bd_eq ex3).trans (rfl)))
    · refine aw_if_eq hC 37 dX11_need_22 (by decide) (fun c2 => ?_) (fun c2 => ?_)
      · refine aw_ldc2 (v := -9000000000000000002) hC w_785 dX11_need_37 ?_
        simp only [bd_def, if_pos c2] at Jc2 ⊢
        exact Jc2
      · refine aw_aload_n hC 0 dX11_need_25 rfl rfl ?_
        refine aw_getP (b := 18) hC hSt 2 (cs_lt 0 11 0 (by decide) hM) (cs_k 0 11 0 (by decide) hM) rfl (by decide) w_678 rfl (cs_p 0 2 18 (by decide) hM) dX11_need_26 ?_
        refine aw_iload_n hC 1 dX11_need_29 rfl rfl ?_
        refine aw_cV1r hC hSt (t_X7_needOf G l hM _ _ (by decide)) w_100 w_818 w_112 w_113 w_114 rfl rfl (by decide +kernel) ⟨Nat.le_of_ble_eq_true rfl, Nat.le_of_ble_eq_true rfl⟩ (cs_lt 18 7 0 (by decide) hM) (cs_k 18 7 0 (by decide) hM) rfl (Nat.le_of_ble_eq_true rfl) dX11_need_30 ⟨Nat.zero_le _, Nat.zero_le _⟩ ?_
        refine aw_i2l hC dX11_need_33 ?_
        refine aw_goto hC 40 dX11_need_34 (by decide) ?_
        simp only [bd_def, if_neg c2] at Jc2 ⊢
        exact Jc2
  · refine aw_ldc2 (v := -9000000000000000001) hC w_710 dX11_need_11 ?_
    refine aw_lret hC dX11_need_14 (Nat.le_refl _) (Nat.le_refl _) ?_
    exact FP.pJ ((if_pos c1).trans (rfl))
noncomputable def F_X11_greatest (S : HSt) (_o0 : Nat) (a1 : Int32) : Int64 × HSt := if (f_X11_within S a1 (0 : Int32) (15 : Int32)) = 0 then (pr ((-9000000000000000001 : Int64)) (S)) else (bd ((if (gI S 18 2) = 0 then (-9000000000000000002 : Int64) else (f_X7_greatestOpen S 18 a1).toInt64)) fun x3 => pr (x3) (S))
noncomputable def f_X11_greatest (S : HSt) (_o0 : Nat) (a1 : Int32) : Int64 := (F_X11_greatest S _o0 a1).1
def p_X11_greatest (S : HSt) (_o0 : Nat) (a1 : Int32) : Prop := ((¬ (f_X11_within S a1 (0 : Int32) (15 : Int32)) = 0) → (¬ (gI S 18 2) = 0) → p_X7_greatestOpen S 18 a1)
set_option maxRecDepth 100000 in
theorem t_X11_greatest (G : GG) (l : Launch) {S : HSt} (hM : CS S) (a1 : Int32)  (hp : p_X11_greatest S 0 a1) : AM G l yX11_greatest cX11_greatest 2 (some .long) (rmD 3 0 0) 0 0 [.ref 0, .int a1] S (FP (some (.long (f_X11_greatest S 0 a1))) (S)) := by
  have h0 := hp
  unfold p_X11_greatest at h0
  refine AM.mk (by decide) (Nat.le_of_ble_eq_true rfl) ?_
  intro p e s m below meth c hC hSt _
  refine aw_iload_n hC 1 dX11_greatest_0 rfl rfl ?_
  refine aw_iconst (v := 0) hC dX11_greatest_1 (by decide) ?_
  refine aw_bipush (v := 15) hC dX11_greatest_2 (by decide) ?_
  refine aw_cS3r hC hSt (t_X11_within G l  _ _ _) w_706 w_712 w_713 w_517 rfl rfl (by decide +kernel) ⟨Nat.le_of_ble_eq_true rfl, Nat.le_of_ble_eq_true rfl⟩ (Nat.le_of_ble_eq_true rfl) dX11_greatest_4 ⟨Nat.zero_le _, Nat.zero_le _⟩ ?_
  refine aw_if_ne hC 14 dX11_greatest_7 (by decide) (fun c1 => ?_) (fun c1 => ?_)
  · refine aw_aload_n hC 0 dX11_greatest_14 rfl rfl ?_
    refine aw_getP (b := 18) hC hSt 2 (cs_lt 0 11 0 (by decide) hM) (cs_k 0 11 0 (by decide) hM) rfl (by decide) w_678 rfl (cs_p 0 2 18 (by decide) hM) dX11_greatest_15 ?_
    refine aw_getI hC hSt 2 (cs_lt 18 7 0 (by decide) hM) (cs_k 18 7 0 (by decide) hM) rfl (by decide) w_783 rfl dX11_greatest_18 ?_
    refine aw_cut (S' := S) (pc' := 39) (lv' := [(0, .ref 0), (1, .int a1)]) (st' := [.long (if (gI S 18 2) = 0 then (-9000000000000000002 : Int64) else (f_X7_greatestOpen S 18 a1).toInt64)]) ?_ (fun Jc2 => ?_)
    · generalize ex3 : (if (gI S 18 2) = 0 then (-9000000000000000002 : Int64) else (f_X7_greatestOpen S 18 a1).toInt64) = x3
      refine aw_lret hC dX11_greatest_39 (Nat.le_refl _) (Nat.le_refl _) ?_
      exact FP.pJ ((if_neg c1).trans ((bd_eq ex3).trans (rfl)))
    · refine aw_if_eq hC 36 dX11_greatest_21 (by decide) (fun c2 => ?_) (fun c2 => ?_)
      · refine aw_ldc2 (v := -9000000000000000002) hC w_785 dX11_greatest_36 ?_
        simp only [bd_def, if_pos c2] at Jc2 ⊢
        exact Jc2
      · refine aw_aload_n hC 0 dX11_greatest_24 rfl rfl ?_
        refine aw_getP (b := 18) hC hSt 2 (cs_lt 0 11 0 (by decide) hM) (cs_k 0 11 0 (by decide) hM) rfl (by decide) w_678 rfl (cs_p 0 2 18 (by decide) hM) dX11_greatest_25 ?_
        refine aw_iload_n hC 1 dX11_greatest_28 rfl rfl ?_
        refine aw_cV1r hC hSt (t_X7_greatestOpen G l hM _ _ (by decide) (h0 c1 c2)) w_601 w_820 w_821 w_822 w_114 rfl rfl (by decide +kernel) ⟨Nat.le_of_ble_eq_true rfl, Nat.le_of_ble_eq_true rfl⟩ (cs_lt 18 7 0 (by decide) hM) (cs_k 18 7 0 (by decide) hM) rfl (Nat.le_of_ble_eq_true rfl) dX11_greatest_29 ⟨Nat.zero_le _, Nat.zero_le _⟩ ?_
        refine aw_i2l hC dX11_greatest_32 ?_
        refine aw_goto hC 39 dX11_greatest_33 (by decide) ?_
        simp only [bd_def, if_neg c2] at Jc2 ⊢
        exact Jc2
  · refine aw_ldc2 (v := -9000000000000000001) hC w_710 dX11_greatest_10 ?_
    refine aw_lret hC dX11_greatest_13 (Nat.le_refl _) (Nat.le_refl _) ?_
    exact FP.pJ ((if_pos c1).trans (rfl))
noncomputable def F_X11_out (S : HSt) (_o0 : Nat) (a1 : Int32) (a2 : Int32) : Int64 × HSt := if (f_X11_within S a1 (0 : Int32) (15 : Int32)) = 0 then (pr ((-9000000000000000001 : Int64)) (S)) else (if (f_X11_within S a2 (1 : Int32) (40 : Int32)) = 0 then (pr ((-9000000000000000001 : Int64)) (S)) else (bd ((if (gI S 18 2) = 0 then (-9000000000000000002 : Int64) else (f_X7_leastTurn S 18 a1 a2).toInt64)) fun x4 => pr (x4) (S)))
noncomputable def f_X11_out (S : HSt) (_o0 : Nat) (a1 : Int32) (a2 : Int32) : Int64 := (F_X11_out S _o0 a1 a2).1
def p_X11_out (S : HSt) (_o0 : Nat) (a1 : Int32) (a2 : Int32) : Prop := ((¬ (f_X11_within S a1 (0 : Int32) (15 : Int32)) = 0) → (¬ (f_X11_within S a2 (1 : Int32) (40 : Int32)) = 0) → (¬ (gI S 18 2) = 0) → p_X7_leastTurn S 18 a1 a2)
set_option maxRecDepth 100000 in
theorem t_X11_out (G : GG) (l : Launch) {S : HSt} (hM : CS S) (a1 : Int32) (a2 : Int32)  (hp : p_X11_out S 0 a1 a2) : AM G l yX11_out cX11_out 3 (some .long) (rmD 3 0 0) 0 0 [.ref 0, .int a1, .int a2] S (FP (some (.long (f_X11_out S 0 a1 a2))) (S)) := by
  have h0 := hp
  unfold p_X11_out at h0
  refine AM.mk (by decide) (Nat.le_of_ble_eq_true rfl) ?_
  intro p e s m below meth c hC hSt _
  refine aw_iload_n hC 1 dX11_out_0 rfl rfl ?_
  refine aw_iconst (v := 0) hC dX11_out_1 (by decide) ?_
  refine aw_bipush (v := 15) hC dX11_out_2 (by decide) ?_
  refine aw_cS3r hC hSt (t_X11_within G l  _ _ _) w_706 w_712 w_713 w_517 rfl rfl (by decide +kernel) ⟨Nat.le_of_ble_eq_true rfl, Nat.le_of_ble_eq_true rfl⟩ (Nat.le_of_ble_eq_true rfl) dX11_out_4 ⟨Nat.zero_le _, Nat.zero_le _⟩ ?_
  refine aw_if_eq hC 20 dX11_out_7 (by decide) (fun c1 => ?_) (fun c1 => ?_)
  · refine aw_ldc2 (v := -9000000000000000001) hC w_710 dX11_out_20 ?_
    refine aw_lret hC dX11_out_23 (Nat.le_refl _) (Nat.le_refl _) ?_
    exact FP.pJ ((if_pos c1).trans (rfl))
  · refine aw_iload_n hC 2 dX11_out_10 rfl rfl ?_
    refine aw_iconst (v := 1) hC dX11_out_11 (by decide) ?_
    refine aw_bipush (v := 40) hC dX11_out_12 (by decide) ?_
    refine aw_cS3r hC hSt (t_X11_within G l  _ _ _) w_706 w_712 w_713 w_517 rfl rfl (by decide +kernel) ⟨Nat.le_of_ble_eq_true rfl, Nat.le_of_ble_eq_true rfl⟩ (Nat.le_of_ble_eq_true rfl) dX11_out_14 ⟨Nat.zero_le _, Nat.zero_le _⟩ ?_
    refine aw_if_ne hC 24 dX11_out_17 (by decide) (fun c2 => ?_) (fun c2 => ?_)
    · refine aw_aload_n hC 0 dX11_out_24 rfl rfl ?_
      refine aw_getP (b := 18) hC hSt 2 (cs_lt 0 11 0 (by decide) hM) (cs_k 0 11 0 (by decide) hM) rfl (by decide) w_678 rfl (cs_p 0 2 18 (by decide) hM) dX11_out_25 ?_
      refine aw_getI hC hSt 2 (cs_lt 18 7 0 (by decide) hM) (cs_k 18 7 0 (by decide) hM) rfl (by decide) w_783 rfl dX11_out_28 ?_
      refine aw_cut (S' := S) (pc' := 50) (lv' := [(0, .ref 0), (1, .int a1), (2, .int a2)]) (st' := [.long (if (gI S 18 2) = 0 then (-9000000000000000002 : Int64) else (f_X7_leastTurn S 18 a1 a2).toInt64)]) ?_ (fun Jc3 => ?_)
      · generalize ex4 : (if (gI S 18 2) = 0 then (-9000000000000000002 : Int64) else (f_X7_leastTurn S 18 a1 a2).toInt64) = x4
        refine aw_lret hC dX11_out_50 (Nat.le_refl _) (Nat.le_refl _) ?_
        exact FP.pJ ((if_neg c1).trans ((if_neg c2).trans ((bd_eq ex4).trans (rfl))))
      · refine aw_if_eq hC 47 dX11_out_31 (by decide) (fun c3 => ?_) (fun c3 => ?_)
        · refine aw_ldc2 (v := -9000000000000000002) hC w_785 dX11_out_47 ?_
          simp only [bd_def, if_pos c3] at Jc3 ⊢
          exact Jc3
        · refine aw_aload_n hC 0 dX11_out_34 rfl rfl ?_
          refine aw_getP (b := 18) hC hSt 2 (cs_lt 0 11 0 (by decide) hM) (cs_k 0 11 0 (by decide) hM) rfl (by decide) w_678 rfl (cs_p 0 2 18 (by decide) hM) dX11_out_35 ?_
          refine aw_iload_n hC 1 dX11_out_38 rfl rfl ?_
          refine aw_iload_n hC 2 dX11_out_39 rfl rfl ?_
          refine aw_cV2r hC hSt (t_X7_leastTurn G l hM _ _ _ (by decide) (h0 c1 c2 c3)) w_608 w_823 w_824 w_825 w_114 rfl rfl (by decide +kernel) ⟨Nat.le_of_ble_eq_true rfl, Nat.le_of_ble_eq_true rfl⟩ (cs_lt 18 7 0 (by decide) hM) (cs_k 18 7 0 (by decide) hM) rfl (Nat.le_of_ble_eq_true rfl) dX11_out_40 ⟨Nat.zero_le _, Nat.zero_le _⟩ ?_
          refine aw_i2l hC dX11_out_43 ?_
          refine aw_goto hC 50 dX11_out_44 (by decide) ?_
          simp only [bd_def, if_neg c3] at Jc3 ⊢
          exact Jc3
    · refine aw_ldc2 (v := -9000000000000000001) hC w_710 dX11_out_20 ?_
      refine aw_lret hC dX11_out_23 (Nat.le_refl _) (Nat.le_refl _) ?_
      exact FP.pJ ((if_neg c1).trans ((if_pos c2).trans (rfl)))
noncomputable def L_X11_wraps_29 : Nat → HSt → Int32 → Int32 → Int32 → Int32 → Int32 × Int64 × Int32 × Int32 × Int32 × Int32
  | 0, S, v1, v2, v3, v4 => ((1 : Int32), 0, v1, v2, v3, v4)
  | n + 1, S, v1, v2, v3, v4 =>
    if (9 : Int32) < v4 then ((pr ((0 : Int32)) (pr (0) (pr (v1) (pr (v2) (pr (v3) (v4))))))) else (if v3 < v1 then (bd ((v3 * (3 : Int32))) fun x1005 => L_X11_wraps_29 n S v1 v2 x1005 (v4 + (1 : Int32))) else ((pr ((1 : Int32)) (pr (v4.toInt64) (pr (v1) (pr (v2) (pr (v3) (v4))))))))
def T_X11_wraps_29 : Nat → HSt → Int32 → Int32 → Int32 → Int32 → Prop
  | 0, _, _, _, _, _ => False
  | n + 1, S, v1, v2, v3, v4 => ((¬ (9 : Int32) < v4) → (v3 < v1) → ∀ x1005 : Int32, (v3 * (3 : Int32)) = x1005 → T_X11_wraps_29 n S v1 v2 x1005 (v4 + (1 : Int32)))
set_option maxRecDepth 100000 in
theorem l_X11_wraps_29 {p : Program} {l : Launch} {e : Env} {s : State} {m : MethodId} {args : Array Value} {below : List Frame} {meth : Method} {c : Code} {G : GG} {Post : Option Value → HSt → Prop} (hC : ACx p s m args meth c cX11_wraps RX11 5 (some .long)) (hSt : St G s)   : ∀ (n : Nat) (S : HSt) (v1 : Int32) (v2 : Int32) (v3 : Int32) (v4 : Int32), CS S → T_X11_wraps_29 n S v1 v2 v3 v4 → ((L_X11_wraps_29 n S v1 v2 v3 v4).1 = 1 → Post (some (.long (L_X11_wraps_29 n S v1 v2 v3 v4).2.1)) S) → ((L_X11_wraps_29 n S v1 v2 v3 v4).1 ≠ 1 → AW p l e (rmD 1 0 0) s m args below meth c G 5 (AQ G below args s 0 0 Post) S 0 0 55 [(0, .ref 0), (1, .int (L_X11_wraps_29 n S v1 v2 v3 v4).2.2.1), (2, .int (L_X11_wraps_29 n S v1 v2 v3 v4).2.2.2.1), (3, .int (L_X11_wraps_29 n S v1 v2 v3 v4).2.2.2.2.1), (4, .int (L_X11_wraps_29 n S v1 v2 v3 v4).2.2.2.2.2)] []) → AW p l e (rmD 1 0 0) s m args below meth c G 5 (AQ G below args s 0 0 Post) S 0 0 29 [(0, .ref 0), (1, .int v1), (2, .int v2), (3, .int v3), (4, .int v4)] [] := by
  intro n
  induction n with
  | zero => intro S v1 v2 v3 v4 _ hT; exact hT.elim
  | succ n ih =>
    intro S v1 v2 v3 v4 hM hT hr hk
    unfold T_X11_wraps_29 at hT
    have h0 := hT
    refine aw_iload hC 4 dX11_wraps_29 rfl ?_
    refine aw_bipush (v := 9) hC dX11_wraps_31 (by decide) ?_
    refine aw_icmp_gt hC 55 dX11_wraps_33 (by decide) (fun c1003 => ?_) (fun c1003 => ?_)
    · refine aw_sub [0, 1, 2, 3, 4] rfl ?_
      have E : L_X11_wraps_29 (n + 1) S v1 v2 v3 v4 = _ := (if_pos c1003).trans (rfl)
      rw [E] at hk hr
      exact hk (by show ¬ (0 : Int32) = 1; decide)
    · refine aw_iload_n hC 3 dX11_wraps_36 rfl rfl ?_
      refine aw_iload_n hC 1 dX11_wraps_37 rfl rfl ?_
      refine aw_icmp_lt hC 45 dX11_wraps_38 (by decide) (fun c1004 => ?_) (fun c1004 => ?_)
      · refine aw_iload_n hC 3 dX11_wraps_45 rfl rfl ?_
        refine aw_iconst (v := 3) hC dX11_wraps_46 (by decide) ?_
        refine aw_imul hC dX11_wraps_47 ?_
        refine aw_istore_n hC [(3, .int _), (0, .ref 0), (1, .int _), (2, .int _), (4, .int _)] dX11_wraps_48 rfl (by decide) rfl ?_
        generalize ex1005 : (v3 * (3 : Int32)) = x1005
        refine aw_iinc (v := (v4 + (1 : Int32))) hC 4 [(4, .int _), (3, .int _), (0, .ref 0), (1, .int _), (2, .int _)] dX11_wraps_49 rfl rfl (by decide) rfl ?_
        refine aw_goto hC 29 dX11_wraps_52 (by decide) ?_
        refine aw_sub [2, 3, 4, 1, 0] rfl ?_
        have hTn := (h0 c1003 c1004 x1005 ex1005)
        have hMn : CS S := hM
        have E : L_X11_wraps_29 (n + 1) S v1 v2 v3 v4 = _ := (if_neg c1003).trans ((if_pos c1004).trans ((bd_eq ex1005).trans (rfl)))
        rw [E] at hk hr
        exact ih _ _ _ _ _ hMn hTn hr hk
      · refine aw_iload hC 4 dX11_wraps_41 rfl ?_
        refine aw_i2l hC dX11_wraps_43 ?_
        refine aw_lret hC dX11_wraps_44 (Nat.le_refl _) (Nat.le_refl _) ?_
        have E : L_X11_wraps_29 (n + 1) S v1 v2 v3 v4 = _ := (if_neg c1003).trans ((if_neg c1004).trans (rfl))
        rw [E] at hr
        exact hr rfl
noncomputable def F_X11_wraps (S : HSt) (_o0 : Nat) (a1 : Int32) (a2 : Int32) : Int64 × HSt := if (f_X11_within S a1 (1 : Int32) (999999 : Int32)) = 0 then (pr ((-9000000000000000001 : Int64)) (S)) else (if (f_X11_within S a2 (1 : Int32) (99 : Int32)) = 0 then (pr ((-9000000000000000001 : Int64)) (S)) else (bd (L_X11_wraps_29 1000 S a1 a2 a2 (0 : Int32)) fun r3 => if r3.1 = 1 then (pr (r3.2.1) (S)) else (pr ((-1000000 : Int64)) (S))))
noncomputable def f_X11_wraps (S : HSt) (_o0 : Nat) (a1 : Int32) (a2 : Int32) : Int64 := (F_X11_wraps S _o0 a1 a2).1
def p_X11_wraps (S : HSt) (_o0 : Nat) (a1 : Int32) (a2 : Int32) : Prop := ((¬ (f_X11_within S a1 (1 : Int32) (999999 : Int32)) = 0) → (¬ (f_X11_within S a2 (1 : Int32) (99 : Int32)) = 0) → T_X11_wraps_29 1000 S a1 a2 a2 (0 : Int32))
set_option maxRecDepth 100000 in
theorem t_X11_wraps (G : GG) (l : Launch) {S : HSt} (hM : CS S) (a1 : Int32) (a2 : Int32)  (hp : p_X11_wraps S 0 a1 a2) : AM G l yX11_wraps cX11_wraps 5 (some .long) (rmD 1 0 0) 0 0 [.ref 0, .int a1, .int a2] S (FP (some (.long (f_X11_wraps S 0 a1 a2))) (S)) := by
  have h0 := hp
  unfold p_X11_wraps at h0
  refine AM.mk (by decide) (Nat.le_of_ble_eq_true rfl) ?_
  intro p e s m below meth c hC hSt _
  refine aw_iload_n hC 1 dX11_wraps_0 rfl rfl ?_
  refine aw_iconst (v := 1) hC dX11_wraps_1 (by decide) ?_
  refine aw_ldc (v := 999999) hC w_828 dX11_wraps_2 ?_
  refine aw_cS3r hC hSt (t_X11_within G l  _ _ _) w_706 w_712 w_713 w_517 rfl rfl (by decide +kernel) ⟨Nat.le_of_ble_eq_true rfl, Nat.le_of_ble_eq_true rfl⟩ (Nat.le_of_ble_eq_true rfl) dX11_wraps_4 ⟨Nat.zero_le _, Nat.zero_le _⟩ ?_
  refine aw_if_eq hC 20 dX11_wraps_7 (by decide) (fun c1 => ?_) (fun c1 => ?_)
  · refine aw_ldc2 (v := -9000000000000000001) hC w_710 dX11_wraps_20 ?_
    refine aw_lret hC dX11_wraps_23 (Nat.le_refl _) (Nat.le_refl _) ?_
    exact FP.pJ ((if_pos c1).trans (rfl))
  · refine aw_iload_n hC 2 dX11_wraps_10 rfl rfl ?_
    refine aw_iconst (v := 1) hC dX11_wraps_11 (by decide) ?_
    refine aw_bipush (v := 99) hC dX11_wraps_12 (by decide) ?_
    refine aw_cS3r hC hSt (t_X11_within G l  _ _ _) w_706 w_712 w_713 w_517 rfl rfl (by decide +kernel) ⟨Nat.le_of_ble_eq_true rfl, Nat.le_of_ble_eq_true rfl⟩ (Nat.le_of_ble_eq_true rfl) dX11_wraps_14 ⟨Nat.zero_le _, Nat.zero_le _⟩ ?_
    refine aw_if_ne hC 24 dX11_wraps_17 (by decide) (fun c2 => ?_) (fun c2 => ?_)
    · refine aw_iload_n hC 2 dX11_wraps_24 rfl rfl ?_
      refine aw_istore_n hC [(3, .int _), (0, .ref 0), (1, .int _), (2, .int _)] dX11_wraps_25 rfl (by decide) rfl ?_
      refine aw_iconst (v := 0) hC dX11_wraps_26 (by decide) ?_
      refine aw_istore hC [(4, .int _), (3, .int _), (0, .ref 0), (1, .int _), (2, .int _)] dX11_wraps_27 (by decide) rfl ?_
      refine aw_sub [2, 3, 4, 1, 0] rfl ?_
      refine l_X11_wraps_29 hC hSt 1000 _ _ _ _ _ hM (h0 c1 c2) (fun c4 => ?_) (fun c4 => ?_)
      · revert c4
        generalize er3 : L_X11_wraps_29 1000 S a1 a2 a2 (0 : Int32) = r3
        intro c4
        exact FP.pJ ((if_neg c1).trans ((if_neg c2).trans ((bd_eq er3).trans ((if_pos c4).trans (rfl)))))
      · revert c4
        generalize er3 : L_X11_wraps_29 1000 S a1 a2 a2 (0 : Int32) = r3
        intro c4
        refine aw_ldc2 (v := -1000000) hC w_773 dX11_wraps_55 ?_
        refine aw_lret hC dX11_wraps_58 (Nat.le_refl _) (Nat.le_refl _) ?_
        exact FP.pJ ((if_neg c1).trans ((if_neg c2).trans ((bd_eq er3).trans ((if_neg c4).trans (rfl)))))
    · refine aw_ldc2 (v := -9000000000000000001) hC w_710 dX11_wraps_20 ?_
      refine aw_lret hC dX11_wraps_23 (Nat.le_refl _) (Nat.le_refl _) ?_
      exact FP.pJ ((if_neg c1).trans ((if_pos c2).trans (rfl)))
noncomputable def f_X11_told (S : HSt) (_o0 : Nat) (a1 : Int32) (a2 : Int32) : Int64 × HSt := if (gI S 18 2) = 0 then (pr ((-9000000000000000002 : Int64)) (S)) else (if a1 = (-1 : Int32) then (if (f_X11_within S a2 (0 : Int32) (7 : Int32)) = 0 then (pr ((-9000000000000000001 : Int64)) (S)) else (bd (f_X6_run S 35 18 a1) fun r4 => if a2 = (6 : Int32) then (pr ((gI r4 35 2).toInt64) (r4)) else (bd ((if a2 = (7 : Int32) then (gI r4 35 3).toInt64 else (f_X1_tell r4 36 a2).toInt64)) fun x7 => pr (x7) (r4)))) else (if (f_X11_hasAct S 0 a1) = 0 then (pr ((-9000000000000000001 : Int64)) (S)) else (if (f_X11_within S a2 (0 : Int32) (7 : Int32)) = 0 then (pr ((-9000000000000000001 : Int64)) (S)) else (bd (f_X6_run S 35 18 a1) fun r10 => if a2 = (6 : Int32) then (pr ((gI r10 35 2).toInt64) (r10)) else (bd ((if a2 = (7 : Int32) then (gI r10 35 3).toInt64 else (f_X1_tell r10 36 a2).toInt64)) fun x13 => pr (x13) (r10))))))
def p_X11_told (S : HSt) (_o0 : Nat) (a1 : Int32) (a2 : Int32) : Prop := ((¬ (gI S 18 2) = 0) → (a1 = (-1 : Int32)) → (¬ (f_X11_within S a2 (0 : Int32) (7 : Int32)) = 0) → p_X6_run S 35 18 a1) ∧ ((¬ (gI S 18 2) = 0) → (¬ a1 = (-1 : Int32)) → p_X11_hasAct S 0 a1) ∧ ((¬ (gI S 18 2) = 0) → (¬ a1 = (-1 : Int32)) → (¬ (f_X11_hasAct S 0 a1) = 0) → (¬ (f_X11_within S a2 (0 : Int32) (7 : Int32)) = 0) → p_X6_run S 35 18 a1)
set_option maxRecDepth 100000 in
theorem t_X11_told (G : GG) (l : Launch) {S : HSt} (hM : CS S) (a1 : Int32) (a2 : Int32)  (hp : p_X11_told S 0 a1 a2) : AM G l yX11_told cX11_told 3 (some .long) (rmD 7 0 0) 0 0 [.ref 0, .int a1, .int a2] S (FP (some (.long (f_X11_told S 0 a1 a2).1)) ((f_X11_told S 0 a1 a2).2)) := by
  obtain ⟨h0, h1, h2⟩ := hp
  refine AM.mk (by decide) (Nat.le_of_ble_eq_true rfl) ?_
  intro p e s m below meth c hC hSt _
  refine aw_aload_n hC 0 dX11_told_0 rfl rfl ?_
  refine aw_getP (b := 18) hC hSt 2 (cs_lt 0 11 0 (by decide) hM) (cs_k 0 11 0 (by decide) hM) rfl (by decide) w_678 rfl (cs_p 0 2 18 (by decide) hM) dX11_told_1 ?_
  refine aw_getI hC hSt 2 (cs_lt 18 7 0 (by decide) hM) (cs_k 18 7 0 (by decide) hM) rfl (by decide) w_783 rfl dX11_told_4 ?_
  refine aw_if_ne hC 14 dX11_told_7 (by decide) (fun c1 => ?_) (fun c1 => ?_)
  · refine aw_iload_n hC 1 dX11_told_14 rfl rfl ?_
    refine aw_iconst (v := -1) hC dX11_told_15 (by decide) ?_
    refine aw_icmp_eq hC 27 dX11_told_16 (by decide) (fun c2 => ?_) (fun c2 => ?_)
    · refine aw_iload_n hC 2 dX11_told_27 rfl rfl ?_
      refine aw_iconst (v := 0) hC dX11_told_28 (by decide) ?_
      refine aw_bipush (v := 7) hC dX11_told_29 (by decide) ?_
      refine aw_cS3r hC hSt (t_X11_within G l  _ _ _) w_706 w_712 w_713 w_517 rfl rfl (by decide +kernel) ⟨Nat.le_of_ble_eq_true rfl, Nat.le_of_ble_eq_true rfl⟩ (Nat.le_of_ble_eq_true rfl) dX11_told_31 ⟨Nat.zero_le _, Nat.zero_le _⟩ ?_
      refine aw_if_ne hC 41 dX11_told_34 (by decide) (fun c3 => ?_) (fun c3 => ?_)
      · refine aw_aload_n hC 0 dX11_told_41 rfl rfl ?_
        refine aw_getP (b := 35) hC hSt 5 (cs_lt 0 11 0 (by decide) hM) (cs_k 0 11 0 (by decide) hM) rfl (by decide) w_684 rfl (cs_p 0 5 35 (by decide) hM) dX11_told_42 ?_
        refine aw_aload_n hC 0 dX11_told_45 rfl rfl ?_
        refine aw_getP (b := 18) hC hSt 2 (cs_lt 0 11 0 (by decide) hM) (cs_k 0 11 0 (by decide) hM) rfl (by decide) w_678 rfl (cs_p 0 2 18 (by decide) hM) dX11_told_46 ?_
        refine aw_iload_n hC 1 dX11_told_49 rfl rfl ?_
        refine aw_cV2v hC hSt (t_X6_run G l hM _ _ (by decide) (h0 c1 c2 c3)) w_568 w_832 w_833 w_834 w_540 rfl rfl (by decide +kernel) ⟨Nat.le_of_ble_eq_true rfl, Nat.le_of_ble_eq_true rfl⟩ (cs_lt 35 6 0 (by decide) hM) (cs_k 35 6 0 (by decide) hM) rfl (Nat.le_of_ble_eq_true rfl) dX11_told_50 ⟨Nat.zero_le _, Nat.zero_le _⟩ ?_
        generalize er4 : f_X6_run S 35 18 a1 = r4
        have hM : CS r4 := CS.of (by rw [← er4]; exact q_X6_run _ _ _ _) hM
        refine aw_iload_n hC 2 dX11_told_53 rfl rfl ?_
        refine aw_bipush (v := 6) hC dX11_told_54 (by decide) ?_
        refine aw_icmp_ne hC 68 dX11_told_56 (by decide) (fun c5 => ?_) (fun c5 => ?_)
        · refine aw_iload_n hC 2 dX11_told_68 rfl rfl ?_
          refine aw_bipush (v := 7) hC dX11_told_69 (by decide) ?_
          refine aw_cut (S' := r4) (pc' := 97) (lv' := [(0, .ref 0), (1, .int a1), (2, .int a2)]) (st' := [.long (if a2 = (7 : Int32) then (gI r4 35 3).toInt64 else (f_X1_tell r4 36 a2).toInt64)]) ?_ (fun Jc6 => ?_)
          · generalize ex7 : (if a2 = (7 : Int32) then (gI r4 35 3).toInt64 else (f_X1_tell r4 36 a2).toInt64) = x7
            refine aw_lret hC dX11_told_97 (Nat.le_refl _) (Nat.le_refl _) ?_
            exact FP.qJ ((if_neg c1).trans ((if_pos c2).trans ((if_neg c3).trans ((bd_eq er4).trans ((if_neg c5).trans ((bd_eq ex7).trans (rfl)))))))
          · refine aw_icmp_ne hC 85 dX11_told_71 (by decide) (fun c6 => ?_) (fun c6 => ?_)
            · refine aw_aload_n hC 0 dX11_told_85 rfl rfl ?_
              refine aw_getP (b := 35) hC hSt 5 (cs_lt 0 11 0 (by decide) hM) (cs_k 0 11 0 (by decide) hM) rfl (by decide) w_684 rfl (cs_p 0 5 35 (by decide) hM) dX11_told_86 ?_
              refine aw_getP (b := 36) hC hSt 0 (cs_lt 35 6 0 (by decide) hM) (cs_k 35 6 0 (by decide) hM) rfl (by decide) w_831 rfl (cs_p 35 0 36 (by decide) hM) dX11_told_89 ?_
              refine aw_iload_n hC 2 dX11_told_92 rfl rfl ?_
              refine aw_cV1r hC hSt (t_X1_tell G l hM _ _ (by decide)) w_125 w_803 w_804 w_805 w_84 rfl rfl (by decide +kernel) ⟨Nat.le_of_ble_eq_true rfl, Nat.le_of_ble_eq_true rfl⟩ (cs_lt 36 1 0 (by decide) hM) (cs_k 36 1 0 (by decide) hM) rfl (Nat.le_of_ble_eq_true rfl) dX11_told_93 ⟨Nat.zero_le _, Nat.zero_le _⟩ ?_
              refine aw_i2l hC dX11_told_96 ?_
              simp only [bd_def, if_neg c6] at Jc6 ⊢
              exact Jc6
            · refine aw_aload_n hC 0 dX11_told_74 rfl rfl ?_
              refine aw_getP (b := 35) hC hSt 5 (cs_lt 0 11 0 (by decide) hM) (cs_k 0 11 0 (by decide) hM) rfl (by decide) w_684 rfl (cs_p 0 5 35 (by decide) hM) dX11_told_75 ?_
              refine aw_getI hC hSt 3 (cs_lt 35 6 0 (by decide) hM) (cs_k 35 6 0 (by decide) hM) rfl (by decide) w_830 rfl dX11_told_78 ?_
              refine aw_i2l hC dX11_told_81 ?_
              refine aw_goto hC 97 dX11_told_82 (by decide) ?_
              simp only [bd_def, if_pos c6] at Jc6 ⊢
              exact Jc6
        · refine aw_aload_n hC 0 dX11_told_59 rfl rfl ?_
          refine aw_getP (b := 35) hC hSt 5 (cs_lt 0 11 0 (by decide) hM) (cs_k 0 11 0 (by decide) hM) rfl (by decide) w_684 rfl (cs_p 0 5 35 (by decide) hM) dX11_told_60 ?_
          refine aw_getI hC hSt 2 (cs_lt 35 6 0 (by decide) hM) (cs_k 35 6 0 (by decide) hM) rfl (by decide) w_829 rfl dX11_told_63 ?_
          refine aw_i2l hC dX11_told_66 ?_
          refine aw_lret hC dX11_told_67 (Nat.le_refl _) (Nat.le_refl _) ?_
          exact FP.qJ ((if_neg c1).trans ((if_pos c2).trans ((if_neg c3).trans ((bd_eq er4).trans ((if_pos c5).trans (rfl))))))
      · refine aw_ldc2 (v := -9000000000000000001) hC w_710 dX11_told_37 ?_
        refine aw_lret hC dX11_told_40 (Nat.le_refl _) (Nat.le_refl _) ?_
        exact FP.qJ ((if_neg c1).trans ((if_pos c2).trans ((if_pos c3).trans (rfl))))
    · refine aw_aload_n hC 0 dX11_told_19 rfl rfl ?_
      refine aw_iload_n hC 1 dX11_told_20 rfl rfl ?_
      refine aw_cV1r hC hSt (t_X11_hasAct G l hM _ (h1 c1 c2)) w_769 w_774 w_775 w_776 w_517 rfl rfl (by decide +kernel) ⟨Nat.le_of_ble_eq_true rfl, Nat.le_of_ble_eq_true rfl⟩ (cs_lt 0 11 0 (by decide) hM) (cs_k 0 11 0 (by decide) hM) rfl (Nat.le_of_ble_eq_true rfl) dX11_told_21 ⟨Nat.zero_le _, Nat.zero_le _⟩ ?_
      refine aw_if_eq hC 37 dX11_told_24 (by decide) (fun c8 => ?_) (fun c8 => ?_)
      · refine aw_ldc2 (v := -9000000000000000001) hC w_710 dX11_told_37 ?_
        refine aw_lret hC dX11_told_40 (Nat.le_refl _) (Nat.le_refl _) ?_
        exact FP.qJ ((if_neg c1).trans ((if_neg c2).trans ((if_pos c8).trans (rfl))))
      · refine aw_iload_n hC 2 dX11_told_27 rfl rfl ?_
        refine aw_iconst (v := 0) hC dX11_told_28 (by decide) ?_
        refine aw_bipush (v := 7) hC dX11_told_29 (by decide) ?_
        refine aw_cS3r hC hSt (t_X11_within G l  _ _ _) w_706 w_712 w_713 w_517 rfl rfl (by decide +kernel) ⟨Nat.le_of_ble_eq_true rfl, Nat.le_of_ble_eq_true rfl⟩ (Nat.le_of_ble_eq_true rfl) dX11_told_31 ⟨Nat.zero_le _, Nat.zero_le _⟩ ?_
        refine aw_if_ne hC 41 dX11_told_34 (by decide) (fun c9 => ?_) (fun c9 => ?_)
        · refine aw_aload_n hC 0 dX11_told_41 rfl rfl ?_
          refine aw_getP (b := 35) hC hSt 5 (cs_lt 0 11 0 (by decide) hM) (cs_k 0 11 0 (by decide) hM) rfl (by decide) w_684 rfl (cs_p 0 5 35 (by decide) hM) dX11_told_42 ?_
          refine aw_aload_n hC 0 dX11_told_45 rfl rfl ?_
          refine aw_getP (b := 18) hC hSt 2 (cs_lt 0 11 0 (by decide) hM) (cs_k 0 11 0 (by decide) hM) rfl (by decide) w_678 rfl (cs_p 0 2 18 (by decide) hM) dX11_told_46 ?_
          refine aw_iload_n hC 1 dX11_told_49 rfl rfl ?_
          refine aw_cV2v hC hSt (t_X6_run G l hM _ _ (by decide) (h2 c1 c2 c8 c9)) w_568 w_832 w_833 w_834 w_540 rfl rfl (by decide +kernel) ⟨Nat.le_of_ble_eq_true rfl, Nat.le_of_ble_eq_true rfl⟩ (cs_lt 35 6 0 (by decide) hM) (cs_k 35 6 0 (by decide) hM) rfl (Nat.le_of_ble_eq_true rfl) dX11_told_50 ⟨Nat.zero_le _, Nat.zero_le _⟩ ?_
          generalize er10 : f_X6_run S 35 18 a1 = r10
          have hM : CS r10 := CS.of (by rw [← er10]; exact q_X6_run _ _ _ _) hM
          refine aw_iload_n hC 2 dX11_told_53 rfl rfl ?_
          refine aw_bipush (v := 6) hC dX11_told_54 (by decide) ?_
          refine aw_icmp_ne hC 68 dX11_told_56 (by decide) (fun c11 => ?_) (fun c11 => ?_)
          · refine aw_iload_n hC 2 dX11_told_68 rfl rfl ?_
            refine aw_bipush (v := 7) hC dX11_told_69 (by decide) ?_
            refine aw_cut (S' := r10) (pc' := 97) (lv' := [(0, .ref 0), (1, .int a1), (2, .int a2)]) (st' := [.long (if a2 = (7 : Int32) then (gI r10 35 3).toInt64 else (f_X1_tell r10 36 a2).toInt64)]) ?_ (fun Jc12 => ?_)
            · generalize ex13 : (if a2 = (7 : Int32) then (gI r10 35 3).toInt64 else (f_X1_tell r10 36 a2).toInt64) = x13
              refine aw_lret hC dX11_told_97 (Nat.le_refl _) (Nat.le_refl _) ?_
              exact FP.qJ ((if_neg c1).trans ((if_neg c2).trans ((if_neg c8).trans ((if_neg c9).trans ((bd_eq er10).trans ((if_neg c11).trans ((bd_eq ex13).trans (rfl))))))))
            · refine aw_icmp_ne hC 85 dX11_told_71 (by decide) (fun c12 => ?_) (fun c12 => ?_)
              · refine aw_aload_n hC 0 dX11_told_85 rfl rfl ?_
                refine aw_getP (b := 35) hC hSt 5 (cs_lt 0 11 0 (by decide) hM) (cs_k 0 11 0 (by decide) hM) rfl (by decide) w_684 rfl (cs_p 0 5 35 (by decide) hM) dX11_told_86 ?_
                refine aw_getP (b := 36) hC hSt 0 (cs_lt 35 6 0 (by decide) hM) (cs_k 35 6 0 (by decide) hM) rfl (by decide) w_831 rfl (cs_p 35 0 36 (by decide) hM) dX11_told_89 ?_
                refine aw_iload_n hC 2 dX11_told_92 rfl rfl ?_
                refine aw_cV1r hC hSt (t_X1_tell G l hM _ _ (by decide)) w_125 w_803 w_804 w_805 w_84 rfl rfl (by decide +kernel) ⟨Nat.le_of_ble_eq_true rfl, Nat.le_of_ble_eq_true rfl⟩ (cs_lt 36 1 0 (by decide) hM) (cs_k 36 1 0 (by decide) hM) rfl (Nat.le_of_ble_eq_true rfl) dX11_told_93 ⟨Nat.zero_le _, Nat.zero_le _⟩ ?_
                refine aw_i2l hC dX11_told_96 ?_
                simp only [bd_def, if_neg c12] at Jc12 ⊢
                exact Jc12
              · refine aw_aload_n hC 0 dX11_told_74 rfl rfl ?_
                refine aw_getP (b := 35) hC hSt 5 (cs_lt 0 11 0 (by decide) hM) (cs_k 0 11 0 (by decide) hM) rfl (by decide) w_684 rfl (cs_p 0 5 35 (by decide) hM) dX11_told_75 ?_
                refine aw_getI hC hSt 3 (cs_lt 35 6 0 (by decide) hM) (cs_k 35 6 0 (by decide) hM) rfl (by decide) w_830 rfl dX11_told_78 ?_
                refine aw_i2l hC dX11_told_81 ?_
                refine aw_goto hC 97 dX11_told_82 (by decide) ?_
                simp only [bd_def, if_pos c12] at Jc12 ⊢
                exact Jc12
          · refine aw_aload_n hC 0 dX11_told_59 rfl rfl ?_
            refine aw_getP (b := 35) hC hSt 5 (cs_lt 0 11 0 (by decide) hM) (cs_k 0 11 0 (by decide) hM) rfl (by decide) w_684 rfl (cs_p 0 5 35 (by decide) hM) dX11_told_60 ?_
            refine aw_getI hC hSt 2 (cs_lt 35 6 0 (by decide) hM) (cs_k 35 6 0 (by decide) hM) rfl (by decide) w_829 rfl dX11_told_63 ?_
            refine aw_i2l hC dX11_told_66 ?_
            refine aw_lret hC dX11_told_67 (Nat.le_refl _) (Nat.le_refl _) ?_
            exact FP.qJ ((if_neg c1).trans ((if_neg c2).trans ((if_neg c8).trans ((if_neg c9).trans ((bd_eq er10).trans ((if_pos c11).trans (rfl)))))))
        · refine aw_ldc2 (v := -9000000000000000001) hC w_710 dX11_told_37 ?_
          refine aw_lret hC dX11_told_40 (Nat.le_refl _) (Nat.le_refl _) ?_
          exact FP.qJ ((if_neg c1).trans ((if_neg c2).trans ((if_neg c8).trans ((if_pos c9).trans (rfl)))))
  · refine aw_ldc2 (v := -9000000000000000002) hC w_785 dX11_told_10 ?_
    refine aw_lret hC dX11_told_13 (Nat.le_refl _) (Nat.le_refl _) ?_
    exact FP.qJ ((if_pos c1).trans (rfl))
theorem q_X11_told (S : HSt) (_o0 : Nat) (a1 : Int32) (a2 : Int32) : shp ((f_X11_told S _o0 a1 a2).2) = shp S := by
  unfold f_X11_told
  repeat' (first | with_reducible refine shpr1 ?_ | with_reducible rfl | with_reducible refine (q_X6_run _ _ _ _).trans ?_ | with_reducible refine (shp_sI _ _ _ _).trans ?_ | with_reducible refine (shp_sJ _ _ _ _).trans ?_ | with_reducible refine (shp_rI _ _ _).trans ?_ | with_reducible refine shi ?_ ?_ | with_reducible refine shb (fun _ _ => ?_) | with_reducible refine shiP (fun q : Int64 × HSt => q.2) ?_ ?_ | with_reducible refine shbP (fun q : Int64 × HSt => q.2) (fun _ _ => ?_) | (subst_vars; with_reducible rfl) | (subst_vars; with_reducible refine (q_X6_run _ _ _ _).trans ?_) | (subst_vars; with_reducible refine (shp_sI _ _ _ _).trans ?_) | (subst_vars; with_reducible refine (shp_sJ _ _ _ _).trans ?_) | (subst_vars; with_reducible refine (shp_rI _ _ _).trans ?_) | (subst_vars; with_reducible refine shi ?_ ?_) | (subst_vars; with_reducible refine shb (fun _ _ => ?_)))
theorem v_X11_told (S : HSt) (_o0 : Nat) (a1 : Int32) (a2 : Int32) : Fr [(35, 2), (35, 3), (35, 4), (35, 7), (36, 0), (36, 1), (36, 2), (36, 3), (36, 4), (36, 5), (36, 6), (37, 0), (37, 1), (37, 10), (37, 2), (37, 3), (37, 4), (37, 5), (37, 6), (37, 7), (37, 8), (37, 9)] S ((f_X11_told S _o0 a1 a2).2) := by
  unfold f_X11_told
  repeat' (first | with_reducible refine frpr1 ?_ | with_reducible exact Fr.refl _ _ | with_reducible refine Fr.lP (fun q : Int64 × HSt => q.2) (fun _ _ => ?_) | with_reducible refine Fr.iteP (fun q : Int64 × HSt => q.2) ?_ ?_ | with_reducible refine Fr.l1 (fun _ _ => ?_) | with_reducible refine Fr.ite ?_ ?_ | with_reducible refine Fr.sE (by assumption) (by first | decide | simp only [List.mem_cons, List.not_mem_nil, or_false, true_or, or_true, eq_self_iff_true]) ?_ | with_reducible refine Fr.jE (by assumption) ?_ | with_reducible refine Fr.rE (by assumption) (by first | decide | simp only [List.mem_cons, List.not_mem_nil, or_false, true_or, or_true, eq_self_iff_true]) ?_ | with_reducible refine Fr.iE (by assumption) ?_ ?_ | with_reducible refine Fr.tr (w_X6_run _ _ _ _ _ (by assumption)) (by first | decide | simp only [List.mem_cons, List.not_mem_nil, or_false, forall_eq_or_imp, forall_eq, true_or, or_true, and_self, eq_self_iff_true]) ?_)
theorem w_X11_told (S : HSt) (_o0 : Nat) (a1 : Int32) (a2 : Int32) (r : Int64 × HSt) (e : f_X11_told S _o0 a1 a2 = r) : Fr [(35, 2), (35, 3), (35, 4), (35, 7), (36, 0), (36, 1), (36, 2), (36, 3), (36, 4), (36, 5), (36, 6), (37, 0), (37, 1), (37, 10), (37, 2), (37, 3), (37, 4), (37, 5), (37, 6), (37, 7), (37, 8), (37, 9)] S r.2 := by
  rw [← e]
  exact v_X11_told S _o0 a1 a2
noncomputable def f_X11_all (S : HSt) (_o0 : Nat) (a1 : Int32) : Int64 × HSt := if (f_X11_within S a1 (0 : Int32) (1 : Int32)) = 0 then (pr ((-9000000000000000001 : Int64)) (S)) else (if (gI S 18 2) = 0 then (pr ((-9000000000000000002 : Int64)) (S)) else (bd (f_X6_run S 35 18 (19 : Int32)) fun r3 => if (gI r3 35 7) = 0 then (bd ((if a1 = 0 then (gJ r3 35 5) else (gJ r3 35 6))) fun x6 => pr (x6) (r3)) else (pr ((-1000000 : Int64)) (r3))))
def p_X11_all (S : HSt) (_o0 : Nat) (a1 : Int32) : Prop := ((¬ (f_X11_within S a1 (0 : Int32) (1 : Int32)) = 0) → (¬ (gI S 18 2) = 0) → p_X6_run S 35 18 (19 : Int32))
set_option maxRecDepth 100000 in
theorem t_X11_all (G : GG) (l : Launch) {S : HSt} (hM : CS S) (a1 : Int32)  (hp : p_X11_all S 0 a1) : AM G l yX11_all cX11_all 2 (some .long) (rmD 7 0 0) 0 0 [.ref 0, .int a1] S (FP (some (.long (f_X11_all S 0 a1).1)) ((f_X11_all S 0 a1).2)) := by
  have h0 := hp
  unfold p_X11_all at h0
  refine AM.mk (by decide) (Nat.le_of_ble_eq_true rfl) ?_
  intro p e s m below meth c hC hSt _
  refine aw_iload_n hC 1 dX11_all_0 rfl rfl ?_
  refine aw_iconst (v := 0) hC dX11_all_1 (by decide) ?_
  refine aw_iconst (v := 1) hC dX11_all_2 (by decide) ?_
  refine aw_cS3r hC hSt (t_X11_within G l  _ _ _) w_706 w_712 w_713 w_517 rfl rfl (by decide +kernel) ⟨Nat.le_of_ble_eq_true rfl, Nat.le_of_ble_eq_true rfl⟩ (Nat.le_of_ble_eq_true rfl) dX11_all_3 ⟨Nat.zero_le _, Nat.zero_le _⟩ ?_
  refine aw_if_ne hC 13 dX11_all_6 (by decide) (fun c1 => ?_) (fun c1 => ?_)
  · refine aw_aload_n hC 0 dX11_all_13 rfl rfl ?_
    refine aw_getP (b := 18) hC hSt 2 (cs_lt 0 11 0 (by decide) hM) (cs_k 0 11 0 (by decide) hM) rfl (by decide) w_678 rfl (cs_p 0 2 18 (by decide) hM) dX11_all_14 ?_
    refine aw_getI hC hSt 2 (cs_lt 18 7 0 (by decide) hM) (cs_k 18 7 0 (by decide) hM) rfl (by decide) w_783 rfl dX11_all_17 ?_
    refine aw_if_ne hC 27 dX11_all_20 (by decide) (fun c2 => ?_) (fun c2 => ?_)
    · refine aw_aload_n hC 0 dX11_all_27 rfl rfl ?_
      refine aw_getP (b := 35) hC hSt 5 (cs_lt 0 11 0 (by decide) hM) (cs_k 0 11 0 (by decide) hM) rfl (by decide) w_684 rfl (cs_p 0 5 35 (by decide) hM) dX11_all_28 ?_
      refine aw_aload_n hC 0 dX11_all_31 rfl rfl ?_
      refine aw_getP (b := 18) hC hSt 2 (cs_lt 0 11 0 (by decide) hM) (cs_k 0 11 0 (by decide) hM) rfl (by decide) w_678 rfl (cs_p 0 2 18 (by decide) hM) dX11_all_32 ?_
      refine aw_bipush (v := 19) hC dX11_all_35 (by decide) ?_
      refine aw_cV2v hC hSt (t_X6_run G l hM _ _ (by decide) (h0 c1 c2)) w_568 w_832 w_833 w_834 w_540 rfl rfl (by decide +kernel) ⟨Nat.le_of_ble_eq_true rfl, Nat.le_of_ble_eq_true rfl⟩ (cs_lt 35 6 0 (by decide) hM) (cs_k 35 6 0 (by decide) hM) rfl (Nat.le_of_ble_eq_true rfl) dX11_all_37 ⟨Nat.zero_le _, Nat.zero_le _⟩ ?_
      generalize er3 : f_X6_run S 35 18 (19 : Int32) = r3
      have hM : CS r3 := CS.of (by rw [← er3]; exact q_X6_run _ _ _ _) hM
      refine aw_aload_n hC 0 dX11_all_40 rfl rfl ?_
      refine aw_getP (b := 35) hC hSt 5 (cs_lt 0 11 0 (by decide) hM) (cs_k 0 11 0 (by decide) hM) rfl (by decide) w_684 rfl (cs_p 0 5 35 (by decide) hM) dX11_all_41 ?_
      refine aw_getI hC hSt 7 (cs_lt 35 6 0 (by decide) hM) (cs_k 35 6 0 (by decide) hM) rfl (by decide) w_836 rfl dX11_all_44 ?_
      refine aw_if_eq hC 54 dX11_all_47 (by decide) (fun c4 => ?_) (fun c4 => ?_)
      · refine aw_iload_n hC 1 dX11_all_54 rfl rfl ?_
        refine aw_cut (S' := r3) (pc' := 75) (lv' := [(0, .ref 0), (1, .int a1)]) (st' := [.long (if a1 = 0 then (gJ r3 35 5) else (gJ r3 35 6))]) ?_ (fun Jc5 => ?_)
        · generalize ex6 : (if a1 = 0 then (gJ r3 35 5) else (gJ r3 35 6)) = x6
          refine aw_lret hC dX11_all_75 (Nat.le_refl _) (Nat.le_refl _) ?_
          exact FP.qJ ((if_neg c1).trans ((if_neg c2).trans ((bd_eq er3).trans ((if_pos c4).trans ((bd_eq ex6).trans (rfl))))))
        · refine aw_if_ne hC 68 dX11_all_55 (by decide) (fun c5 => ?_) (fun c5 => ?_)
          · refine aw_aload_n hC 0 dX11_all_68 rfl rfl ?_
            refine aw_getP (b := 35) hC hSt 5 (cs_lt 0 11 0 (by decide) hM) (cs_k 0 11 0 (by decide) hM) rfl (by decide) w_684 rfl (cs_p 0 5 35 (by decide) hM) dX11_all_69 ?_
            refine aw_getJ hC hSt 6 (cs_lt 35 6 0 (by decide) hM) (cs_k 35 6 0 (by decide) hM) rfl (by decide) w_838 rfl dX11_all_72 ?_
            simp only [bd_def, if_neg c5] at Jc5 ⊢
            exact Jc5
          · refine aw_aload_n hC 0 dX11_all_58 rfl rfl ?_
            refine aw_getP (b := 35) hC hSt 5 (cs_lt 0 11 0 (by decide) hM) (cs_k 0 11 0 (by decide) hM) rfl (by decide) w_684 rfl (cs_p 0 5 35 (by decide) hM) dX11_all_59 ?_
            refine aw_getJ hC hSt 5 (cs_lt 35 6 0 (by decide) hM) (cs_k 35 6 0 (by decide) hM) rfl (by decide) w_837 rfl dX11_all_62 ?_
            refine aw_goto hC 75 dX11_all_65 (by decide) ?_
            simp only [bd_def, if_pos c5] at Jc5 ⊢
            exact Jc5
      · refine aw_ldc2 (v := -1000000) hC w_773 dX11_all_50 ?_
        refine aw_lret hC dX11_all_53 (Nat.le_refl _) (Nat.le_refl _) ?_
        exact FP.qJ ((if_neg c1).trans ((if_neg c2).trans ((bd_eq er3).trans ((if_neg c4).trans (rfl)))))
    · refine aw_ldc2 (v := -9000000000000000002) hC w_785 dX11_all_23 ?_
      refine aw_lret hC dX11_all_26 (Nat.le_refl _) (Nat.le_refl _) ?_
      exact FP.qJ ((if_neg c1).trans ((if_pos c2).trans (rfl)))
  · refine aw_ldc2 (v := -9000000000000000001) hC w_710 dX11_all_9 ?_
    refine aw_lret hC dX11_all_12 (Nat.le_refl _) (Nat.le_refl _) ?_
    exact FP.qJ ((if_pos c1).trans (rfl))
theorem q_X11_all (S : HSt) (_o0 : Nat) (a1 : Int32) : shp ((f_X11_all S _o0 a1).2) = shp S := by
  unfold f_X11_all
  repeat' (first | with_reducible refine shpr1 ?_ | with_reducible rfl | with_reducible refine (q_X6_run _ _ _ _).trans ?_ | with_reducible refine (shp_sI _ _ _ _).trans ?_ | with_reducible refine (shp_sJ _ _ _ _).trans ?_ | with_reducible refine (shp_rI _ _ _).trans ?_ | with_reducible refine shi ?_ ?_ | with_reducible refine shb (fun _ _ => ?_) | with_reducible refine shiP (fun q : Int64 × HSt => q.2) ?_ ?_ | with_reducible refine shbP (fun q : Int64 × HSt => q.2) (fun _ _ => ?_) | (subst_vars; with_reducible rfl) | (subst_vars; with_reducible refine (q_X6_run _ _ _ _).trans ?_) | (subst_vars; with_reducible refine (shp_sI _ _ _ _).trans ?_) | (subst_vars; with_reducible refine (shp_sJ _ _ _ _).trans ?_) | (subst_vars; with_reducible refine (shp_rI _ _ _).trans ?_) | (subst_vars; with_reducible refine shi ?_ ?_) | (subst_vars; with_reducible refine shb (fun _ _ => ?_)))
theorem v_X11_all (S : HSt) (_o0 : Nat) (a1 : Int32) : Fr [(35, 2), (35, 3), (35, 4), (35, 7), (36, 0), (36, 1), (36, 2), (36, 3), (36, 4), (36, 5), (36, 6), (37, 0), (37, 1), (37, 10), (37, 2), (37, 3), (37, 4), (37, 5), (37, 6), (37, 7), (37, 8), (37, 9)] S ((f_X11_all S _o0 a1).2) := by
  unfold f_X11_all
  repeat' (first | with_reducible refine frpr1 ?_ | with_reducible exact Fr.refl _ _ | with_reducible refine Fr.lP (fun q : Int64 × HSt => q.2) (fun _ _ => ?_) | with_reducible refine Fr.iteP (fun q : Int64 × HSt => q.2) ?_ ?_ | with_reducible refine Fr.l1 (fun _ _ => ?_) | with_reducible refine Fr.ite ?_ ?_ | with_reducible refine Fr.sE (by assumption) (by first | decide | simp only [List.mem_cons, List.not_mem_nil, or_false, true_or, or_true, eq_self_iff_true]) ?_ | with_reducible refine Fr.jE (by assumption) ?_ | with_reducible refine Fr.rE (by assumption) (by first | decide | simp only [List.mem_cons, List.not_mem_nil, or_false, true_or, or_true, eq_self_iff_true]) ?_ | with_reducible refine Fr.iE (by assumption) ?_ ?_ | with_reducible refine Fr.tr (w_X6_run _ _ _ _ _ (by assumption)) (by first | decide | simp only [List.mem_cons, List.not_mem_nil, or_false, forall_eq_or_imp, forall_eq, true_or, or_true, and_self, eq_self_iff_true]) ?_)
theorem w_X11_all (S : HSt) (_o0 : Nat) (a1 : Int32) (r : Int64 × HSt) (e : f_X11_all S _o0 a1 = r) : Fr [(35, 2), (35, 3), (35, 4), (35, 7), (36, 0), (36, 1), (36, 2), (36, 3), (36, 4), (36, 5), (36, 6), (37, 0), (37, 1), (37, 10), (37, 2), (37, 3), (37, 4), (37, 5), (37, 6), (37, 7), (37, 8), (37, 9)] S r.2 := by
  rw [← e]
  exact v_X11_all S _o0 a1
noncomputable def f_X11_score (S : HSt) (_o0 : Nat) : Int64 × HSt := if (gI S 18 2) = 0 then (pr ((-9000000000000000002 : Int64)) (S)) else (bd (f_X6_run S 35 18 (19 : Int32)) fun r2 => pr ((gI r2 35 4).toInt64) (r2))
def p_X11_score (S : HSt) (_o0 : Nat) : Prop := ((¬ (gI S 18 2) = 0) → p_X6_run S 35 18 (19 : Int32))
set_option maxRecDepth 100000 in
theorem t_X11_score (G : GG) (l : Launch) {S : HSt} (hM : CS S)   (hp : p_X11_score S 0) : AM G l yX11_score cX11_score 1 (some .long) (rmD 7 0 0) 0 0 [.ref 0] S (FP (some (.long (f_X11_score S 0).1)) ((f_X11_score S 0).2)) := by
  have h0 := hp
  unfold p_X11_score at h0
  refine AM.mk (by decide) (Nat.le_of_ble_eq_true rfl) ?_
  intro p e s m below meth c hC hSt _
  refine aw_aload_n hC 0 dX11_score_0 rfl rfl ?_
  refine aw_getP (b := 18) hC hSt 2 (cs_lt 0 11 0 (by decide) hM) (cs_k 0 11 0 (by decide) hM) rfl (by decide) w_678 rfl (cs_p 0 2 18 (by decide) hM) dX11_score_1 ?_
  refine aw_getI hC hSt 2 (cs_lt 18 7 0 (by decide) hM) (cs_k 18 7 0 (by decide) hM) rfl (by decide) w_783 rfl dX11_score_4 ?_
  refine aw_if_ne hC 14 dX11_score_7 (by decide) (fun c1 => ?_) (fun c1 => ?_)
  · refine aw_aload_n hC 0 dX11_score_14 rfl rfl ?_
    refine aw_getP (b := 35) hC hSt 5 (cs_lt 0 11 0 (by decide) hM) (cs_k 0 11 0 (by decide) hM) rfl (by decide) w_684 rfl (cs_p 0 5 35 (by decide) hM) dX11_score_15 ?_
    refine aw_aload_n hC 0 dX11_score_18 rfl rfl ?_
    refine aw_getP (b := 18) hC hSt 2 (cs_lt 0 11 0 (by decide) hM) (cs_k 0 11 0 (by decide) hM) rfl (by decide) w_678 rfl (cs_p 0 2 18 (by decide) hM) dX11_score_19 ?_
    refine aw_bipush (v := 19) hC dX11_score_22 (by decide) ?_
    refine aw_cV2v hC hSt (t_X6_run G l hM _ _ (by decide) (h0 c1)) w_568 w_832 w_833 w_834 w_540 rfl rfl (by decide +kernel) ⟨Nat.le_of_ble_eq_true rfl, Nat.le_of_ble_eq_true rfl⟩ (cs_lt 35 6 0 (by decide) hM) (cs_k 35 6 0 (by decide) hM) rfl (Nat.le_of_ble_eq_true rfl) dX11_score_24 ⟨Nat.zero_le _, Nat.zero_le _⟩ ?_
    generalize er2 : f_X6_run S 35 18 (19 : Int32) = r2
    have hM : CS r2 := CS.of (by rw [← er2]; exact q_X6_run _ _ _ _) hM
    refine aw_aload_n hC 0 dX11_score_27 rfl rfl ?_
    refine aw_getP (b := 35) hC hSt 5 (cs_lt 0 11 0 (by decide) hM) (cs_k 0 11 0 (by decide) hM) rfl (by decide) w_684 rfl (cs_p 0 5 35 (by decide) hM) dX11_score_28 ?_
    refine aw_getI hC hSt 4 (cs_lt 35 6 0 (by decide) hM) (cs_k 35 6 0 (by decide) hM) rfl (by decide) w_840 rfl dX11_score_31 ?_
    refine aw_i2l hC dX11_score_34 ?_
    refine aw_lret hC dX11_score_35 (Nat.le_refl _) (Nat.le_refl _) ?_
    exact FP.qJ ((if_neg c1).trans ((bd_eq er2).trans (rfl)))
  · refine aw_ldc2 (v := -9000000000000000002) hC w_785 dX11_score_10 ?_
    refine aw_lret hC dX11_score_13 (Nat.le_refl _) (Nat.le_refl _) ?_
    exact FP.qJ ((if_pos c1).trans (rfl))
theorem q_X11_score (S : HSt) (_o0 : Nat) : shp ((f_X11_score S _o0).2) = shp S := by
  unfold f_X11_score
  repeat' (first | with_reducible refine shpr1 ?_ | with_reducible rfl | with_reducible refine (q_X6_run _ _ _ _).trans ?_ | with_reducible refine (shp_sI _ _ _ _).trans ?_ | with_reducible refine (shp_sJ _ _ _ _).trans ?_ | with_reducible refine (shp_rI _ _ _).trans ?_ | with_reducible refine shi ?_ ?_ | with_reducible refine shb (fun _ _ => ?_) | with_reducible refine shiP (fun q : Int64 × HSt => q.2) ?_ ?_ | with_reducible refine shbP (fun q : Int64 × HSt => q.2) (fun _ _ => ?_) | (subst_vars; with_reducible rfl) | (subst_vars; with_reducible refine (q_X6_run _ _ _ _).trans ?_) | (subst_vars; with_reducible refine (shp_sI _ _ _ _).trans ?_) | (subst_vars; with_reducible refine (shp_sJ _ _ _ _).trans ?_) | (subst_vars; with_reducible refine (shp_rI _ _ _).trans ?_) | (subst_vars; with_reducible refine shi ?_ ?_) | (subst_vars; with_reducible refine shb (fun _ _ => ?_)))
theorem v_X11_score (S : HSt) (_o0 : Nat) : Fr [(35, 2), (35, 3), (35, 4), (35, 7), (36, 0), (36, 1), (36, 2), (36, 3), (36, 4), (36, 5), (36, 6), (37, 0), (37, 1), (37, 10), (37, 2), (37, 3), (37, 4), (37, 5), (37, 6), (37, 7), (37, 8), (37, 9)] S ((f_X11_score S _o0).2) := by
  unfold f_X11_score
  repeat' (first | with_reducible refine frpr1 ?_ | with_reducible exact Fr.refl _ _ | with_reducible refine Fr.lP (fun q : Int64 × HSt => q.2) (fun _ _ => ?_) | with_reducible refine Fr.iteP (fun q : Int64 × HSt => q.2) ?_ ?_ | with_reducible refine Fr.l1 (fun _ _ => ?_) | with_reducible refine Fr.ite ?_ ?_ | with_reducible refine Fr.sE (by assumption) (by first | decide | simp only [List.mem_cons, List.not_mem_nil, or_false, true_or, or_true, eq_self_iff_true]) ?_ | with_reducible refine Fr.jE (by assumption) ?_ | with_reducible refine Fr.rE (by assumption) (by first | decide | simp only [List.mem_cons, List.not_mem_nil, or_false, true_or, or_true, eq_self_iff_true]) ?_ | with_reducible refine Fr.iE (by assumption) ?_ ?_ | with_reducible refine Fr.tr (w_X6_run _ _ _ _ _ (by assumption)) (by first | decide | simp only [List.mem_cons, List.not_mem_nil, or_false, forall_eq_or_imp, forall_eq, true_or, or_true, and_self, eq_self_iff_true]) ?_)
theorem w_X11_score (S : HSt) (_o0 : Nat) (r : Int64 × HSt) (e : f_X11_score S _o0 = r) : Fr [(35, 2), (35, 3), (35, 4), (35, 7), (36, 0), (36, 1), (36, 2), (36, 3), (36, 4), (36, 5), (36, 6), (37, 0), (37, 1), (37, 10), (37, 2), (37, 3), (37, 4), (37, 5), (37, 6), (37, 7), (37, 8), (37, 9)] S r.2 := by
  rw [← e]
  exact v_X11_score S _o0
noncomputable def f_X11_best (S : HSt) (_o0 : Nat) (a1 : Int32) (a2 : Int32) : Int64 × HSt := if (f_X10_has S 19 (2 : Int32) a1) = 0 then (pr ((-9000000000000000001 : Int64)) (S)) else (if (f_X11_within S a2 (0 : Int32) (2 : Int32)) = 0 then (pr ((-9000000000000000001 : Int64)) (S)) else (bd (f_X6_seekBest S 35 18 a1) fun r3 => bd ((if a2 = 0 then (gI r3 35 8).toInt64 else (f_X11_lowest r3 (gI r3 35 9).toInt64 (gI r3 35 10).toInt64 (a2 - (1 : Int32))))) fun x5 => pr (x5) (r3)))
def p_X11_best (S : HSt) (_o0 : Nat) (a1 : Int32) (a2 : Int32) : Prop := (p_X10_has S 19 (2 : Int32) a1) ∧ ((¬ (f_X10_has S 19 (2 : Int32) a1) = 0) → (¬ (f_X11_within S a2 (0 : Int32) (2 : Int32)) = 0) → p_X6_seekBest S 35 18 a1) ∧ ((¬ (f_X10_has S 19 (2 : Int32) a1) = 0) → (¬ (f_X11_within S a2 (0 : Int32) (2 : Int32)) = 0) → ∀ r3, f_X6_seekBest S 35 18 a1 = r3 → (¬ a2 = 0) → p_X11_lowest r3 (gI r3 35 9).toInt64 (gI r3 35 10).toInt64 (a2 - (1 : Int32)))
set_option maxRecDepth 100000 in
theorem t_X11_best (G : GG) (l : Launch) {S : HSt} (hM : CS S) (a1 : Int32) (a2 : Int32)  (hp : p_X11_best S 0 a1 a2) : AM G l yX11_best cX11_best 3 (some .long) (rmD 6 0 0) 0 0 [.ref 0, .int a1, .int a2] S (FP (some (.long (f_X11_best S 0 a1 a2).1)) ((f_X11_best S 0 a1 a2).2)) := by
  obtain ⟨h0, h1, h2⟩ := hp
  refine AM.mk (by decide) (Nat.le_of_ble_eq_true rfl) ?_
  intro p e s m below meth c hC hSt _
  refine aw_aload_n hC 0 dX11_best_0 rfl rfl ?_
  refine aw_getP (b := 18) hC hSt 2 (cs_lt 0 11 0 (by decide) hM) (cs_k 0 11 0 (by decide) hM) rfl (by decide) w_678 rfl (cs_p 0 2 18 (by decide) hM) dX11_best_1 ?_
  refine aw_getP (b := 19) hC hSt 0 (cs_lt 18 7 0 (by decide) hM) (cs_k 18 7 0 (by decide) hM) rfl (by decide) w_750 rfl (cs_p 18 0 19 (by decide) hM) dX11_best_4 ?_
  refine aw_iconst (v := 2) hC dX11_best_7 (by decide) ?_
  refine aw_iload_n hC 1 dX11_best_8 rfl rfl ?_
  refine aw_cV2r hC hSt (t_X10_has G l hM _ _ _ (by decide) (h0)) w_665 w_770 w_771 w_772 w_18 rfl rfl (by decide +kernel) ⟨Nat.le_of_ble_eq_true rfl, Nat.le_of_ble_eq_true rfl⟩ (cs_lt 19 10 0 (by decide) hM) (cs_k 19 10 0 (by decide) hM) rfl (Nat.le_of_ble_eq_true rfl) dX11_best_9 ⟨Nat.zero_le _, Nat.zero_le _⟩ ?_
  refine aw_if_eq hC 24 dX11_best_12 (by decide) (fun c1 => ?_) (fun c1 => ?_)
  · refine aw_ldc2 (v := -9000000000000000001) hC w_710 dX11_best_24 ?_
    refine aw_lret hC dX11_best_27 (Nat.le_refl _) (Nat.le_refl _) ?_
    exact FP.qJ ((if_pos c1).trans (rfl))
  · refine aw_iload_n hC 2 dX11_best_15 rfl rfl ?_
    refine aw_iconst (v := 0) hC dX11_best_16 (by decide) ?_
    refine aw_iconst (v := 2) hC dX11_best_17 (by decide) ?_
    refine aw_cS3r hC hSt (t_X11_within G l  _ _ _) w_706 w_712 w_713 w_517 rfl rfl (by decide +kernel) ⟨Nat.le_of_ble_eq_true rfl, Nat.le_of_ble_eq_true rfl⟩ (Nat.le_of_ble_eq_true rfl) dX11_best_18 ⟨Nat.zero_le _, Nat.zero_le _⟩ ?_
    refine aw_if_ne hC 28 dX11_best_21 (by decide) (fun c2 => ?_) (fun c2 => ?_)
    · refine aw_aload_n hC 0 dX11_best_28 rfl rfl ?_
      refine aw_getP (b := 35) hC hSt 5 (cs_lt 0 11 0 (by decide) hM) (cs_k 0 11 0 (by decide) hM) rfl (by decide) w_684 rfl (cs_p 0 5 35 (by decide) hM) dX11_best_29 ?_
      refine aw_aload_n hC 0 dX11_best_32 rfl rfl ?_
      refine aw_getP (b := 18) hC hSt 2 (cs_lt 0 11 0 (by decide) hM) (cs_k 0 11 0 (by decide) hM) rfl (by decide) w_678 rfl (cs_p 0 2 18 (by decide) hM) dX11_best_33 ?_
      refine aw_iload_n hC 1 dX11_best_36 rfl rfl ?_
      refine aw_cV2v hC hSt (t_X6_seekBest G l hM _ _ (by decide) (h1 c1 c2)) w_576 w_845 w_846 w_847 w_540 rfl rfl (by decide +kernel) ⟨Nat.le_of_ble_eq_true rfl, Nat.le_of_ble_eq_true rfl⟩ (cs_lt 35 6 0 (by decide) hM) (cs_k 35 6 0 (by decide) hM) rfl (Nat.le_of_ble_eq_true rfl) dX11_best_37 ⟨Nat.zero_le _, Nat.zero_le _⟩ ?_
      generalize er3 : f_X6_seekBest S 35 18 a1 = r3
      have hM : CS r3 := CS.of (by rw [← er3]; exact q_X6_seekBest _ _ _ _) hM
      refine aw_iload_n hC 2 dX11_best_40 rfl rfl ?_
      refine aw_cut (S' := r3) (pc' := 77) (lv' := [(0, .ref 0), (1, .int a1), (2, .int a2)]) (st' := [.long (if a2 = 0 then (gI r3 35 8).toInt64 else (f_X11_lowest r3 (gI r3 35 9).toInt64 (gI r3 35 10).toInt64 (a2 - (1 : Int32))))]) ?_ (fun Jc4 => ?_)
      · generalize ex5 : (if a2 = 0 then (gI r3 35 8).toInt64 else (f_X11_lowest r3 (gI r3 35 9).toInt64 (gI r3 35 10).toInt64 (a2 - (1 : Int32)))) = x5
        refine aw_lret hC dX11_best_77 (Nat.le_refl _) (Nat.le_refl _) ?_
        exact FP.qJ ((if_neg c1).trans ((if_neg c2).trans ((bd_eq er3).trans ((bd_eq ex5).trans (rfl)))))
      · refine aw_if_ne hC 55 dX11_best_41 (by decide) (fun c4 => ?_) (fun c4 => ?_)
        · refine aw_aload_n hC 0 dX11_best_55 rfl rfl ?_
          refine aw_getP (b := 35) hC hSt 5 (cs_lt 0 11 0 (by decide) hM) (cs_k 0 11 0 (by decide) hM) rfl (by decide) w_684 rfl (cs_p 0 5 35 (by decide) hM) dX11_best_56 ?_
          refine aw_getI hC hSt 9 (cs_lt 35 6 0 (by decide) hM) (cs_k 35 6 0 (by decide) hM) rfl (by decide) w_843 rfl dX11_best_59 ?_
          refine aw_i2l hC dX11_best_62 ?_
          refine aw_aload_n hC 0 dX11_best_63 rfl rfl ?_
          refine aw_getP (b := 35) hC hSt 5 (cs_lt 0 11 0 (by decide) hM) (cs_k 0 11 0 (by decide) hM) rfl (by decide) w_684 rfl (cs_p 0 5 35 (by decide) hM) dX11_best_64 ?_
          refine aw_getI hC hSt 10 (cs_lt 35 6 0 (by decide) hM) (cs_k 35 6 0 (by decide) hM) rfl (by decide) w_844 rfl dX11_best_67 ?_
          refine aw_i2l hC dX11_best_70 ?_
          refine aw_iload_n hC 2 dX11_best_71 rfl rfl ?_
          refine aw_iconst (v := 1) hC dX11_best_72 (by decide) ?_
          refine aw_isub hC dX11_best_73 ?_
          refine aw_cS3r hC hSt (t_X11_lowest G l  _ _ _ (h2 c1 c2 r3 er3 c4)) w_514 w_815 w_523 w_517 rfl rfl (by decide +kernel) ⟨Nat.le_of_ble_eq_true rfl, Nat.le_of_ble_eq_true rfl⟩ (Nat.le_of_ble_eq_true rfl) dX11_best_74 ⟨Nat.zero_le _, Nat.zero_le _⟩ ?_
          simp only [bd_def, if_neg c4] at Jc4 ⊢
          exact Jc4
        · refine aw_aload_n hC 0 dX11_best_44 rfl rfl ?_
          refine aw_getP (b := 35) hC hSt 5 (cs_lt 0 11 0 (by decide) hM) (cs_k 0 11 0 (by decide) hM) rfl (by decide) w_684 rfl (cs_p 0 5 35 (by decide) hM) dX11_best_45 ?_
          refine aw_getI hC hSt 8 (cs_lt 35 6 0 (by decide) hM) (cs_k 35 6 0 (by decide) hM) rfl (by decide) w_842 rfl dX11_best_48 ?_
          refine aw_i2l hC dX11_best_51 ?_
          refine aw_goto hC 77 dX11_best_52 (by decide) ?_
          simp only [bd_def, if_pos c4] at Jc4 ⊢
          exact Jc4
    · refine aw_ldc2 (v := -9000000000000000001) hC w_710 dX11_best_24 ?_
      refine aw_lret hC dX11_best_27 (Nat.le_refl _) (Nat.le_refl _) ?_
      exact FP.qJ ((if_neg c1).trans ((if_pos c2).trans (rfl)))
theorem q_X11_best (S : HSt) (_o0 : Nat) (a1 : Int32) (a2 : Int32) : shp ((f_X11_best S _o0 a1 a2).2) = shp S := by
  unfold f_X11_best
  repeat' (first | with_reducible refine shpr1 ?_ | with_reducible rfl | with_reducible refine (q_X6_seekBest _ _ _ _).trans ?_ | with_reducible refine (shp_sI _ _ _ _).trans ?_ | with_reducible refine (shp_sJ _ _ _ _).trans ?_ | with_reducible refine (shp_rI _ _ _).trans ?_ | with_reducible refine shi ?_ ?_ | with_reducible refine shb (fun _ _ => ?_) | with_reducible refine shiP (fun q : Int64 × HSt => q.2) ?_ ?_ | with_reducible refine shbP (fun q : Int64 × HSt => q.2) (fun _ _ => ?_) | (subst_vars; with_reducible rfl) | (subst_vars; with_reducible refine (q_X6_seekBest _ _ _ _).trans ?_) | (subst_vars; with_reducible refine (shp_sI _ _ _ _).trans ?_) | (subst_vars; with_reducible refine (shp_sJ _ _ _ _).trans ?_) | (subst_vars; with_reducible refine (shp_rI _ _ _).trans ?_) | (subst_vars; with_reducible refine shi ?_ ?_) | (subst_vars; with_reducible refine shb (fun _ _ => ?_)))
theorem v_X11_best (S : HSt) (_o0 : Nat) (a1 : Int32) (a2 : Int32) : Fr [(35, 10), (35, 8), (35, 9), (36, 0), (36, 1), (36, 2), (36, 3), (36, 4), (36, 5), (36, 6), (37, 0), (37, 1), (37, 10), (37, 2), (37, 3), (37, 4), (37, 5), (37, 6), (37, 7), (37, 8), (37, 9)] S ((f_X11_best S _o0 a1 a2).2) := by
  unfold f_X11_best
  repeat' (first | with_reducible refine frpr1 ?_ | with_reducible exact Fr.refl _ _ | with_reducible refine Fr.lP (fun q : Int64 × HSt => q.2) (fun _ _ => ?_) | with_reducible refine Fr.iteP (fun q : Int64 × HSt => q.2) ?_ ?_ | with_reducible refine Fr.l1 (fun _ _ => ?_) | with_reducible refine Fr.ite ?_ ?_ | with_reducible refine Fr.sE (by assumption) (by first | decide | simp only [List.mem_cons, List.not_mem_nil, or_false, true_or, or_true, eq_self_iff_true]) ?_ | with_reducible refine Fr.jE (by assumption) ?_ | with_reducible refine Fr.rE (by assumption) (by first | decide | simp only [List.mem_cons, List.not_mem_nil, or_false, true_or, or_true, eq_self_iff_true]) ?_ | with_reducible refine Fr.iE (by assumption) ?_ ?_ | with_reducible refine Fr.tr (w_X6_seekBest _ _ _ _ _ (by assumption)) (by first | decide | simp only [List.mem_cons, List.not_mem_nil, or_false, forall_eq_or_imp, forall_eq, true_or, or_true, and_self, eq_self_iff_true]) ?_)
theorem w_X11_best (S : HSt) (_o0 : Nat) (a1 : Int32) (a2 : Int32) (r : Int64 × HSt) (e : f_X11_best S _o0 a1 a2 = r) : Fr [(35, 10), (35, 8), (35, 9), (36, 0), (36, 1), (36, 2), (36, 3), (36, 4), (36, 5), (36, 6), (37, 0), (37, 1), (37, 10), (37, 2), (37, 3), (37, 4), (37, 5), (37, 6), (37, 7), (37, 8), (37, 9)] S r.2 := by
  rw [← e]
  exact v_X11_best S _o0 a1 a2
noncomputable def f_X11_show (S : HSt) (_o0 : Nat) (a1 : Int32) : Int64 × HSt := if (-1 : Int32) ≤ a1 then (if (gI S 18 2) = 0 then (pr ((-9000000000000000002 : Int64)) (S)) else (bd (f_X8_seekShow S 38 19) fun r3 => bd ((if a1 = (-1 : Int32) then (f_X8_showLength r3 38).toInt64 else (f_X8_formAt r3 38 a1).toInt64)) fun x5 => pr (x5) (r3))) else (pr ((-9000000000000000001 : Int64)) (S))
def p_X11_show (S : HSt) (_o0 : Nat) (a1 : Int32) : Prop := (((-1 : Int32) ≤ a1) → (¬ (gI S 18 2) = 0) → p_X8_seekShow S 38 19) ∧ (((-1 : Int32) ≤ a1) → (¬ (gI S 18 2) = 0) → ∀ r3, f_X8_seekShow S 38 19 = r3 → (¬ a1 = (-1 : Int32)) → p_X8_formAt r3 38 a1)
set_option maxRecDepth 100000 in
theorem t_X11_show (G : GG) (l : Launch) {S : HSt} (hM : CS S) (a1 : Int32)  (hp : p_X11_show S 0 a1) : AM G l yX11_show cX11_show 2 (some .long) (rmD 5 0 0) 0 0 [.ref 0, .int a1] S (FP (some (.long (f_X11_show S 0 a1).1)) ((f_X11_show S 0 a1).2)) := by
  obtain ⟨h0, h1⟩ := hp
  refine AM.mk (by decide) (Nat.le_of_ble_eq_true rfl) ?_
  intro p e s m below meth c hC hSt _
  refine aw_iload_n hC 1 dX11_show_0 rfl rfl ?_
  refine aw_iconst (v := -1) hC dX11_show_1 (by decide) ?_
  refine aw_icmp_ge hC 9 dX11_show_2 (by decide) (fun c1 => ?_) (fun c1 => ?_)
  · refine aw_aload_n hC 0 dX11_show_9 rfl rfl ?_
    refine aw_getP (b := 18) hC hSt 2 (cs_lt 0 11 0 (by decide) hM) (cs_k 0 11 0 (by decide) hM) rfl (by decide) w_678 rfl (cs_p 0 2 18 (by decide) hM) dX11_show_10 ?_
    refine aw_getI hC hSt 2 (cs_lt 18 7 0 (by decide) hM) (cs_k 18 7 0 (by decide) hM) rfl (by decide) w_783 rfl dX11_show_13 ?_
    refine aw_if_ne hC 23 dX11_show_16 (by decide) (fun c2 => ?_) (fun c2 => ?_)
    · refine aw_aload_n hC 0 dX11_show_23 rfl rfl ?_
      refine aw_getP (b := 38) hC hSt 6 (cs_lt 0 11 0 (by decide) hM) (cs_k 0 11 0 (by decide) hM) rfl (by decide) w_687 rfl (cs_p 0 6 38 (by decide) hM) dX11_show_24 ?_
      refine aw_aload_n hC 0 dX11_show_27 rfl rfl ?_
      refine aw_getP (b := 18) hC hSt 2 (cs_lt 0 11 0 (by decide) hM) (cs_k 0 11 0 (by decide) hM) rfl (by decide) w_678 rfl (cs_p 0 2 18 (by decide) hM) dX11_show_28 ?_
      refine aw_getP (b := 19) hC hSt 0 (cs_lt 18 7 0 (by decide) hM) (cs_k 18 7 0 (by decide) hM) rfl (by decide) w_750 rfl (cs_p 18 0 19 (by decide) hM) dX11_show_31 ?_
      refine aw_cV1v hC hSt (t_X8_seekShow G l hM _ (by decide) (h0 c1 c2)) w_637 w_863 w_864 w_865 w_625 rfl rfl (by decide +kernel) ⟨Nat.le_of_ble_eq_true rfl, Nat.le_of_ble_eq_true rfl⟩ (cs_lt 38 8 0 (by decide) hM) (cs_k 38 8 0 (by decide) hM) rfl (Nat.le_of_ble_eq_true rfl) dX11_show_34 ⟨Nat.zero_le _, Nat.zero_le _⟩ ?_
      generalize er3 : f_X8_seekShow S 38 19 = r3
      have hM : CS r3 := CS.of (by rw [← er3]; exact q_X8_seekShow _ _ _) hM
      refine aw_iload_n hC 1 dX11_show_37 rfl rfl ?_
      refine aw_iconst (v := -1) hC dX11_show_38 (by decide) ?_
      refine aw_cut (S' := r3) (pc' := 62) (lv' := [(0, .ref 0), (1, .int a1)]) (st' := [.long (if a1 = (-1 : Int32) then (f_X8_showLength r3 38).toInt64 else (f_X8_formAt r3 38 a1).toInt64)]) ?_ (fun Jc4 => ?_)
      · generalize ex5 : (if a1 = (-1 : Int32) then (f_X8_showLength r3 38).toInt64 else (f_X8_formAt r3 38 a1).toInt64) = x5
        refine aw_lret hC dX11_show_62 (Nat.le_refl _) (Nat.le_refl _) ?_
        exact FP.qJ ((if_pos c1).trans ((if_neg c2).trans ((bd_eq er3).trans ((bd_eq ex5).trans (rfl)))))
      · refine aw_icmp_ne hC 53 dX11_show_39 (by decide) (fun c4 => ?_) (fun c4 => ?_)
        · refine aw_aload_n hC 0 dX11_show_53 rfl rfl ?_
          refine aw_getP (b := 38) hC hSt 6 (cs_lt 0 11 0 (by decide) hM) (cs_k 0 11 0 (by decide) hM) rfl (by decide) w_687 rfl (cs_p 0 6 38 (by decide) hM) dX11_show_54 ?_
          refine aw_iload_n hC 1 dX11_show_57 rfl rfl ?_
          refine aw_cV1r hC hSt (t_X8_formAt G l hM _ (h1 c1 c2 r3 er3 c4)) w_639 w_869 w_870 w_871 w_625 rfl rfl (by decide +kernel) ⟨Nat.le_of_ble_eq_true rfl, Nat.le_of_ble_eq_true rfl⟩ (cs_lt 38 8 0 (by decide) hM) (cs_k 38 8 0 (by decide) hM) rfl (Nat.le_of_ble_eq_true rfl) dX11_show_58 ⟨Nat.zero_le _, Nat.zero_le _⟩ ?_
          refine aw_i2l hC dX11_show_61 ?_
          simp only [bd_def, if_neg c4] at Jc4 ⊢
          exact Jc4
        · refine aw_aload_n hC 0 dX11_show_42 rfl rfl ?_
          refine aw_getP (b := 38) hC hSt 6 (cs_lt 0 11 0 (by decide) hM) (cs_k 0 11 0 (by decide) hM) rfl (by decide) w_687 rfl (cs_p 0 6 38 (by decide) hM) dX11_show_43 ?_
          refine aw_cV0r hC hSt (t_X8_showLength G l hM ) w_638 w_866 w_867 w_868 w_625 rfl rfl (by decide +kernel) ⟨Nat.le_of_ble_eq_true rfl, Nat.le_of_ble_eq_true rfl⟩ (cs_lt 38 8 0 (by decide) hM) (cs_k 38 8 0 (by decide) hM) rfl (Nat.le_of_ble_eq_true rfl) dX11_show_46 ⟨Nat.zero_le _, Nat.zero_le _⟩ ?_
          refine aw_i2l hC dX11_show_49 ?_
          refine aw_goto hC 62 dX11_show_50 (by decide) ?_
          simp only [bd_def, if_pos c4] at Jc4 ⊢
          exact Jc4
    · refine aw_ldc2 (v := -9000000000000000002) hC w_785 dX11_show_19 ?_
      refine aw_lret hC dX11_show_22 (Nat.le_refl _) (Nat.le_refl _) ?_
      exact FP.qJ ((if_pos c1).trans ((if_pos c2).trans (rfl)))
  · refine aw_ldc2 (v := -9000000000000000001) hC w_710 dX11_show_5 ?_
    refine aw_lret hC dX11_show_8 (Nat.le_refl _) (Nat.le_refl _) ?_
    exact FP.qJ ((if_neg c1).trans (rfl))
theorem q_X11_show (S : HSt) (_o0 : Nat) (a1 : Int32) : shp ((f_X11_show S _o0 a1).2) = shp S := by
  unfold f_X11_show
  repeat' (first | with_reducible refine shpr1 ?_ | with_reducible rfl | with_reducible refine (q_X8_seekShow _ _ _).trans ?_ | with_reducible refine (shp_sI _ _ _ _).trans ?_ | with_reducible refine (shp_sJ _ _ _ _).trans ?_ | with_reducible refine (shp_rI _ _ _).trans ?_ | with_reducible refine shi ?_ ?_ | with_reducible refine shb (fun _ _ => ?_) | with_reducible refine shiP (fun q : Int64 × HSt => q.2) ?_ ?_ | with_reducible refine shbP (fun q : Int64 × HSt => q.2) (fun _ _ => ?_) | (subst_vars; with_reducible rfl) | (subst_vars; with_reducible refine (q_X8_seekShow _ _ _).trans ?_) | (subst_vars; with_reducible refine (shp_sI _ _ _ _).trans ?_) | (subst_vars; with_reducible refine (shp_sJ _ _ _ _).trans ?_) | (subst_vars; with_reducible refine (shp_rI _ _ _).trans ?_) | (subst_vars; with_reducible refine shi ?_ ?_) | (subst_vars; with_reducible refine shb (fun _ _ => ?_)))
theorem v_X11_show (S : HSt) (_o0 : Nat) (a1 : Int32) : Fr [(38, 4), (39, 1000), (40, 1000)] S ((f_X11_show S _o0 a1).2) := by
  unfold f_X11_show
  repeat' (first | with_reducible refine frpr1 ?_ | with_reducible exact Fr.refl _ _ | with_reducible refine Fr.lP (fun q : Int64 × HSt => q.2) (fun _ _ => ?_) | with_reducible refine Fr.iteP (fun q : Int64 × HSt => q.2) ?_ ?_ | with_reducible refine Fr.l1 (fun _ _ => ?_) | with_reducible refine Fr.ite ?_ ?_ | with_reducible refine Fr.sE (by assumption) (by first | decide | simp only [List.mem_cons, List.not_mem_nil, or_false, true_or, or_true, eq_self_iff_true]) ?_ | with_reducible refine Fr.jE (by assumption) ?_ | with_reducible refine Fr.rE (by assumption) (by first | decide | simp only [List.mem_cons, List.not_mem_nil, or_false, true_or, or_true, eq_self_iff_true]) ?_ | with_reducible refine Fr.iE (by assumption) ?_ ?_ | with_reducible refine Fr.tr (w_X8_seekShow _ _ _ _ (by assumption)) (by first | decide | simp only [List.mem_cons, List.not_mem_nil, or_false, forall_eq_or_imp, forall_eq, true_or, or_true, and_self, eq_self_iff_true]) ?_)
theorem w_X11_show (S : HSt) (_o0 : Nat) (a1 : Int32) (r : Int64 × HSt) (e : f_X11_show S _o0 a1 = r) : Fr [(38, 4), (39, 1000), (40, 1000)] S r.2 := by
  rw [← e]
  exact v_X11_show S _o0 a1
noncomputable def f_X11_learn (S : HSt) (_o0 : Nat) (a1 : Int32) (a2 : Int32) (a3 : Int32) : Int64 × HSt := if (f_X11_within S a1 (0 : Int32) (100 : Int32)) = 0 then (pr ((-9000000000000000001 : Int64)) (S)) else (if (f_X11_within S a2 (0 : Int32) (100 : Int32)) = 0 then (pr ((-9000000000000000001 : Int64)) (S)) else (if (f_X11_within S a3 (0 : Int32) (1 : Int32)) = 0 then (pr ((-9000000000000000001 : Int64)) (S)) else (if (gI S 18 2) = 0 then (pr ((-9000000000000000002 : Int64)) (S)) else (bd (f_X8_seekTries S 38 19 a2) fun r5 => bd ((if a3 = 0 then (f_X8_triesFrom r5 38 a1).toInt64 else (f_X8_firstRope r5 38 19 a1).toInt64)) fun x7 => pr (x7) (r5)))))
def p_X11_learn (S : HSt) (_o0 : Nat) (a1 : Int32) (a2 : Int32) (a3 : Int32) : Prop := ((¬ (f_X11_within S a1 (0 : Int32) (100 : Int32)) = 0) → (¬ (f_X11_within S a2 (0 : Int32) (100 : Int32)) = 0) → (¬ (f_X11_within S a3 (0 : Int32) (1 : Int32)) = 0) → (¬ (gI S 18 2) = 0) → p_X8_seekTries S 38 19 a2) ∧ ((¬ (f_X11_within S a1 (0 : Int32) (100 : Int32)) = 0) → (¬ (f_X11_within S a2 (0 : Int32) (100 : Int32)) = 0) → (¬ (f_X11_within S a3 (0 : Int32) (1 : Int32)) = 0) → (¬ (gI S 18 2) = 0) → ∀ r5, f_X8_seekTries S 38 19 a2 = r5 → (¬ a3 = 0) → p_X8_firstRope r5 38 19 a1) ∧ ((¬ (f_X11_within S a1 (0 : Int32) (100 : Int32)) = 0) → (¬ (f_X11_within S a2 (0 : Int32) (100 : Int32)) = 0) → (¬ (f_X11_within S a3 (0 : Int32) (1 : Int32)) = 0) → (¬ (gI S 18 2) = 0) → ∀ r5, f_X8_seekTries S 38 19 a2 = r5 → (a3 = 0) → p_X8_triesFrom r5 38 a1)
set_option maxRecDepth 100000 in
theorem t_X11_learn (G : GG) (l : Launch) {S : HSt} (hM : CS S) (a1 : Int32) (a2 : Int32) (a3 : Int32)  (hp : p_X11_learn S 0 a1 a2 a3) : AM G l yX11_learn cX11_learn 4 (some .long) (rmD 4 0 0) 0 0 [.ref 0, .int a1, .int a2, .int a3] S (FP (some (.long (f_X11_learn S 0 a1 a2 a3).1)) ((f_X11_learn S 0 a1 a2 a3).2)) := by
  obtain ⟨h0, h1, h2⟩ := hp
  refine AM.mk (by decide) (Nat.le_of_ble_eq_true rfl) ?_
  intro p e s m below meth c hC hSt _
  refine aw_iload_n hC 1 dX11_learn_0 rfl rfl ?_
  refine aw_iconst (v := 0) hC dX11_learn_1 (by decide) ?_
  refine aw_bipush (v := 100) hC dX11_learn_2 (by decide) ?_
  refine aw_cS3r hC hSt (t_X11_within G l  _ _ _) w_706 w_712 w_713 w_517 rfl rfl (by decide +kernel) ⟨Nat.le_of_ble_eq_true rfl, Nat.le_of_ble_eq_true rfl⟩ (Nat.le_of_ble_eq_true rfl) dX11_learn_4 ⟨Nat.zero_le _, Nat.zero_le _⟩ ?_
  refine aw_if_eq hC 29 dX11_learn_7 (by decide) (fun c1 => ?_) (fun c1 => ?_)
  · refine aw_ldc2 (v := -9000000000000000001) hC w_710 dX11_learn_29 ?_
    refine aw_lret hC dX11_learn_32 (Nat.le_refl _) (Nat.le_refl _) ?_
    exact FP.qJ ((if_pos c1).trans (rfl))
  · refine aw_iload_n hC 2 dX11_learn_10 rfl rfl ?_
    refine aw_iconst (v := 0) hC dX11_learn_11 (by decide) ?_
    refine aw_bipush (v := 100) hC dX11_learn_12 (by decide) ?_
    refine aw_cS3r hC hSt (t_X11_within G l  _ _ _) w_706 w_712 w_713 w_517 rfl rfl (by decide +kernel) ⟨Nat.le_of_ble_eq_true rfl, Nat.le_of_ble_eq_true rfl⟩ (Nat.le_of_ble_eq_true rfl) dX11_learn_14 ⟨Nat.zero_le _, Nat.zero_le _⟩ ?_
    refine aw_if_eq hC 29 dX11_learn_17 (by decide) (fun c2 => ?_) (fun c2 => ?_)
    · refine aw_ldc2 (v := -9000000000000000001) hC w_710 dX11_learn_29 ?_
      refine aw_lret hC dX11_learn_32 (Nat.le_refl _) (Nat.le_refl _) ?_
      exact FP.qJ ((if_neg c1).trans ((if_pos c2).trans (rfl)))
    · refine aw_iload_n hC 3 dX11_learn_20 rfl rfl ?_
      refine aw_iconst (v := 0) hC dX11_learn_21 (by decide) ?_
      refine aw_iconst (v := 1) hC dX11_learn_22 (by decide) ?_
      refine aw_cS3r hC hSt (t_X11_within G l  _ _ _) w_706 w_712 w_713 w_517 rfl rfl (by decide +kernel) ⟨Nat.le_of_ble_eq_true rfl, Nat.le_of_ble_eq_true rfl⟩ (Nat.le_of_ble_eq_true rfl) dX11_learn_23 ⟨Nat.zero_le _, Nat.zero_le _⟩ ?_
      refine aw_if_ne hC 33 dX11_learn_26 (by decide) (fun c3 => ?_) (fun c3 => ?_)
      · refine aw_aload_n hC 0 dX11_learn_33 rfl rfl ?_
        refine aw_getP (b := 18) hC hSt 2 (cs_lt 0 11 0 (by decide) hM) (cs_k 0 11 0 (by decide) hM) rfl (by decide) w_678 rfl (cs_p 0 2 18 (by decide) hM) dX11_learn_34 ?_
        refine aw_getI hC hSt 2 (cs_lt 18 7 0 (by decide) hM) (cs_k 18 7 0 (by decide) hM) rfl (by decide) w_783 rfl dX11_learn_37 ?_
        refine aw_if_ne hC 47 dX11_learn_40 (by decide) (fun c4 => ?_) (fun c4 => ?_)
        · refine aw_aload_n hC 0 dX11_learn_47 rfl rfl ?_
          refine aw_getP (b := 38) hC hSt 6 (cs_lt 0 11 0 (by decide) hM) (cs_k 0 11 0 (by decide) hM) rfl (by decide) w_687 rfl (cs_p 0 6 38 (by decide) hM) dX11_learn_48 ?_
          refine aw_aload_n hC 0 dX11_learn_51 rfl rfl ?_
          refine aw_getP (b := 18) hC hSt 2 (cs_lt 0 11 0 (by decide) hM) (cs_k 0 11 0 (by decide) hM) rfl (by decide) w_678 rfl (cs_p 0 2 18 (by decide) hM) dX11_learn_52 ?_
          refine aw_getP (b := 19) hC hSt 0 (cs_lt 18 7 0 (by decide) hM) (cs_k 18 7 0 (by decide) hM) rfl (by decide) w_750 rfl (cs_p 18 0 19 (by decide) hM) dX11_learn_55 ?_
          refine aw_iload_n hC 2 dX11_learn_58 rfl rfl ?_
          refine aw_cV2v hC hSt (t_X8_seekTries G l hM _ _ (by decide) (h0 c1 c2 c3 c4)) w_650 w_873 w_874 w_875 w_625 rfl rfl (by decide +kernel) ⟨Nat.le_of_ble_eq_true rfl, Nat.le_of_ble_eq_true rfl⟩ (cs_lt 38 8 0 (by decide) hM) (cs_k 38 8 0 (by decide) hM) rfl (Nat.le_of_ble_eq_true rfl) dX11_learn_59 ⟨Nat.zero_le _, Nat.zero_le _⟩ ?_
          generalize er5 : f_X8_seekTries S 38 19 a2 = r5
          have hM : CS r5 := CS.of (by rw [← er5]; exact q_X8_seekTries _ _ _ _) hM
          refine aw_iload_n hC 3 dX11_learn_62 rfl rfl ?_
          refine aw_cut (S' := r5) (pc' := 94) (lv' := [(0, .ref 0), (1, .int a1), (2, .int a2), (3, .int a3)]) (st' := [.long (if a3 = 0 then (f_X8_triesFrom r5 38 a1).toInt64 else (f_X8_firstRope r5 38 19 a1).toInt64)]) ?_ (fun Jc6 => ?_)
          · generalize ex7 : (if a3 = 0 then (f_X8_triesFrom r5 38 a1).toInt64 else (f_X8_firstRope r5 38 19 a1).toInt64) = x7
            refine aw_lret hC dX11_learn_94 (Nat.le_refl _) (Nat.le_refl _) ?_
            exact FP.qJ ((if_neg c1).trans ((if_neg c2).trans ((if_neg c3).trans ((if_neg c4).trans ((bd_eq er5).trans ((bd_eq ex7).trans (rfl)))))))
          · refine aw_if_ne hC 78 dX11_learn_63 (by decide) (fun c6 => ?_) (fun c6 => ?_)
            · refine aw_aload_n hC 0 dX11_learn_78 rfl rfl ?_
              refine aw_getP (b := 38) hC hSt 6 (cs_lt 0 11 0 (by decide) hM) (cs_k 0 11 0 (by decide) hM) rfl (by decide) w_687 rfl (cs_p 0 6 38 (by decide) hM) dX11_learn_79 ?_
              refine aw_aload_n hC 0 dX11_learn_82 rfl rfl ?_
              refine aw_getP (b := 18) hC hSt 2 (cs_lt 0 11 0 (by decide) hM) (cs_k 0 11 0 (by decide) hM) rfl (by decide) w_678 rfl (cs_p 0 2 18 (by decide) hM) dX11_learn_83 ?_
              refine aw_getP (b := 19) hC hSt 0 (cs_lt 18 7 0 (by decide) hM) (cs_k 18 7 0 (by decide) hM) rfl (by decide) w_750 rfl (cs_p 18 0 19 (by decide) hM) dX11_learn_86 ?_
              refine aw_iload_n hC 1 dX11_learn_89 rfl rfl ?_
              refine aw_cV2r hC hSt (t_X8_firstRope G l hM _ _ (by decide) (h1 c1 c2 c3 c4 r5 er5 c6)) w_655 w_877 w_878 w_879 w_625 rfl rfl (by decide +kernel) ⟨Nat.le_of_ble_eq_true rfl, Nat.le_of_ble_eq_true rfl⟩ (cs_lt 38 8 0 (by decide) hM) (cs_k 38 8 0 (by decide) hM) rfl (Nat.le_of_ble_eq_true rfl) dX11_learn_90 ⟨Nat.zero_le _, Nat.zero_le _⟩ ?_
              refine aw_i2l hC dX11_learn_93 ?_
              simp only [bd_def, if_neg c6] at Jc6 ⊢
              exact Jc6
            · refine aw_aload_n hC 0 dX11_learn_66 rfl rfl ?_
              refine aw_getP (b := 38) hC hSt 6 (cs_lt 0 11 0 (by decide) hM) (cs_k 0 11 0 (by decide) hM) rfl (by decide) w_687 rfl (cs_p 0 6 38 (by decide) hM) dX11_learn_67 ?_
              refine aw_iload_n hC 1 dX11_learn_70 rfl rfl ?_
              refine aw_cV1r hC hSt (t_X8_triesFrom G l hM _ (h2 c1 c2 c3 c4 r5 er5 c6)) w_651 w_876 w_653 w_654 w_625 rfl rfl (by decide +kernel) ⟨Nat.le_of_ble_eq_true rfl, Nat.le_of_ble_eq_true rfl⟩ (cs_lt 38 8 0 (by decide) hM) (cs_k 38 8 0 (by decide) hM) rfl (Nat.le_of_ble_eq_true rfl) dX11_learn_71 ⟨Nat.zero_le _, Nat.zero_le _⟩ ?_
              refine aw_i2l hC dX11_learn_74 ?_
              refine aw_goto hC 94 dX11_learn_75 (by decide) ?_
              simp only [bd_def, if_pos c6] at Jc6 ⊢
              exact Jc6
        · refine aw_ldc2 (v := -9000000000000000002) hC w_785 dX11_learn_43 ?_
          refine aw_lret hC dX11_learn_46 (Nat.le_refl _) (Nat.le_refl _) ?_
          exact FP.qJ ((if_neg c1).trans ((if_neg c2).trans ((if_neg c3).trans ((if_pos c4).trans (rfl)))))
      · refine aw_ldc2 (v := -9000000000000000001) hC w_710 dX11_learn_29 ?_
        refine aw_lret hC dX11_learn_32 (Nat.le_refl _) (Nat.le_refl _) ?_
        exact FP.qJ ((if_neg c1).trans ((if_neg c2).trans ((if_pos c3).trans (rfl))))
theorem q_X11_learn (S : HSt) (_o0 : Nat) (a1 : Int32) (a2 : Int32) (a3 : Int32) : shp ((f_X11_learn S _o0 a1 a2 a3).2) = shp S := by
  unfold f_X11_learn
  repeat' (first | with_reducible refine shpr1 ?_ | with_reducible rfl | with_reducible refine (q_X8_seekTries _ _ _ _).trans ?_ | with_reducible refine (shp_sI _ _ _ _).trans ?_ | with_reducible refine (shp_sJ _ _ _ _).trans ?_ | with_reducible refine (shp_rI _ _ _).trans ?_ | with_reducible refine shi ?_ ?_ | with_reducible refine shb (fun _ _ => ?_) | with_reducible refine shiP (fun q : Int64 × HSt => q.2) ?_ ?_ | with_reducible refine shbP (fun q : Int64 × HSt => q.2) (fun _ _ => ?_) | (subst_vars; with_reducible rfl) | (subst_vars; with_reducible refine (q_X8_seekTries _ _ _ _).trans ?_) | (subst_vars; with_reducible refine (shp_sI _ _ _ _).trans ?_) | (subst_vars; with_reducible refine (shp_sJ _ _ _ _).trans ?_) | (subst_vars; with_reducible refine (shp_rI _ _ _).trans ?_) | (subst_vars; with_reducible refine shi ?_ ?_) | (subst_vars; with_reducible refine shb (fun _ _ => ?_)))
theorem v_X11_learn (S : HSt) (_o0 : Nat) (a1 : Int32) (a2 : Int32) (a3 : Int32) : Fr [(41, 1000)] S ((f_X11_learn S _o0 a1 a2 a3).2) := by
  unfold f_X11_learn
  repeat' (first | with_reducible refine frpr1 ?_ | with_reducible exact Fr.refl _ _ | with_reducible refine Fr.lP (fun q : Int64 × HSt => q.2) (fun _ _ => ?_) | with_reducible refine Fr.iteP (fun q : Int64 × HSt => q.2) ?_ ?_ | with_reducible refine Fr.l1 (fun _ _ => ?_) | with_reducible refine Fr.ite ?_ ?_ | with_reducible refine Fr.sE (by assumption) (by first | decide | simp only [List.mem_cons, List.not_mem_nil, or_false, true_or, or_true, eq_self_iff_true]) ?_ | with_reducible refine Fr.jE (by assumption) ?_ | with_reducible refine Fr.rE (by assumption) (by first | decide | simp only [List.mem_cons, List.not_mem_nil, or_false, true_or, or_true, eq_self_iff_true]) ?_ | with_reducible refine Fr.iE (by assumption) ?_ ?_ | with_reducible refine Fr.tr (w_X8_seekTries _ _ _ _ _ (by assumption)) (by first | decide | simp only [List.mem_cons, List.not_mem_nil, or_false, forall_eq_or_imp, forall_eq, true_or, or_true, and_self, eq_self_iff_true]) ?_)
theorem w_X11_learn (S : HSt) (_o0 : Nat) (a1 : Int32) (a2 : Int32) (a3 : Int32) (r : Int64 × HSt) (e : f_X11_learn S _o0 a1 a2 a3 = r) : Fr [(41, 1000)] S r.2 := by
  rw [← e]
  exact v_X11_learn S _o0 a1 a2 a3
noncomputable def L_X11_film_77 : Nat → HSt → Int32 → Int32 → Int32 → Int32 → Int32 → Int32 × Int32 × Int32 × Int32 × Int32 × HSt
  | 0, S, v1, v2, v3, v4, v5 => (v1, v2, v3, v4, v5, S)
  | n + 1, S, v1, v2, v3, v4, v5 =>
    if (9 : Int32) ≤ v5 then ((pr (v1) (pr (v2) (pr (v3) (pr (v4) (pr (v5) (S))))))) else (bd (f_X8_isHandOf S 38 v5 18 1 v1 v2 v3) fun r1007 => bd ((if r1007.1 = 0 then v4 else (bd ((v4 ||| ((1 : Int32) <<< (v5 &&& 31)))) fun x1009 => x1009))) fun x1010 => L_X11_film_77 n r1007.2 v1 v2 v3 x1010 (v5 + (1 : Int32)))
def T_X11_film_77 : Nat → HSt → Int32 → Int32 → Int32 → Int32 → Int32 → Prop
  | 0, _, _, _, _, _, _ => False
  | n + 1, S, v1, v2, v3, v4, v5 => ((¬ (9 : Int32) ≤ v5) → p_X8_isHandOf S 38 v5 18 1 v1 v2 v3) ∧ ((¬ (9 : Int32) ≤ v5) → ∀ r1007, f_X8_isHandOf S 38 v5 18 1 v1 v2 v3 = r1007 → ∀ x1010 : Int32, (if r1007.1 = 0 then v4 else (bd ((v4 ||| ((1 : Int32) <<< (v5 &&& 31)))) fun x1009 => x1009)) = x1010 → T_X11_film_77 n r1007.2 v1 v2 v3 x1010 (v5 + (1 : Int32)))
theorem qL_X11_film_77 : ∀ (n : Nat) (S : HSt) (v1 : Int32) (v2 : Int32) (v3 : Int32) (v4 : Int32) (v5 : Int32), shp (L_X11_film_77 n S v1 v2 v3 v4 v5).2.2.2.2.2 = shp S := by
  intro n
  induction n with
  | zero => intros; rfl
  | succ n ih =>
    intro S v1 v2 v3 v4 v5
    unfold L_X11_film_77
    repeat' (first | with_reducible refine shpr5 ?_ | with_reducible rfl | with_reducible refine (ih _ _ _ _ _ _).trans ?_ | with_reducible refine (q_X11_fine _ _ _).trans ?_ | with_reducible refine (q_X11_found _ _ _).trans ?_ | with_reducible refine (q_X8_isHandOf _ _ _ _ _ _ _ _).trans ?_ | with_reducible refine (shp_sI _ _ _ _).trans ?_ | with_reducible refine (shp_sJ _ _ _ _).trans ?_ | with_reducible refine (shp_rI _ _ _).trans ?_ | with_reducible refine shi ?_ ?_ | with_reducible refine shb (fun _ _ => ?_) | with_reducible refine shiP (fun q : Int32 × Int32 × Int32 × Int32 × Int32 × HSt => q.2.2.2.2.2) ?_ ?_ | with_reducible refine shbP (fun q : Int32 × Int32 × Int32 × Int32 × Int32 × HSt => q.2.2.2.2.2) (fun _ _ => ?_) | (subst_vars; with_reducible rfl) | (subst_vars; with_reducible refine (ih _ _ _ _ _ _).trans ?_) | (subst_vars; with_reducible refine (q_X11_fine _ _ _).trans ?_) | (subst_vars; with_reducible refine (q_X11_found _ _ _).trans ?_) | (subst_vars; with_reducible refine (q_X8_isHandOf _ _ _ _ _ _ _ _).trans ?_) | (subst_vars; with_reducible refine (shp_sI _ _ _ _).trans ?_) | (subst_vars; with_reducible refine (shp_sJ _ _ _ _).trans ?_) | (subst_vars; with_reducible refine (shp_rI _ _ _).trans ?_) | (subst_vars; with_reducible refine shi ?_ ?_) | (subst_vars; with_reducible refine shb (fun _ _ => ?_)))
theorem vL_X11_film_77 : ∀ (n : Nat) (S : HSt) (v1 : Int32) (v2 : Int32) (v3 : Int32) (v4 : Int32) (v5 : Int32), Fr [(42, 0), (42, 1), (42, 2), (42, 3), (42, 4), (42, 5), (42, 6)] S (L_X11_film_77 n S v1 v2 v3 v4 v5).2.2.2.2.2 := by
  intro n
  induction n with
  | zero => intros; exact Fr.refl _ _
  | succ n ih =>
    intro S v1 v2 v3 v4 v5
    unfold L_X11_film_77
    repeat' (first | with_reducible refine frpr5 ?_ | with_reducible exact Fr.refl _ _ | with_reducible refine Fr.lP (fun q : Int32 × Int32 × Int32 × Int32 × Int32 × HSt => q.2.2.2.2.2) (fun _ _ => ?_) | with_reducible refine Fr.iteP (fun q : Int32 × Int32 × Int32 × Int32 × Int32 × HSt => q.2.2.2.2.2) ?_ ?_ | with_reducible refine Fr.l1 (fun _ _ => ?_) | with_reducible refine Fr.ite ?_ ?_ | with_reducible refine Fr.sE (by assumption) (by first | decide | simp only [List.mem_cons, List.not_mem_nil, or_false, true_or, or_true, eq_self_iff_true]) ?_ | with_reducible refine Fr.jE (by assumption) ?_ | with_reducible refine Fr.rE (by assumption) (by first | decide | simp only [List.mem_cons, List.not_mem_nil, or_false, true_or, or_true, eq_self_iff_true]) ?_ | with_reducible refine Fr.iE (by assumption) ?_ ?_ | with_reducible refine Fr.tr (ih _ _ _ _ _ _) (by first | decide | simp only [List.mem_cons, List.not_mem_nil, or_false, forall_eq_or_imp, forall_eq, true_or, or_true, and_self, eq_self_iff_true]) ?_ | with_reducible refine Fr.tr (w_X11_fine _ _ _ _ (by assumption)) (by first | decide | simp only [List.mem_cons, List.not_mem_nil, or_false, forall_eq_or_imp, forall_eq, true_or, or_true, and_self, eq_self_iff_true]) ?_ | with_reducible refine Fr.tr (w_X11_found _ _ _ _ (by assumption)) (by first | decide | simp only [List.mem_cons, List.not_mem_nil, or_false, forall_eq_or_imp, forall_eq, true_or, or_true, and_self, eq_self_iff_true]) ?_ | with_reducible refine Fr.tr (w_X8_isHandOf _ _ _ _ _ _ _ _ _ (by assumption)) (by first | decide | simp only [List.mem_cons, List.not_mem_nil, or_false, forall_eq_or_imp, forall_eq, true_or, or_true, and_self, eq_self_iff_true]) ?_)
theorem wL_X11_film_77 (n : Nat) (S : HSt) (v1 : Int32) (v2 : Int32) (v3 : Int32) (v4 : Int32) (v5 : Int32) (r : Int32 × Int32 × Int32 × Int32 × Int32 × HSt) (e : L_X11_film_77 n S v1 v2 v3 v4 v5 = r) : Fr [(42, 0), (42, 1), (42, 2), (42, 3), (42, 4), (42, 5), (42, 6)] S r.2.2.2.2.2 := by
  rw [← e]
  exact vL_X11_film_77 n S v1 v2 v3 v4 v5
set_option maxRecDepth 100000 in
theorem l_X11_film_77 {p : Program} {l : Launch} {e : Env} {s : State} {m : MethodId} {args : Array Value} {below : List Frame} {meth : Method} {c : Code} {G : GG} {Q : State → Prop} (hC : ACx p s m args meth c cX11_film RX11 6 (some .long)) (hSt : St G s)   : ∀ (n : Nat) (S : HSt) (v1 : Int32) (v2 : Int32) (v3 : Int32) (v4 : Int32) (v5 : Int32), CS S → T_X11_film_77 n S v1 v2 v3 v4 v5 → AW p l e (rmD 5 0 0) s m args below meth c G 6 Q (L_X11_film_77 n S v1 v2 v3 v4 v5).2.2.2.2.2 0 0 122 [(0, .ref 0), (1, .int (L_X11_film_77 n S v1 v2 v3 v4 v5).1), (2, .int (L_X11_film_77 n S v1 v2 v3 v4 v5).2.1), (3, .int (L_X11_film_77 n S v1 v2 v3 v4 v5).2.2.1), (4, .int (L_X11_film_77 n S v1 v2 v3 v4 v5).2.2.2.1), (5, .int (L_X11_film_77 n S v1 v2 v3 v4 v5).2.2.2.2.1)] [] → AW p l e (rmD 5 0 0) s m args below meth c G 6 Q S 0 0 77 [(0, .ref 0), (1, .int v1), (2, .int v2), (3, .int v3), (4, .int v4), (5, .int v5)] [] := by
  intro n
  induction n with
  | zero => intro S v1 v2 v3 v4 v5 _ hT; exact hT.elim
  | succ n ih =>
    intro S v1 v2 v3 v4 v5 hM hT hk
    unfold T_X11_film_77 at hT
    obtain ⟨h0, h1⟩ := hT
    refine aw_iload hC 5 dX11_film_77 rfl ?_
    refine aw_bipush (v := 9) hC dX11_film_79 (by decide) ?_
    refine aw_icmp_ge hC 122 dX11_film_81 (by decide) (fun c1006 => ?_) (fun c1006 => ?_)
    · refine aw_sub [0, 1, 2, 3, 4, 5] rfl ?_
      have E : L_X11_film_77 (n + 1) S v1 v2 v3 v4 v5 = _ := (if_pos c1006).trans (rfl)
      rw [E] at hk
      exact hk
    · refine aw_aload_n hC 0 dX11_film_84 rfl rfl ?_
      refine aw_getP (b := 38) hC hSt 6 (cs_lt 0 11 0 (by decide) hM) (cs_k 0 11 0 (by decide) hM) rfl (by decide) w_687 rfl (cs_p 0 6 38 (by decide) hM) dX11_film_85 ?_
      refine aw_iload hC 5 dX11_film_88 rfl ?_
      refine aw_aload_n hC 0 dX11_film_90 rfl rfl ?_
      refine aw_getP (b := 18) hC hSt 2 (cs_lt 0 11 0 (by decide) hM) (cs_k 0 11 0 (by decide) hM) rfl (by decide) w_678 rfl (cs_p 0 2 18 (by decide) hM) dX11_film_91 ?_
      refine aw_aload_n hC 0 dX11_film_94 rfl rfl ?_
      refine aw_getP (b := 1) hC hSt 0 (cs_lt 0 11 0 (by decide) hM) (cs_k 0 11 0 (by decide) hM) rfl (by decide) w_672 rfl (cs_p 0 0 1 (by decide) hM) dX11_film_95 ?_
      refine aw_iload_n hC 1 dX11_film_98 rfl rfl ?_
      refine aw_iload_n hC 2 dX11_film_99 rfl rfl ?_
      refine aw_iload_n hC 3 dX11_film_100 rfl rfl ?_
      refine aw_cV6r hC hSt (t_X8_isHandOf G l hM _ _ _ _ _ (by decide) (h0 c1006)) w_664 w_881 w_882 w_883 w_625 rfl rfl (by decide +kernel) ⟨Nat.le_of_ble_eq_true rfl, Nat.le_of_ble_eq_true rfl⟩ (cs_lt 38 8 0 (by decide) hM) (cs_k 38 8 0 (by decide) hM) rfl (Nat.le_of_ble_eq_true rfl) dX11_film_101 ⟨Nat.zero_le _, Nat.zero_le _⟩ ?_
      generalize er1007 : f_X8_isHandOf S 38 v5 18 1 v1 v2 v3 = r1007
      have hM : CS r1007.2 := CS.of (by rw [← er1007]; exact q_X8_isHandOf _ _ _ _ _ _ _ _) hM
      refine aw_cut (S' := r1007.2) (pc' := 116) (lv' := [(0, .ref 0), (1, .int v1), (2, .int v2), (3, .int v3), (4, .int (if r1007.1 = 0 then v4 else (bd ((v4 ||| ((1 : Int32) <<< (v5 &&& 31)))) fun x1009 => x1009))), (5, .int v5)]) (st' := []) ?_ (fun Jc1008 => ?_)
      · generalize ex1010 : (if r1007.1 = 0 then v4 else (bd ((v4 ||| ((1 : Int32) <<< (v5 &&& 31)))) fun x1009 => x1009)) = x1010
        refine aw_iinc (v := (v5 + (1 : Int32))) hC 5 [(5, .int _), (0, .ref 0), (1, .int _), (2, .int _), (3, .int _), (4, .int _)] dX11_film_116 rfl rfl (by decide) rfl ?_
        refine aw_goto hC 77 dX11_film_119 (by decide) ?_
        refine aw_sub [1, 2, 3, 4, 5, 0] rfl ?_
        have hTn := (h1 c1006 r1007 er1007 x1010 ex1010)
        have hMn : CS r1007.2 := hM
        have E : L_X11_film_77 (n + 1) S v1 v2 v3 v4 v5 = _ := (if_neg c1006).trans ((bd_eq er1007).trans ((bd_eq ex1010).trans (rfl)))
        rw [E] at hk
        exact ih _ _ _ _ _ _ hMn hTn hk
      · refine aw_if_eq hC 116 dX11_film_104 (by decide) (fun c1008 => ?_) (fun c1008 => ?_)
        · simp only [bd_def, if_pos c1008] at Jc1008 ⊢
          exact Jc1008
        · refine aw_iload hC 4 dX11_film_107 rfl ?_
          refine aw_iconst (v := 1) hC dX11_film_109 (by decide) ?_
          refine aw_iload hC 5 dX11_film_110 rfl ?_
          refine aw_ishl hC dX11_film_112 ?_
          refine aw_ior hC dX11_film_113 ?_
          refine aw_istore hC [(4, .int _), (0, .ref 0), (1, .int _), (2, .int _), (3, .int _), (5, .int _)] dX11_film_114 (by decide) rfl ?_
          generalize ex1009 : (v4 ||| ((1 : Int32) <<< (v5 &&& 31))) = x1009
          refine aw_sub [1, 2, 3, 4, 0, 5] rfl ?_
          subst ex1009
          simp only [bd_def, if_neg c1008] at Jc1008 ⊢
          exact Jc1008
noncomputable def f_X11_film (S : HSt) (_o0 : Nat) (a1 : Int32) (a2 : Int32) (a3 : Int32) : Int64 × HSt := if (f_X5_isRow S a1) = 0 then (pr ((-9000000000000000001 : Int64)) (S)) else (if (f_X11_within S a3 (1 : Int32) (20 : Int32)) = 0 then (pr ((-9000000000000000001 : Int64)) (S)) else (if (gI S 18 2) = 0 then (pr ((-9000000000000000002 : Int64)) (S)) else (if (f_X5_isMissing S 1 a1) = 0 then (if (f_X5_hasPlaces S 1 a1 a2 a3) = 0 then (bd (f_X11_found S 0 (2 : Int32)) fun r8 => pr (r8.1) (r8.2)) else (bd (L_X11_film_77 1000 S a1 a2 a3 (0 : Int32) (0 : Int32)) fun r6 => bd (f_X11_fine r6.2.2.2.2.2 0 r6.2.2.2.1.toInt64) fun r7 => pr (r7.1) (r7.2))) else (bd (f_X11_found S 0 (1 : Int32)) fun r9 => pr (r9.1) (r9.2)))))
def p_X11_film (S : HSt) (_o0 : Nat) (a1 : Int32) (a2 : Int32) (a3 : Int32) : Prop := ((¬ (f_X5_isRow S a1) = 0) → (¬ (f_X11_within S a3 (1 : Int32) (20 : Int32)) = 0) → (¬ (gI S 18 2) = 0) → p_X5_isMissing S 1 a1) ∧ ((¬ (f_X5_isRow S a1) = 0) → (¬ (f_X11_within S a3 (1 : Int32) (20 : Int32)) = 0) → (¬ (gI S 18 2) = 0) → ((f_X5_isMissing S 1 a1) = 0) → p_X5_hasPlaces S 1 a1 a2 a3) ∧ ((¬ (f_X5_isRow S a1) = 0) → (¬ (f_X11_within S a3 (1 : Int32) (20 : Int32)) = 0) → (¬ (gI S 18 2) = 0) → ((f_X5_isMissing S 1 a1) = 0) → (¬ (f_X5_hasPlaces S 1 a1 a2 a3) = 0) → T_X11_film_77 1000 S a1 a2 a3 (0 : Int32) (0 : Int32))
set_option maxRecDepth 100000 in
theorem t_X11_film (G : GG) (l : Launch) {S : HSt} (hM : CS S) (a1 : Int32) (a2 : Int32) (a3 : Int32)  (hp : p_X11_film S 0 a1 a2 a3) : AM G l yX11_film cX11_film 6 (some .long) (rmD 5 0 0) 0 0 [.ref 0, .int a1, .int a2, .int a3] S (FP (some (.long (f_X11_film S 0 a1 a2 a3).1)) ((f_X11_film S 0 a1 a2 a3).2)) := by
  obtain ⟨h0, h1, h2⟩ := hp
  refine AM.mk (by decide) (Nat.le_of_ble_eq_true rfl) ?_
  intro p e s m below meth c hC hSt _
  refine aw_iload_n hC 1 dX11_film_0 rfl rfl ?_
  refine aw_cS1r hC hSt (t_X5_isRow G l  _) w_469 w_711 w_472 w_473 rfl rfl (by decide +kernel) ⟨Nat.le_of_ble_eq_true rfl, Nat.le_of_ble_eq_true rfl⟩ (Nat.le_of_ble_eq_true rfl) dX11_film_1 ⟨Nat.zero_le _, Nat.zero_le _⟩ ?_
  refine aw_if_eq hC 17 dX11_film_4 (by decide) (fun c1 => ?_) (fun c1 => ?_)
  · refine aw_ldc2 (v := -9000000000000000001) hC w_710 dX11_film_17 ?_
    refine aw_lret hC dX11_film_20 (Nat.le_refl _) (Nat.le_refl _) ?_
    exact FP.qJ ((if_pos c1).trans (rfl))
  · refine aw_iload_n hC 3 dX11_film_7 rfl rfl ?_
    refine aw_iconst (v := 1) hC dX11_film_8 (by decide) ?_
    refine aw_bipush (v := 20) hC dX11_film_9 (by decide) ?_
    refine aw_cS3r hC hSt (t_X11_within G l  _ _ _) w_706 w_712 w_713 w_517 rfl rfl (by decide +kernel) ⟨Nat.le_of_ble_eq_true rfl, Nat.le_of_ble_eq_true rfl⟩ (Nat.le_of_ble_eq_true rfl) dX11_film_11 ⟨Nat.zero_le _, Nat.zero_le _⟩ ?_
    refine aw_if_ne hC 21 dX11_film_14 (by decide) (fun c2 => ?_) (fun c2 => ?_)
    · refine aw_aload_n hC 0 dX11_film_21 rfl rfl ?_
      refine aw_getP (b := 18) hC hSt 2 (cs_lt 0 11 0 (by decide) hM) (cs_k 0 11 0 (by decide) hM) rfl (by decide) w_678 rfl (cs_p 0 2 18 (by decide) hM) dX11_film_22 ?_
      refine aw_getI hC hSt 2 (cs_lt 18 7 0 (by decide) hM) (cs_k 18 7 0 (by decide) hM) rfl (by decide) w_783 rfl dX11_film_25 ?_
      refine aw_if_ne hC 35 dX11_film_28 (by decide) (fun c3 => ?_) (fun c3 => ?_)
      · refine aw_aload_n hC 0 dX11_film_35 rfl rfl ?_
        refine aw_getP (b := 1) hC hSt 0 (cs_lt 0 11 0 (by decide) hM) (cs_k 0 11 0 (by decide) hM) rfl (by decide) w_672 rfl (cs_p 0 0 1 (by decide) hM) dX11_film_36 ?_
        refine aw_iload_n hC 1 dX11_film_39 rfl rfl ?_
        refine aw_cV1r hC hSt (t_X5_isMissing G l hM _ (h0 c1 c2 c3)) w_470 w_724 w_478 w_479 w_473 rfl rfl (by decide +kernel) ⟨Nat.le_of_ble_eq_true rfl, Nat.le_of_ble_eq_true rfl⟩ (cs_lt 1 5 0 (by decide) hM) (cs_k 1 5 0 (by decide) hM) rfl (Nat.le_of_ble_eq_true rfl) dX11_film_40 ⟨Nat.zero_le _, Nat.zero_le _⟩ ?_
        refine aw_if_eq hC 52 dX11_film_43 (by decide) (fun c4 => ?_) (fun c4 => ?_)
        · refine aw_aload_n hC 0 dX11_film_52 rfl rfl ?_
          refine aw_getP (b := 1) hC hSt 0 (cs_lt 0 11 0 (by decide) hM) (cs_k 0 11 0 (by decide) hM) rfl (by decide) w_672 rfl (cs_p 0 0 1 (by decide) hM) dX11_film_53 ?_
          refine aw_iload_n hC 1 dX11_film_56 rfl rfl ?_
          refine aw_iload_n hC 2 dX11_film_57 rfl rfl ?_
          refine aw_iload_n hC 3 dX11_film_58 rfl rfl ?_
          refine aw_cV3r hC hSt (t_X5_hasPlaces G l hM _ _ _ (h1 c1 c2 c3 c4)) w_476 w_725 w_483 w_484 w_473 rfl rfl (by decide +kernel) ⟨Nat.le_of_ble_eq_true rfl, Nat.le_of_ble_eq_true rfl⟩ (cs_lt 1 5 0 (by decide) hM) (cs_k 1 5 0 (by decide) hM) rfl (Nat.le_of_ble_eq_true rfl) dX11_film_59 ⟨Nat.zero_le _, Nat.zero_le _⟩ ?_
          refine aw_if_ne hC 71 dX11_film_62 (by decide) (fun c5 => ?_) (fun c5 => ?_)
          · refine aw_iconst (v := 0) hC dX11_film_71 (by decide) ?_
            refine aw_istore hC [(4, .int _), (0, .ref 0), (1, .int _), (2, .int _), (3, .int _)] dX11_film_72 (by decide) rfl ?_
            refine aw_iconst (v := 0) hC dX11_film_74 (by decide) ?_
            refine aw_istore hC [(5, .int _), (4, .int _), (0, .ref 0), (1, .int _), (2, .int _), (3, .int _)] dX11_film_75 (by decide) rfl ?_
            refine aw_sub [2, 3, 4, 5, 1, 0] rfl ?_
            refine l_X11_film_77 hC hSt 1000 _ _ _ _ _ _ hM (h2 c1 c2 c3 c4 c5) ?_
            generalize er6 : L_X11_film_77 1000 S a1 a2 a3 (0 : Int32) (0 : Int32) = r6
            have hM : CS r6.2.2.2.2.2 := CS.of (by rw [← er6]; exact qL_X11_film_77 _ _ _ _ _ _ _) hM
            refine aw_aload_n hC 0 dX11_film_122 rfl rfl ?_
            refine aw_iload hC 4 dX11_film_123 rfl ?_
            refine aw_i2l hC dX11_film_125 ?_
            refine aw_cV1r hC hSt (t_X11_fine G l hM _) w_709 w_720 w_721 w_722 w_517 rfl rfl (by decide +kernel) ⟨Nat.le_of_ble_eq_true rfl, Nat.le_of_ble_eq_true rfl⟩ (cs_lt 0 11 0 (by decide) hM) (cs_k 0 11 0 (by decide) hM) rfl (Nat.le_of_ble_eq_true rfl) dX11_film_126 ⟨Nat.zero_le _, Nat.zero_le _⟩ ?_
            generalize er7 : f_X11_fine r6.2.2.2.2.2 0 r6.2.2.2.1.toInt64 = r7
            have hM : CS r7.2 := CS.of (by rw [← er7]; exact q_X11_fine _ _ _) hM
            refine aw_lret hC dX11_film_129 (Nat.le_refl _) (Nat.le_refl _) ?_
            exact FP.qJ ((if_neg c1).trans ((if_neg c2).trans ((if_neg c3).trans ((if_pos c4).trans ((if_neg c5).trans ((bd_eq er6).trans ((bd_eq er7).trans (rfl))))))))
          · refine aw_aload_n hC 0 dX11_film_65 rfl rfl ?_
            refine aw_iconst (v := 2) hC dX11_film_66 (by decide) ?_
            refine aw_cV1r hC hSt (t_X11_found G l hM _) w_707 w_714 w_715 w_716 w_517 rfl rfl (by decide +kernel) ⟨Nat.le_of_ble_eq_true rfl, Nat.le_of_ble_eq_true rfl⟩ (cs_lt 0 11 0 (by decide) hM) (cs_k 0 11 0 (by decide) hM) rfl (Nat.le_of_ble_eq_true rfl) dX11_film_67 ⟨Nat.zero_le _, Nat.zero_le _⟩ ?_
            generalize er8 : f_X11_found S 0 (2 : Int32) = r8
            have hM : CS r8.2 := CS.of (by rw [← er8]; exact q_X11_found _ _ _) hM
            refine aw_lret hC dX11_film_70 (Nat.le_refl _) (Nat.le_refl _) ?_
            exact FP.qJ ((if_neg c1).trans ((if_neg c2).trans ((if_neg c3).trans ((if_pos c4).trans ((if_pos c5).trans ((bd_eq er8).trans (rfl)))))))
        · refine aw_aload_n hC 0 dX11_film_46 rfl rfl ?_
          refine aw_iconst (v := 1) hC dX11_film_47 (by decide) ?_
          refine aw_cV1r hC hSt (t_X11_found G l hM _) w_707 w_714 w_715 w_716 w_517 rfl rfl (by decide +kernel) ⟨Nat.le_of_ble_eq_true rfl, Nat.le_of_ble_eq_true rfl⟩ (cs_lt 0 11 0 (by decide) hM) (cs_k 0 11 0 (by decide) hM) rfl (Nat.le_of_ble_eq_true rfl) dX11_film_48 ⟨Nat.zero_le _, Nat.zero_le _⟩ ?_
          generalize er9 : f_X11_found S 0 (1 : Int32) = r9
          have hM : CS r9.2 := CS.of (by rw [← er9]; exact q_X11_found _ _ _) hM
          refine aw_lret hC dX11_film_51 (Nat.le_refl _) (Nat.le_refl _) ?_
          exact FP.qJ ((if_neg c1).trans ((if_neg c2).trans ((if_neg c3).trans ((if_neg c4).trans ((bd_eq er9).trans (rfl))))))
      · refine aw_ldc2 (v := -9000000000000000002) hC w_785 dX11_film_31 ?_
        refine aw_lret hC dX11_film_34 (Nat.le_refl _) (Nat.le_refl _) ?_
        exact FP.qJ ((if_neg c1).trans ((if_neg c2).trans ((if_pos c3).trans (rfl))))
    · refine aw_ldc2 (v := -9000000000000000001) hC w_710 dX11_film_17 ?_
      refine aw_lret hC dX11_film_20 (Nat.le_refl _) (Nat.le_refl _) ?_
      exact FP.qJ ((if_neg c1).trans ((if_pos c2).trans (rfl)))
theorem q_X11_film (S : HSt) (_o0 : Nat) (a1 : Int32) (a2 : Int32) (a3 : Int32) : shp ((f_X11_film S _o0 a1 a2 a3).2) = shp S := by
  unfold f_X11_film
  repeat' (first | with_reducible refine shpr1 ?_ | with_reducible rfl | with_reducible refine (q_X11_fine _ _ _).trans ?_ | with_reducible refine (q_X11_found _ _ _).trans ?_ | with_reducible refine (q_X8_isHandOf _ _ _ _ _ _ _ _).trans ?_ | with_reducible refine (qL_X11_film_77 _ _ _ _ _ _ _).trans ?_ | with_reducible refine (shp_sI _ _ _ _).trans ?_ | with_reducible refine (shp_sJ _ _ _ _).trans ?_ | with_reducible refine (shp_rI _ _ _).trans ?_ | with_reducible refine shi ?_ ?_ | with_reducible refine shb (fun _ _ => ?_) | with_reducible refine shiP (fun q : Int64 × HSt => q.2) ?_ ?_ | with_reducible refine shbP (fun q : Int64 × HSt => q.2) (fun _ _ => ?_) | (subst_vars; with_reducible rfl) | (subst_vars; with_reducible refine (q_X11_fine _ _ _).trans ?_) | (subst_vars; with_reducible refine (q_X11_found _ _ _).trans ?_) | (subst_vars; with_reducible refine (q_X8_isHandOf _ _ _ _ _ _ _ _).trans ?_) | (subst_vars; with_reducible refine (qL_X11_film_77 _ _ _ _ _ _ _).trans ?_) | (subst_vars; with_reducible refine (shp_sI _ _ _ _).trans ?_) | (subst_vars; with_reducible refine (shp_sJ _ _ _ _).trans ?_) | (subst_vars; with_reducible refine (shp_rI _ _ _).trans ?_) | (subst_vars; with_reducible refine shi ?_ ?_) | (subst_vars; with_reducible refine shb (fun _ _ => ?_)))
theorem v_X11_film (S : HSt) (_o0 : Nat) (a1 : Int32) (a2 : Int32) (a3 : Int32) : Fr [(0, 10), (42, 0), (42, 1), (42, 2), (42, 3), (42, 4), (42, 5), (42, 6)] S ((f_X11_film S _o0 a1 a2 a3).2) := by
  unfold f_X11_film
  repeat' (first | with_reducible refine frpr1 ?_ | with_reducible exact Fr.refl _ _ | with_reducible refine Fr.lP (fun q : Int64 × HSt => q.2) (fun _ _ => ?_) | with_reducible refine Fr.iteP (fun q : Int64 × HSt => q.2) ?_ ?_ | with_reducible refine Fr.l1 (fun _ _ => ?_) | with_reducible refine Fr.ite ?_ ?_ | with_reducible refine Fr.sE (by assumption) (by first | decide | simp only [List.mem_cons, List.not_mem_nil, or_false, true_or, or_true, eq_self_iff_true]) ?_ | with_reducible refine Fr.jE (by assumption) ?_ | with_reducible refine Fr.rE (by assumption) (by first | decide | simp only [List.mem_cons, List.not_mem_nil, or_false, true_or, or_true, eq_self_iff_true]) ?_ | with_reducible refine Fr.iE (by assumption) ?_ ?_ | with_reducible refine Fr.tr (w_X11_fine _ _ _ _ (by assumption)) (by first | decide | simp only [List.mem_cons, List.not_mem_nil, or_false, forall_eq_or_imp, forall_eq, true_or, or_true, and_self, eq_self_iff_true]) ?_ | with_reducible refine Fr.tr (w_X11_found _ _ _ _ (by assumption)) (by first | decide | simp only [List.mem_cons, List.not_mem_nil, or_false, forall_eq_or_imp, forall_eq, true_or, or_true, and_self, eq_self_iff_true]) ?_ | with_reducible refine Fr.tr (w_X8_isHandOf _ _ _ _ _ _ _ _ _ (by assumption)) (by first | decide | simp only [List.mem_cons, List.not_mem_nil, or_false, forall_eq_or_imp, forall_eq, true_or, or_true, and_self, eq_self_iff_true]) ?_ | with_reducible refine Fr.tr (wL_X11_film_77 _ _ _ _ _ _ _ _ (by assumption)) (by first | decide | simp only [List.mem_cons, List.not_mem_nil, or_false, forall_eq_or_imp, forall_eq, true_or, or_true, and_self, eq_self_iff_true]) ?_)
theorem w_X11_film (S : HSt) (_o0 : Nat) (a1 : Int32) (a2 : Int32) (a3 : Int32) (r : Int64 × HSt) (e : f_X11_film S _o0 a1 a2 a3 = r) : Fr [(0, 10), (42, 0), (42, 1), (42, 2), (42, 3), (42, 4), (42, 5), (42, 6)] S r.2 := by
  rw [← e]
  exact v_X11_film S _o0 a1 a2 a3
noncomputable def F_X11_kind (S : HSt) (_o0 : Nat) (a1 : Int32) : Int64 × HSt := bd ((if (f_X11_hasAct S 0 a1) = 0 then (-9000000000000000001 : Int64) else (f_X10_kindOf S 19 a1).toInt64)) fun x2 => pr (x2) (S)
noncomputable def f_X11_kind (S : HSt) (_o0 : Nat) (a1 : Int32) : Int64 := (F_X11_kind S _o0 a1).1
def p_X11_kind (S : HSt) (_o0 : Nat) (a1 : Int32) : Prop := (p_X11_hasAct S 0 a1) ∧ ((¬ (f_X11_hasAct S 0 a1) = 0) → p_X10_kindOf S 19 a1)
set_option maxRecDepth 100000 in
theorem t_X11_kind (G : GG) (l : Launch) {S : HSt} (hM : CS S) (a1 : Int32)  (hp : p_X11_kind S 0 a1) : AM G l yX11_kind cX11_kind 2 (some .long) (rmD 3 0 0) 0 0 [.ref 0, .int a1] S (FP (some (.long (f_X11_kind S 0 a1))) (S)) := by
  obtain ⟨h0, h1⟩ := hp
  refine AM.mk (by decide) (Nat.le_of_ble_eq_true rfl) ?_
  intro p e s m below meth c hC hSt _
  refine aw_aload_n hC 0 dX11_kind_0 rfl rfl ?_
  refine aw_iload_n hC 1 dX11_kind_1 rfl rfl ?_
  refine aw_cV1r hC hSt (t_X11_hasAct G l hM _ (h0)) w_769 w_774 w_775 w_776 w_517 rfl rfl (by decide +kernel) ⟨Nat.le_of_ble_eq_true rfl, Nat.le_of_ble_eq_true rfl⟩ (cs_lt 0 11 0 (by decide) hM) (cs_k 0 11 0 (by decide) hM) rfl (Nat.le_of_ble_eq_true rfl) dX11_kind_2 ⟨Nat.zero_le _, Nat.zero_le _⟩ ?_
  refine aw_cut (S' := S) (pc' := 26) (lv' := [(0, .ref 0), (1, .int a1)]) (st' := [.long (if (f_X11_hasAct S 0 a1) = 0 then (-9000000000000000001 : Int64) else (f_X10_kindOf S 19 a1).toInt64)]) ?_ (fun Jc1 => ?_)
  · generalize ex2 : (if (f_X11_hasAct S 0 a1) = 0 then (-9000000000000000001 : Int64) else (f_X10_kindOf S 19 a1).toInt64) = x2
    refine aw_lret hC dX11_kind_26 (Nat.le_refl _) (Nat.le_refl _) ?_
    exact FP.pJ ((bd_eq ex2).trans (rfl))
  · refine aw_if_eq hC 23 dX11_kind_5 (by decide) (fun c1 => ?_) (fun c1 => ?_)
    · refine aw_ldc2 (v := -9000000000000000001) hC w_710 dX11_kind_23 ?_
      simp only [bd_def, if_pos c1] at Jc1 ⊢
      exact Jc1
    · refine aw_aload_n hC 0 dX11_kind_8 rfl rfl ?_
      refine aw_getP (b := 18) hC hSt 2 (cs_lt 0 11 0 (by decide) hM) (cs_k 0 11 0 (by decide) hM) rfl (by decide) w_678 rfl (cs_p 0 2 18 (by decide) hM) dX11_kind_9 ?_
      refine aw_getP (b := 19) hC hSt 0 (cs_lt 18 7 0 (by decide) hM) (cs_k 18 7 0 (by decide) hM) rfl (by decide) w_750 rfl (cs_p 18 0 19 (by decide) hM) dX11_kind_12 ?_
      refine aw_iload_n hC 1 dX11_kind_15 rfl rfl ?_
      refine aw_cV1r hC hSt (t_X10_kindOf G l hM _ _ (by decide) (h1 c1)) w_14 w_890 w_47 w_48 w_18 rfl rfl (by decide +kernel) ⟨Nat.le_of_ble_eq_true rfl, Nat.le_of_ble_eq_true rfl⟩ (cs_lt 19 10 0 (by decide) hM) (cs_k 19 10 0 (by decide) hM) rfl (Nat.le_of_ble_eq_true rfl) dX11_kind_16 ⟨Nat.zero_le _, Nat.zero_le _⟩ ?_
      refine aw_i2l hC dX11_kind_19 ?_
      refine aw_goto hC 26 dX11_kind_20 (by decide) ?_
      simp only [bd_def, if_neg c1] at Jc1 ⊢
      exact Jc1
noncomputable def f_X11_as (S : HSt) (_o0 : Nat) (a1 : Int32) (a2 : Int32) : Int64 × HSt := if (f_X11_hasAct S 0 a1) = 0 then (pr ((-9000000000000000001 : Int64)) (S)) else (if (f_X11_within S a2 (0 : Int32) (6 : Int32)) = 0 then (pr ((-9000000000000000001 : Int64)) (S)) else (bd ((if (f_X10_isA S 19 a1 a2) = 0 then (bd (f_X11_found S 0 (3 : Int32)) fun r4 => r4.1) else (bd (f_X11_fine S 0 a1.toInt64) fun r5 => r5.1))) fun x6 => bd ((if (f_X10_isA S 19 a1 a2) = 0 then (bd (f_X11_found S 0 (3 : Int32)) fun r4 => r4.2) else (bd (f_X11_fine S 0 a1.toInt64) fun r5 => r5.2))) fun S7 => pr (x6) (S7)))
def p_X11_as (S : HSt) (_o0 : Nat) (a1 : Int32) (a2 : Int32) : Prop := (p_X11_hasAct S 0 a1) ∧ ((¬ (f_X11_hasAct S 0 a1) = 0) → (¬ (f_X11_within S a2 (0 : Int32) (6 : Int32)) = 0) → p_X10_isA S 19 a1 a2)
set_option maxRecDepth 100000 in
theorem t_X11_as (G : GG) (l : Launch) {S : HSt} (hM : CS S) (a1 : Int32) (a2 : Int32)  (hp : p_X11_as S 0 a1 a2) : AM G l yX11_as cX11_as 3 (some .long) (rmD 3 0 0) 0 0 [.ref 0, .int a1, .int a2] S (FP (some (.long (f_X11_as S 0 a1 a2).1)) ((f_X11_as S 0 a1 a2).2)) := by
  obtain ⟨h0, h1⟩ := hp
  refine AM.mk (by decide) (Nat.le_of_ble_eq_true rfl) ?_
  intro p e s m below meth c hC hSt _
  refine aw_aload_n hC 0 dX11_as_0 rfl rfl ?_
  refine aw_iload_n hC 1 dX11_as_1 rfl rfl ?_
  refine aw_cV1r hC hSt (t_X11_hasAct G l hM _ (h0)) w_769 w_774 w_775 w_776 w_517 rfl rfl (by decide +kernel) ⟨Nat.le_of_ble_eq_true rfl, Nat.le_of_ble_eq_true rfl⟩ (cs_lt 0 11 0 (by decide) hM) (cs_k 0 11 0 (by decide) hM) rfl (Nat.le_of_ble_eq_true rfl) dX11_as_2 ⟨Nat.zero_le _, Nat.zero_le _⟩ ?_
  refine aw_if_eq hC 18 dX11_as_5 (by decide) (fun c1 => ?_) (fun c1 => ?_)
  · refine aw_ldc2 (v := -9000000000000000001) hC w_710 dX11_as_18 ?_
    refine aw_lret hC dX11_as_21 (Nat.le_refl _) (Nat.le_refl _) ?_
    exact FP.qJ ((if_pos c1).trans (rfl))
  · refine aw_iload_n hC 2 dX11_as_8 rfl rfl ?_
    refine aw_iconst (v := 0) hC dX11_as_9 (by decide) ?_
    refine aw_bipush (v := 6) hC dX11_as_10 (by decide) ?_
    refine aw_cS3r hC hSt (t_X11_within G l  _ _ _) w_706 w_712 w_713 w_517 rfl rfl (by decide +kernel) ⟨Nat.le_of_ble_eq_true rfl, Nat.le_of_ble_eq_true rfl⟩ (Nat.le_of_ble_eq_true rfl) dX11_as_12 ⟨Nat.zero_le _, Nat.zero_le _⟩ ?_
    refine aw_if_ne hC 22 dX11_as_15 (by decide) (fun c2 => ?_) (fun c2 => ?_)
    · refine aw_aload_n hC 0 dX11_as_22 rfl rfl ?_
      refine aw_getP (b := 18) hC hSt 2 (cs_lt 0 11 0 (by decide) hM) (cs_k 0 11 0 (by decide) hM) rfl (by decide) w_678 rfl (cs_p 0 2 18 (by decide) hM) dX11_as_23 ?_
      refine aw_getP (b := 19) hC hSt 0 (cs_lt 18 7 0 (by decide) hM) (cs_k 18 7 0 (by decide) hM) rfl (by decide) w_750 rfl (cs_p 18 0 19 (by decide) hM) dX11_as_26 ?_
      refine aw_iload_n hC 1 dX11_as_29 rfl rfl ?_
      refine aw_iload_n hC 2 dX11_as_30 rfl rfl ?_
      refine aw_cV2r hC hSt (t_X10_isA G l hM _ _ _ (by decide) (h1 c1 c2)) w_496 w_777 w_547 w_548 w_18 rfl rfl (by decide +kernel) ⟨Nat.le_of_ble_eq_true rfl, Nat.le_of_ble_eq_true rfl⟩ (cs_lt 19 10 0 (by decide) hM) (cs_k 19 10 0 (by decide) hM) rfl (Nat.le_of_ble_eq_true rfl) dX11_as_31 ⟨Nat.zero_le _, Nat.zero_le _⟩ ?_
      refine aw_cut (S' := (if (f_X10_isA S 19 a1 a2) = 0 then (bd (f_X11_found S 0 (3 : Int32)) fun r4 => r4.2) else (bd (f_X11_fine S 0 a1.toInt64) fun r5 => r5.2))) (pc' := 51) (lv' := [(0, .ref 0), (1, .int a1), (2, .int a2)]) (st' := [.long (if (f_X10_isA S 19 a1 a2) = 0 then (bd (f_X11_found S 0 (3 : Int32)) fun r4 => r4.1) else (bd (f_X11_fine S 0 a1.toInt64) fun r5 => r5.1))]) ?_ (fun Jc3 => ?_)
      · generalize ex6 : (if (f_X10_isA S 19 a1 a2) = 0 then (bd (f_X11_found S 0 (3 : Int32)) fun r4 => r4.1) else (bd (f_X11_fine S 0 a1.toInt64) fun r5 => r5.1)) = x6
        generalize eS7 : (if (f_X10_isA S 19 a1 a2) = 0 then (bd (f_X11_found S 0 (3 : Int32)) fun r4 => r4.2) else (bd (f_X11_fine S 0 a1.toInt64) fun r5 => r5.2)) = S7
        have hM : CS S7 := CS.of (by rw [← eS7]; repeat' (first | with_reducible rfl | with_reducible refine (q_X11_fine _ _ _).trans ?_ | with_reducible refine (q_X11_found _ _ _).trans ?_ | with_reducible refine (shp_sI _ _ _ _).trans ?_ | with_reducible refine (shp_sJ _ _ _ _).trans ?_ | with_reducible refine (shp_rI _ _ _).trans ?_ | with_reducible refine shi ?_ ?_ | with_reducible refine shb (fun _ _ => ?_) | (subst_vars; with_reducible rfl) | (subst_vars; with_reducible refine (q_X11_fine _ _ _).trans ?_) | (subst_vars; with_reducible refine (q_X11_found _ _ _).trans ?_) | (subst_vars; with_reducible refine (shp_sI _ _ _ _).trans ?_) | (subst_vars; with_reducible refine (shp_sJ _ _ _ _).trans ?_) | (subst_vars; with_reducible refine (shp_rI _ _ _).trans ?_) | (subst_vars; with_reducible refine shi ?_ ?_) | (subst_vars; with_reducible refine shb (fun _ _ => ?_)))) hM
        refine aw_lret hC dX11_as_51 (Nat.le_refl _) (Nat.le_refl _) ?_
        exact FP.qJ ((if_neg c1).trans ((if_neg c2).trans ((bd_eq ex6).trans ((bd_eq eS7).trans (rfl)))))
      · refine aw_if_eq hC 46 dX11_as_34 (by decide) (fun c3 => ?_) (fun c3 => ?_)
        · refine aw_aload_n hC 0 dX11_as_46 rfl rfl ?_
          refine aw_iconst (v := 3) hC dX11_as_47 (by decide) ?_
          refine aw_cV1r hC hSt (t_X11_found G l hM _) w_707 w_714 w_715 w_716 w_517 rfl rfl (by decide +kernel) ⟨Nat.le_of_ble_eq_true rfl, Nat.le_of_ble_eq_true rfl⟩ (cs_lt 0 11 0 (by decide) hM) (cs_k 0 11 0 (by decide) hM) rfl (Nat.le_of_ble_eq_true rfl) dX11_as_48 ⟨Nat.zero_le _, Nat.zero_le _⟩ ?_
          generalize er4 : f_X11_found S 0 (3 : Int32) = r4
          have hM : CS r4.2 := CS.of (by rw [← er4]; exact q_X11_found _ _ _) hM
          subst er4
          simp only [bd_def, if_pos c3] at Jc3 ⊢
          exact Jc3
        · refine aw_aload_n hC 0 dX11_as_37 rfl rfl ?_
          refine aw_iload_n hC 1 dX11_as_38 rfl rfl ?_
          refine aw_i2l hC dX11_as_39 ?_
          refine aw_cV1r hC hSt (t_X11_fine G l hM _) w_709 w_720 w_721 w_722 w_517 rfl rfl (by decide +kernel) ⟨Nat.le_of_ble_eq_true rfl, Nat.le_of_ble_eq_true rfl⟩ (cs_lt 0 11 0 (by decide) hM) (cs_k 0 11 0 (by decide) hM) rfl (Nat.le_of_ble_eq_true rfl) dX11_as_40 ⟨Nat.zero_le _, Nat.zero_le _⟩ ?_
          generalize er5 : f_X11_fine S 0 a1.toInt64 = r5
          have hM : CS r5.2 := CS.of (by rw [← er5]; exact q_X11_fine _ _ _) hM
          refine aw_goto hC 51 dX11_as_43 (by decide) ?_
          subst er5
          simp only [bd_def, if_neg c3] at Jc3 ⊢
          exact Jc3
    · refine aw_ldc2 (v := -9000000000000000001) hC w_710 dX11_as_18 ?_
      refine aw_lret hC dX11_as_21 (Nat.le_refl _) (Nat.le_refl _) ?_
      exact FP.qJ ((if_neg c1).trans ((if_pos c2).trans (rfl)))
theorem q_X11_as (S : HSt) (_o0 : Nat) (a1 : Int32) (a2 : Int32) : shp ((f_X11_as S _o0 a1 a2).2) = shp S := by
  unfold f_X11_as
  repeat' (first | with_reducible refine shpr1 ?_ | with_reducible rfl | with_reducible refine (q_X11_fine _ _ _).trans ?_ | with_reducible refine (q_X11_found _ _ _).trans ?_ | with_reducible refine (shp_sI _ _ _ _).trans ?_ | with_reducible refine (shp_sJ _ _ _ _).trans ?_ | with_reducible refine (shp_rI _ _ _).trans ?_ | with_reducible refine shi ?_ ?_ | with_reducible refine shb (fun _ _ => ?_) | with_reducible refine shiP (fun q : Int64 × HSt => q.2) ?_ ?_ | with_reducible refine shbP (fun q : Int64 × HSt => q.2) (fun _ _ => ?_) | (subst_vars; with_reducible rfl) | (subst_vars; with_reducible refine (q_X11_fine _ _ _).trans ?_) | (subst_vars; with_reducible refine (q_X11_found _ _ _).trans ?_) | (subst_vars; with_reducible refine (shp_sI _ _ _ _).trans ?_) | (subst_vars; with_reducible refine (shp_sJ _ _ _ _).trans ?_) | (subst_vars; with_reducible refine (shp_rI _ _ _).trans ?_) | (subst_vars; with_reducible refine shi ?_ ?_) | (subst_vars; with_reducible refine shb (fun _ _ => ?_)))
theorem v_X11_as (S : HSt) (_o0 : Nat) (a1 : Int32) (a2 : Int32) : Fr [(0, 10)] S ((f_X11_as S _o0 a1 a2).2) := by
  unfold f_X11_as
  repeat' (first | with_reducible refine frpr1 ?_ | with_reducible exact Fr.refl _ _ | with_reducible refine Fr.lP (fun q : Int64 × HSt => q.2) (fun _ _ => ?_) | with_reducible refine Fr.iteP (fun q : Int64 × HSt => q.2) ?_ ?_ | with_reducible refine Fr.l1 (fun _ _ => ?_) | with_reducible refine Fr.ite ?_ ?_ | with_reducible refine Fr.sE (by assumption) (by first | decide | simp only [List.mem_cons, List.not_mem_nil, or_false, true_or, or_true, eq_self_iff_true]) ?_ | with_reducible refine Fr.jE (by assumption) ?_ | with_reducible refine Fr.rE (by assumption) (by first | decide | simp only [List.mem_cons, List.not_mem_nil, or_false, true_or, or_true, eq_self_iff_true]) ?_ | with_reducible refine Fr.iE (by assumption) ?_ ?_ | with_reducible refine Fr.tr (w_X11_fine _ _ _ _ (by assumption)) (by first | decide | simp only [List.mem_cons, List.not_mem_nil, or_false, forall_eq_or_imp, forall_eq, true_or, or_true, and_self, eq_self_iff_true]) ?_ | with_reducible refine Fr.tr (w_X11_found _ _ _ _ (by assumption)) (by first | decide | simp only [List.mem_cons, List.not_mem_nil, or_false, forall_eq_or_imp, forall_eq, true_or, or_true, and_self, eq_self_iff_true]) ?_)
theorem w_X11_as (S : HSt) (_o0 : Nat) (a1 : Int32) (a2 : Int32) (r : Int64 × HSt) (e : f_X11_as S _o0 a1 a2 = r) : Fr [(0, 10)] S r.2 := by
  rw [← e]
  exact v_X11_as S _o0 a1 a2
noncomputable def f_X11_ask (S : HSt) (_o0 : Nat) (a1 : Int32) (a2 : Int32) : Int64 × HSt := if (f_X11_hasAct S 0 a1) = 0 then (pr ((-9000000000000000001 : Int64)) (S)) else (if (f_X11_within S a2 (0 : Int32) (1 : Int32)) = 0 then (pr ((-9000000000000000001 : Int64)) (S)) else (bd ((if a2 = 0 then (bd (f_X0_sizeOf S 62 19 a1) fun r5 => r5.1.toInt64) else (bd (f_X0_markOf S 62 19 a1) fun r4 => r4.1.toInt64))) fun x6 => bd ((if a2 = 0 then (bd (f_X0_sizeOf S 62 19 a1) fun r5 => r5.2) else (bd (f_X0_markOf S 62 19 a1) fun r4 => r4.2))) fun S7 => pr (x6) (S7)))
def p_X11_ask (S : HSt) (_o0 : Nat) (a1 : Int32) (a2 : Int32) : Prop := (p_X11_hasAct S 0 a1) ∧ ((¬ (f_X11_hasAct S 0 a1) = 0) → (¬ (f_X11_within S a2 (0 : Int32) (1 : Int32)) = 0) → (¬ a2 = 0) → p_X0_markOf S 62 19 a1) ∧ ((¬ (f_X11_hasAct S 0 a1) = 0) → (¬ (f_X11_within S a2 (0 : Int32) (1 : Int32)) = 0) → (a2 = 0) → p_X0_sizeOf S 62 19 a1)
set_option maxRecDepth 100000 in
theorem t_X11_ask (G : GG) (l : Launch) {S : HSt} (hM : CS S) (a1 : Int32) (a2 : Int32)  (hp : p_X11_ask S 0 a1 a2) : AM G l yX11_ask cX11_ask 3 (some .long) (rmD 5 0 0) 0 0 [.ref 0, .int a1, .int a2] S (FP (some (.long (f_X11_ask S 0 a1 a2).1)) ((f_X11_ask S 0 a1 a2).2)) := by
  obtain ⟨h0, h1, h2⟩ := hp
  refine AM.mk (by decide) (Nat.le_of_ble_eq_true rfl) ?_
  intro p e s m below meth c hC hSt _
  refine aw_aload_n hC 0 dX11_ask_0 rfl rfl ?_
  refine aw_iload_n hC 1 dX11_ask_1 rfl rfl ?_
  refine aw_cV1r hC hSt (t_X11_hasAct G l hM _ (h0)) w_769 w_774 w_775 w_776 w_517 rfl rfl (by decide +kernel) ⟨Nat.le_of_ble_eq_true rfl, Nat.le_of_ble_eq_true rfl⟩ (cs_lt 0 11 0 (by decide) hM) (cs_k 0 11 0 (by decide) hM) rfl (Nat.le_of_ble_eq_true rfl) dX11_ask_2 ⟨Nat.zero_le _, Nat.zero_le _⟩ ?_
  refine aw_if_eq hC 17 dX11_ask_5 (by decide) (fun c1 => ?_) (fun c1 => ?_)
  · refine aw_ldc2 (v := -9000000000000000001) hC w_710 dX11_ask_17 ?_
    refine aw_lret hC dX11_ask_20 (Nat.le_refl _) (Nat.le_refl _) ?_
    exact FP.qJ ((if_pos c1).trans (rfl))
  · refine aw_iload_n hC 2 dX11_ask_8 rfl rfl ?_
    refine aw_iconst (v := 0) hC dX11_ask_9 (by decide) ?_
    refine aw_iconst (v := 1) hC dX11_ask_10 (by decide) ?_
    refine aw_cS3r hC hSt (t_X11_within G l  _ _ _) w_706 w_712 w_713 w_517 rfl rfl (by decide +kernel) ⟨Nat.le_of_ble_eq_true rfl, Nat.le_of_ble_eq_true rfl⟩ (Nat.le_of_ble_eq_true rfl) dX11_ask_11 ⟨Nat.zero_le _, Nat.zero_le _⟩ ?_
    refine aw_if_ne hC 21 dX11_ask_14 (by decide) (fun c2 => ?_) (fun c2 => ?_)
    · refine aw_iload_n hC 2 dX11_ask_21 rfl rfl ?_
      refine aw_cut (S' := (if a2 = 0 then (bd (f_X0_sizeOf S 62 19 a1) fun r5 => r5.2) else (bd (f_X0_markOf S 62 19 a1) fun r4 => r4.2))) (pc' := 60) (lv' := [(0, .ref 0), (1, .int a1), (2, .int a2)]) (st' := [.long (if a2 = 0 then (bd (f_X0_sizeOf S 62 19 a1) fun r5 => r5.1.toInt64) else (bd (f_X0_markOf S 62 19 a1) fun r4 => r4.1.toInt64))]) ?_ (fun Jc3 => ?_)
      · generalize ex6 : (if a2 = 0 then (bd (f_X0_sizeOf S 62 19 a1) fun r5 => r5.1.toInt64) else (bd (f_X0_markOf S 62 19 a1) fun r4 => r4.1.toInt64)) = x6
        generalize eS7 : (if a2 = 0 then (bd (f_X0_sizeOf S 62 19 a1) fun r5 => r5.2) else (bd (f_X0_markOf S 62 19 a1) fun r4 => r4.2)) = S7
        have hM : CS S7 := CS.of (by rw [← eS7]; repeat' (first | with_reducible rfl | with_reducible refine (q_X0_markOf _ _ _ _).trans ?_ | with_reducible refine (q_X0_sizeOf _ _ _ _).trans ?_ | with_reducible refine (shp_sI _ _ _ _).trans ?_ | with_reducible refine (shp_sJ _ _ _ _).trans ?_ | with_reducible refine (shp_rI _ _ _).trans ?_ | with_reducible refine shi ?_ ?_ | with_reducible refine shb (fun _ _ => ?_) | (subst_vars; with_reducible rfl) | (subst_vars; with_reducible refine (q_X0_markOf _ _ _ _).trans ?_) | (subst_vars; with_reducible refine (q_X0_sizeOf _ _ _ _).trans ?_) | (subst_vars; with_reducible refine (shp_sI _ _ _ _).trans ?_) | (subst_vars; with_reducible refine (shp_sJ _ _ _ _).trans ?_) | (subst_vars; with_reducible refine (shp_rI _ _ _).trans ?_) | (subst_vars; with_reducible refine shi ?_ ?_) | (subst_vars; with_reducible refine shb (fun _ _ => ?_)))) hM
        refine aw_lret hC dX11_ask_60 (Nat.le_refl _) (Nat.le_refl _) ?_
        exact FP.qJ ((if_neg c1).trans ((if_neg c2).trans ((bd_eq ex6).trans ((bd_eq eS7).trans (rfl)))))
      · refine aw_if_ne hC 44 dX11_ask_22 (by decide) (fun c3 => ?_) (fun c3 => ?_)
        · refine aw_aload_n hC 0 dX11_ask_44 rfl rfl ?_
          refine aw_getP (b := 62) hC hSt 8 (cs_lt 0 11 0 (by decide) hM) (cs_k 0 11 0 (by decide) hM) rfl (by decide) w_693 rfl (cs_p 0 8 62 (by decide) hM) dX11_ask_45 ?_
          refine aw_aload_n hC 0 dX11_ask_48 rfl rfl ?_
          refine aw_getP (b := 18) hC hSt 2 (cs_lt 0 11 0 (by decide) hM) (cs_k 0 11 0 (by decide) hM) rfl (by decide) w_678 rfl (cs_p 0 2 18 (by decide) hM) dX11_ask_49 ?_
          refine aw_getP (b := 19) hC hSt 0 (cs_lt 18 7 0 (by decide) hM) (cs_k 18 7 0 (by decide) hM) rfl (by decide) w_750 rfl (cs_p 18 0 19 (by decide) hM) dX11_ask_52 ?_
          refine aw_iload_n hC 1 dX11_ask_55 rfl rfl ?_
          refine aw_cV2r hC hSt (t_X0_markOf G l hM _ _ (by decide) (h1 c1 c2 c3)) w_68 w_896 w_897 w_898 w_23 rfl rfl (by decide +kernel) ⟨Nat.le_of_ble_eq_true rfl, Nat.le_of_ble_eq_true rfl⟩ (cs_lt 62 0 0 (by decide) hM) (cs_k 62 0 0 (by decide) hM) rfl (Nat.le_of_ble_eq_true rfl) dX11_ask_56 ⟨Nat.zero_le _, Nat.zero_le _⟩ ?_
          generalize er4 : f_X0_markOf S 62 19 a1 = r4
          have hM : CS r4.2 := CS.of (by rw [← er4]; exact q_X0_markOf _ _ _ _) hM
          refine aw_i2l hC dX11_ask_59 ?_
          subst er4
          simp only [bd_def, if_neg c3] at Jc3 ⊢
          exact Jc3
        · refine aw_aload_n hC 0 dX11_ask_25 rfl rfl ?_
          refine aw_getP (b := 62) hC hSt 8 (cs_lt 0 11 0 (by decide) hM) (cs_k 0 11 0 (by decide) hM) rfl (by decide) w_693 rfl (cs_p 0 8 62 (by decide) hM) dX11_ask_26 ?_
          refine aw_aload_n hC 0 dX11_ask_29 rfl rfl ?_
          refine aw_getP (b := 18) hC hSt 2 (cs_lt 0 11 0 (by decide) hM) (cs_k 0 11 0 (by decide) hM) rfl (by decide) w_678 rfl (cs_p 0 2 18 (by decide) hM) dX11_ask_30 ?_
          refine aw_getP (b := 19) hC hSt 0 (cs_lt 18 7 0 (by decide) hM) (cs_k 18 7 0 (by decide) hM) rfl (by decide) w_750 rfl (cs_p 18 0 19 (by decide) hM) dX11_ask_33 ?_
          refine aw_iload_n hC 1 dX11_ask_36 rfl rfl ?_
          refine aw_cV2r hC hSt (t_X0_sizeOf G l hM _ _ (by decide) (h2 c1 c2 c3)) w_55 w_893 w_894 w_895 w_23 rfl rfl (by decide +kernel) ⟨Nat.le_of_ble_eq_true rfl, Nat.le_of_ble_eq_true rfl⟩ (cs_lt 62 0 0 (by decide) hM) (cs_k 62 0 0 (by decide) hM) rfl (Nat.le_of_ble_eq_true rfl) dX11_ask_37 ⟨Nat.zero_le _, Nat.zero_le _⟩ ?_
          generalize er5 : f_X0_sizeOf S 62 19 a1 = r5
          have hM : CS r5.2 := CS.of (by rw [← er5]; exact q_X0_sizeOf _ _ _ _) hM
          refine aw_i2l hC dX11_ask_40 ?_
          refine aw_goto hC 60 dX11_ask_41 (by decide) ?_
          subst er5
          simp only [bd_def, if_pos c3] at Jc3 ⊢
          exact Jc3
    · refine aw_ldc2 (v := -9000000000000000001) hC w_710 dX11_ask_17 ?_
      refine aw_lret hC dX11_ask_20 (Nat.le_refl _) (Nat.le_refl _) ?_
      exact FP.qJ ((if_neg c1).trans ((if_pos c2).trans (rfl)))
theorem q_X11_ask (S : HSt) (_o0 : Nat) (a1 : Int32) (a2 : Int32) : shp ((f_X11_ask S _o0 a1 a2).2) = shp S := by
  unfold f_X11_ask
  repeat' (first | with_reducible refine shpr1 ?_ | with_reducible rfl | with_reducible refine (q_X0_markOf _ _ _ _).trans ?_ | with_reducible refine (q_X0_sizeOf _ _ _ _).trans ?_ | with_reducible refine (shp_sI _ _ _ _).trans ?_ | with_reducible refine (shp_sJ _ _ _ _).trans ?_ | with_reducible refine (shp_rI _ _ _).trans ?_ | with_reducible refine shi ?_ ?_ | with_reducible refine shb (fun _ _ => ?_) | with_reducible refine shiP (fun q : Int64 × HSt => q.2) ?_ ?_ | with_reducible refine shbP (fun q : Int64 × HSt => q.2) (fun _ _ => ?_) | (subst_vars; with_reducible rfl) | (subst_vars; with_reducible refine (q_X0_markOf _ _ _ _).trans ?_) | (subst_vars; with_reducible refine (q_X0_sizeOf _ _ _ _).trans ?_) | (subst_vars; with_reducible refine (shp_sI _ _ _ _).trans ?_) | (subst_vars; with_reducible refine (shp_sJ _ _ _ _).trans ?_) | (subst_vars; with_reducible refine (shp_rI _ _ _).trans ?_) | (subst_vars; with_reducible refine shi ?_ ?_) | (subst_vars; with_reducible refine shb (fun _ _ => ?_)))
theorem v_X11_ask (S : HSt) (_o0 : Nat) (a1 : Int32) (a2 : Int32) : Fr [(62, 1), (63, 1000)] S ((f_X11_ask S _o0 a1 a2).2) := by
  unfold f_X11_ask
  repeat' (first | with_reducible refine frpr1 ?_ | with_reducible exact Fr.refl _ _ | with_reducible refine Fr.lP (fun q : Int64 × HSt => q.2) (fun _ _ => ?_) | with_reducible refine Fr.iteP (fun q : Int64 × HSt => q.2) ?_ ?_ | with_reducible refine Fr.l1 (fun _ _ => ?_) | with_reducible refine Fr.ite ?_ ?_ | with_reducible refine Fr.sE (by assumption) (by first | decide | simp only [List.mem_cons, List.not_mem_nil, or_false, true_or, or_true, eq_self_iff_true]) ?_ | with_reducible refine Fr.jE (by assumption) ?_ | with_reducible refine Fr.rE (by assumption) (by first | decide | simp only [List.mem_cons, List.not_mem_nil, or_false, true_or, or_true, eq_self_iff_true]) ?_ | with_reducible refine Fr.iE (by assumption) ?_ ?_ | with_reducible refine Fr.tr (w_X0_markOf _ _ _ _ _ (by assumption)) (by first | decide | simp only [List.mem_cons, List.not_mem_nil, or_false, forall_eq_or_imp, forall_eq, true_or, or_true, and_self, eq_self_iff_true]) ?_ | with_reducible refine Fr.tr (w_X0_sizeOf _ _ _ _ _ (by assumption)) (by first | decide | simp only [List.mem_cons, List.not_mem_nil, or_false, forall_eq_or_imp, forall_eq, true_or, or_true, and_self, eq_self_iff_true]) ?_)
theorem w_X11_ask (S : HSt) (_o0 : Nat) (a1 : Int32) (a2 : Int32) (r : Int64 × HSt) (e : f_X11_ask S _o0 a1 a2 = r) : Fr [(62, 1), (63, 1000)] S r.2 := by
  rw [← e]
  exact v_X11_ask S _o0 a1 a2