noncomputable def f_X4_fail (S : HSt) (_o0 : Nat) (a1 : Int32) : Int32 × HSt := bd ((sI S 13 7 a1)) fun S1 => bd ((sI S1 13 8 (gI S1 13 4))) fun S2 => pr ((0 : Int32)) (S2)
set_option maxRecDepth 100000 in
theorem t_X4_fail (G : GG) (l : Launch) {S : HSt} (hM : CS S) (a1 : Int32)   : AM G l yX4_fail cX4_fail 2 (some .boolean) (rmD 0 0 0) 0 0 [.ref 13, .int a1] S (FP (some (.int (f_X4_fail S 13 a1).1)) ((f_X4_fail S 13 a1).2)) := by
  refine AM.mk (by decide) (Nat.le_of_ble_eq_true rfl) ?_
  intro p e s m below meth c hC hSt _
  refine aw_aload_n hC 0 dX4_fail_0 rfl rfl ?_
  refine aw_iload_n hC 1 dX4_fail_1 rfl rfl ?_
  refine aw_putI hC hSt 7 (cs_lt 13 4 0 (by decide) hM) (cs_k 13 4 0 (by decide) hM) rfl (by decide) w_331 rfl rfl rfl rfl dX4_fail_2 ?_
  generalize eS1 : (sI S 13 7 a1) = S1
  have hM : CS S1 := CS.of (by rw [← eS1]; exact shp_sI _ _ _ _) hM
  refine aw_aload_n hC 0 dX4_fail_5 rfl rfl ?_
  refine aw_aload_n hC 0 dX4_fail_6 rfl rfl ?_
  refine aw_getI hC hSt 4 (cs_lt 13 4 0 (by decide) hM) (cs_k 13 4 0 (by decide) hM) rfl (by decide) w_346 rfl dX4_fail_7 ?_
  refine aw_putI hC hSt 8 (cs_lt 13 4 0 (by decide) hM) (cs_k 13 4 0 (by decide) hM) rfl (by decide) w_333 rfl rfl rfl rfl dX4_fail_10 ?_
  generalize eS2 : (sI S1 13 8 (gI S1 13 4)) = S2
  have hM : CS S2 := CS.of (by rw [← eS2]; exact shp_sI _ _ _ _) hM
  refine aw_iconst (v := 0) hC dX4_fail_13 (by decide) ?_
  refine aw_zret hC dX4_fail_14 (Nat.le_refl _) (Nat.le_refl _) (by decide) ?_
  exact FP.qI ((bd_eq eS1).trans ((bd_eq eS2).trans (rfl)))
theorem q_X4_fail (S : HSt) (_o0 : Nat) (a1 : Int32) : shp ((f_X4_fail S _o0 a1).2) = shp S := by
  unfold f_X4_fail
  repeat' (first | with_reducible refine shpr1 ?_ | with_reducible rfl | with_reducible refine (shp_sI _ _ _ _).trans ?_ | with_reducible refine (shp_sJ _ _ _ _).trans ?_ | with_reducible refine (shp_rI _ _ _).trans ?_ | with_reducible refine shi ?_ ?_ | with_reducible refine shb (fun _ _ => ?_) | with_reducible refine shiP (fun q : Int32 × HSt => q.2) ?_ ?_ | with_reducible refine shbP (fun q : Int32 × HSt => q.2) (fun _ _ => ?_) | (subst_vars; with_reducible rfl) | (subst_vars; with_reducible refine (shp_sI _ _ _ _).trans ?_) | (subst_vars; with_reducible refine (shp_sJ _ _ _ _).trans ?_) | (subst_vars; with_reducible refine (shp_rI _ _ _).trans ?_) | (subst_vars; with_reducible refine shi ?_ ?_) | (subst_vars; with_reducible refine shb (fun _ _ => ?_)))
theorem v_X4_fail (S : HSt) (_o0 : Nat) (a1 : Int32) : Fr [(13, 7), (13, 8)] S ((f_X4_fail S _o0 a1).2) := by
  unfold f_X4_fail
  repeat' (first | with_reducible refine frpr1 ?_ | with_reducible exact Fr.refl _ _ | with_reducible refine Fr.lP (fun q : Int32 × HSt => q.2) (fun _ _ => ?_) | with_reducible refine Fr.iteP (fun q : Int32 × HSt => q.2) ?_ ?_ | with_reducible refine Fr.l1 (fun _ _ => ?_) | with_reducible refine Fr.ite ?_ ?_ | with_reducible refine Fr.sE (by assumption) (by first | decide | simp only [List.mem_cons, List.not_mem_nil, or_false, true_or, or_true, eq_self_iff_true]) ?_ | with_reducible refine Fr.jE (by assumption) ?_ | with_reducible refine Fr.rE (by assumption) (by first | decide | simp only [List.mem_cons, List.not_mem_nil, or_false, true_or, or_true, eq_self_iff_true]) ?_ | with_reducible refine Fr.iE (by assumption) ?_ ?_)
theorem w_X4_fail (S : HSt) (_o0 : Nat) (a1 : Int32) (r : Int32 × HSt) (e : f_X4_fail S _o0 a1 = r) : Fr [(13, 7), (13, 8)] S r.2 := by
  rw [← e]
  exact v_X4_fail S _o0 a1
noncomputable def F_X4_lowOf (S : HSt) (_o0 : Nat) (a1 : Int32) (a2 : Int32) (a3 : Int32) : Int32 × HSt := bd ((if a1 = (3 : Int32) then (if (a2 - a2 / (2 : Int32) * (2 : Int32)) = (1 : Int32) then (1 : Int32) else (0 : Int32)) else (0 : Int32))) fun x3 => bd ((if x3 = 0 then ((tbF 4).getD ((a1 * (5 : Int32)) + a2).toNatClampNeg 0) else (f_X10_value S 15 (3 : Int32) a3 (a2 - (1 : Int32))))) fun x5 => pr (x5) (S)
noncomputable def f_X4_lowOf (S : HSt) (_o0 : Nat) (a1 : Int32) (a2 : Int32) (a3 : Int32) : Int32 := (F_X4_lowOf S _o0 a1 a2 a3).1
def p_X4_lowOf (S : HSt) (_o0 : Nat) (a1 : Int32) (a2 : Int32) (a3 : Int32) : Prop := (∀ x3 : Int32, (if a1 = (3 : Int32) then (if (a2 - a2 / (2 : Int32) * (2 : Int32)) = (1 : Int32) then (1 : Int32) else (0 : Int32)) else (0 : Int32)) = x3 → (x3 = 0) → vp_in ((a1 * (5 : Int32)) + a2) (tbF 4).length) ∧ (∀ x3 : Int32, (if a1 = (3 : Int32) then (if (a2 - a2 / (2 : Int32) * (2 : Int32)) = (1 : Int32) then (1 : Int32) else (0 : Int32)) else (0 : Int32)) = x3 → (¬ x3 = 0) → p_X10_value S 15 (3 : Int32) a3 (a2 - (1 : Int32)))
set_option maxRecDepth 100000 in
theorem t_X4_lowOf (G : GG) (l : Launch) {S : HSt} (hM : CS S) (a1 : Int32) (a2 : Int32) (a3 : Int32)  (hp : p_X4_lowOf S 13 a1 a2 a3) : AM G l yX4_lowOf cX4_lowOf 5 (some .int) (rmD 1 0 0) 0 0 [.ref 13, .int a1, .int a2, .int a3] S (FP (some (.int (f_X4_lowOf S 13 a1 a2 a3))) (S)) := by
  obtain ⟨h0, h1⟩ := hp
  refine AM.mk (by decide) (Nat.le_of_ble_eq_true rfl) ?_
  intro p e s m below meth c hC hSt _
  refine aw_iload_n hC 1 dX4_lowOf_0 rfl rfl ?_
  refine aw_iconst (v := 3) hC dX4_lowOf_1 (by decide) ?_
  refine aw_cut (S' := S) (pc' := 17) (lv' := [(0, .ref 13), (1, .int a1), (2, .int a2), (3, .int a3)]) (st' := [.int (if a1 = (3 : Int32) then (if (a2 - a2 / (2 : Int32) * (2 : Int32)) = (1 : Int32) then (1 : Int32) else (0 : Int32)) else (0 : Int32))]) ?_ (fun Jc1 => ?_)
  · generalize ex3 : (if a1 = (3 : Int32) then (if (a2 - a2 / (2 : Int32) * (2 : Int32)) = (1 : Int32) then (1 : Int32) else (0 : Int32)) else (0 : Int32)) = x3
    refine aw_istore hC [(4, .int _), (0, .ref 13), (1, .int _), (2, .int _), (3, .int _)] dX4_lowOf_17 (by decide) rfl ?_
    refine aw_iload hC 0 dX4_lowOf_19 rfl ?_
    refine aw_cut (S' := S) (pc' := 48) (lv' := [(4, .int x3), (0, .ref 13), (1, .int a1), (2, .int a2), (3, .int a3)]) (st' := [.int (if x3 = 0 then ((tbF 4).getD ((a1 * (5 : Int32)) + a2).toNatClampNeg 0) else (f_X10_value S 15 (3 : Int32) a3 (a2 - (1 : Int32))))]) ?_ (fun Jc4 => ?_)
    · generalize ex5 : (if x3 = 0 then ((tbF 4).getD ((a1 * (5 : Int32)) + a2).toNatClampNeg 0) else (f_X10_value S 15 (3 : Int32) a3 (a2 - (1 : Int32)))) = x5
      refine aw_iret hC dX4_lowOf_48 (Nat.le_refl _) (Nat.le_refl _) ?_
      exact FP.pI ((bd_eq ex3).trans ((bd_eq ex5).trans (rfl)))
    · refine aw_if_eq hC 39 dX4_lowOf_21 (by decide) (fun c4 => ?_) (fun c4 => ?_)
      · refine aw_gets hC hSt 4 (by decide) w_419 dX4_lowOf_39 ?_
        refine aw_iload_n hC 2 dX4_lowOf_42 rfl rfl ?_
        refine aw_iconst (v := 5) hC dX4_lowOf_43 (by decide) ?_
        refine aw_imul hC dX4_lowOf_44 ?_
        refine aw_iload_n hC 3 dX4_lowOf_45 rfl rfl ?_
        refine aw_iadd hC dX4_lowOf_46 ?_
        refine aw_tld hC hSt 4 (by decide) ((h0 x3 ex3 c4)) dX4_lowOf_47 ?_
        simp only [bd_def, if_pos c4] at Jc4 ⊢
        exact Jc4
      · refine aw_aload_n hC 1 dX4_lowOf_24 rfl rfl ?_
        refine aw_getP (b := 15) hC hSt 1 (cs_lt 13 4 0 (by decide) hM) (cs_k 13 4 0 (by decide) hM) rfl (by decide) w_325 rfl (cs_p 13 1 15 (by decide) hM) dX4_lowOf_25 ?_
        refine aw_iconst (v := 3) hC dX4_lowOf_28 (by decide) ?_
        refine aw_iload_n hC 4 dX4_lowOf_29 rfl rfl ?_
        refine aw_iload_n hC 3 dX4_lowOf_30 rfl rfl ?_
        refine aw_iconst (v := 1) hC dX4_lowOf_31 (by decide) ?_
        refine aw_isub hC dX4_lowOf_32 ?_
        refine aw_cV3r hC hSt (t_X10_value G l hM _ _ _ _ (by decide) (h1 x3 ex3 c4)) w_10 w_420 w_16 w_17 w_18 rfl rfl (by decide +kernel) ⟨Nat.le_of_ble_eq_true rfl, Nat.le_of_ble_eq_true rfl⟩ (cs_lt 15 10 0 (by decide) hM) (cs_k 15 10 0 (by decide) hM) rfl (Nat.le_of_ble_eq_true rfl) dX4_lowOf_33 ⟨Nat.zero_le _, Nat.zero_le _⟩ ?_
        refine aw_goto hC 48 dX4_lowOf_36 (by decide) ?_
        simp only [bd_def, if_neg c4] at Jc4 ⊢
        exact Jc4
  · refine aw_icmp_ne hC 16 dX4_lowOf_2 (by decide) (fun c1 => ?_) (fun c1 => ?_)
    · refine aw_iconst (v := 0) hC dX4_lowOf_16 (by decide) ?_
      simp only [bd_def, if_neg c1] at Jc1 ⊢
      exact Jc1
    · refine aw_iload_n hC 2 dX4_lowOf_5 rfl rfl ?_
      refine aw_iconst (v := 2) hC dX4_lowOf_6 (by decide) ?_
      refine aw_irem hC dX4_lowOf_7 (by decide) ?_
      refine aw_iconst (v := 1) hC dX4_lowOf_8 (by decide) ?_
      refine aw_icmp_ne hC 16 dX4_lowOf_9 (by decide) (fun c2 => ?_) (fun c2 => ?_)
      · refine aw_iconst (v := 0) hC dX4_lowOf_16 (by decide) ?_
        simp only [bd_def, if_pos c1, if_neg c2] at Jc1 ⊢
        exact Jc1
      · refine aw_iconst (v := 1) hC dX4_lowOf_12 (by decide) ?_
        refine aw_goto hC 17 dX4_lowOf_13 (by decide) ?_
        simp only [bd_def, if_pos c1, if_pos c2] at Jc1 ⊢
        exact Jc1
noncomputable def F_X4_highOf (S : HSt) (_o0 : Nat) (a1 : Int32) (a2 : Int32) : Int32 × HSt := bd ((if a1 = (7 : Int32) then (1 : Int32) else (if a1 = (8 : Int32) then (1 : Int32) else (0 : Int32)))) fun x3 => bd ((if x3 = 0 then ((tbF 5).getD ((a1 * (5 : Int32)) + a2).toNatClampNeg 0) else ((f_X10_howMany S 15 (2 : Int32)) - (1 : Int32)))) fun x5 => pr (x5) (S)
noncomputable def f_X4_highOf (S : HSt) (_o0 : Nat) (a1 : Int32) (a2 : Int32) : Int32 := (F_X4_highOf S _o0 a1 a2).1
def p_X4_highOf (S : HSt) (_o0 : Nat) (a1 : Int32) (a2 : Int32) : Prop := (∀ x3 : Int32, (if a1 = (7 : Int32) then (1 : Int32) else (if a1 = (8 : Int32) then (1 : Int32) else (0 : Int32))) = x3 → (x3 = 0) → vp_in ((a1 * (5 : Int32)) + a2) (tbF 5).length) ∧ (∀ x3 : Int32, (if a1 = (7 : Int32) then (1 : Int32) else (if a1 = (8 : Int32) then (1 : Int32) else (0 : Int32))) = x3 → (¬ x3 = 0) → p_X10_howMany S 15 (2 : Int32))
set_option maxRecDepth 100000 in
theorem t_X4_highOf (G : GG) (l : Launch) {S : HSt} (hM : CS S) (a1 : Int32) (a2 : Int32)  (hp : p_X4_highOf S 13 a1 a2) : AM G l yX4_highOf cX4_highOf 4 (some .int) (rmD 1 0 0) 0 0 [.ref 13, .int a1, .int a2] S (FP (some (.int (f_X4_highOf S 13 a1 a2))) (S)) := by
  obtain ⟨h0, h1⟩ := hp
  refine AM.mk (by decide) (Nat.le_of_ble_eq_true rfl) ?_
  intro p e s m below meth c hC hSt _
  refine aw_iload_n hC 1 dX4_highOf_0 rfl rfl ?_
  refine aw_bipush (v := 7) hC dX4_highOf_1 (by decide) ?_
  refine aw_cut (S' := S) (pc' := 17) (lv' := [(0, .ref 13), (1, .int a1), (2, .int a2)]) (st' := [.int (if a1 = (7 : Int32) then (1 : Int32) else (if a1 = (8 : Int32) then (1 : Int32) else (0 : Int32)))]) ?_ (fun Jc1 => ?_)
  · generalize ex3 : (if a1 = (7 : Int32) then (1 : Int32) else (if a1 = (8 : Int32) then (1 : Int32) else (0 : Int32))) = x3
    refine aw_istore_n hC [(3, .int _), (0, .ref 13), (1, .int _), (2, .int _)] dX4_highOf_17 rfl (by decide) rfl ?_
    refine aw_iload_n hC 0 dX4_highOf_18 rfl rfl ?_
    refine aw_cut (S' := S) (pc' := 44) (lv' := [(3, .int x3), (0, .ref 13), (1, .int a1), (2, .int a2)]) (st' := [.int (if x3 = 0 then ((tbF 5).getD ((a1 * (5 : Int32)) + a2).toNatClampNeg 0) else ((f_X10_howMany S 15 (2 : Int32)) - (1 : Int32)))]) ?_ (fun Jc4 => ?_)
    · generalize ex5 : (if x3 = 0 then ((tbF 5).getD ((a1 * (5 : Int32)) + a2).toNatClampNeg 0) else ((f_X10_howMany S 15 (2 : Int32)) - (1 : Int32))) = x5
      refine aw_iret hC dX4_highOf_44 (Nat.le_refl _) (Nat.le_refl _) ?_
      exact FP.pI ((bd_eq ex3).trans ((bd_eq ex5).trans (rfl)))
    · refine aw_if_eq hC 35 dX4_highOf_19 (by decide) (fun c4 => ?_) (fun c4 => ?_)
      · refine aw_gets hC hSt 5 (by decide) w_422 dX4_highOf_35 ?_
        refine aw_iload_n hC 2 dX4_highOf_38 rfl rfl ?_
        refine aw_iconst (v := 5) hC dX4_highOf_39 (by decide) ?_
        refine aw_imul hC dX4_highOf_40 ?_
        refine aw_iload_n hC 3 dX4_highOf_41 rfl rfl ?_
        refine aw_iadd hC dX4_highOf_42 ?_
        refine aw_tld hC hSt 5 (by decide) ((h0 x3 ex3 c4)) dX4_highOf_43 ?_
        simp only [bd_def, if_pos c4] at Jc4 ⊢
        exact Jc4
      · refine aw_aload_n hC 1 dX4_highOf_22 rfl rfl ?_
        refine aw_getP (b := 15) hC hSt 1 (cs_lt 13 4 0 (by decide) hM) (cs_k 13 4 0 (by decide) hM) rfl (by decide) w_325 rfl (cs_p 13 1 15 (by decide) hM) dX4_highOf_23 ?_
        refine aw_iconst (v := 2) hC dX4_highOf_26 (by decide) ?_
        refine aw_cV1r hC hSt (t_X10_howMany G l hM _ _ (by decide) (h1 x3 ex3 c4)) w_152 w_423 w_237 w_238 w_18 rfl rfl (by decide +kernel) ⟨Nat.le_of_ble_eq_true rfl, Nat.le_of_ble_eq_true rfl⟩ (cs_lt 15 10 0 (by decide) hM) (cs_k 15 10 0 (by decide) hM) rfl (Nat.le_of_ble_eq_true rfl) dX4_highOf_27 ⟨Nat.zero_le _, Nat.zero_le _⟩ ?_
        refine aw_iconst (v := 1) hC dX4_highOf_30 (by decide) ?_
        refine aw_isub hC dX4_highOf_31 ?_
        refine aw_goto hC 44 dX4_highOf_32 (by decide) ?_
        simp only [bd_def, if_neg c4] at Jc4 ⊢
        exact Jc4
  · refine aw_icmp_eq hC 12 dX4_highOf_3 (by decide) (fun c1 => ?_) (fun c1 => ?_)
    · refine aw_iconst (v := 1) hC dX4_highOf_12 (by decide) ?_
      refine aw_goto hC 17 dX4_highOf_13 (by decide) ?_
      simp only [bd_def, if_pos c1] at Jc1 ⊢
      exact Jc1
    · refine aw_iload_n hC 1 dX4_highOf_6 rfl rfl ?_
      refine aw_bipush (v := 8) hC dX4_highOf_7 (by decide) ?_
      refine aw_icmp_ne hC 16 dX4_highOf_9 (by decide) (fun c2 => ?_) (fun c2 => ?_)
      · refine aw_iconst (v := 0) hC dX4_highOf_16 (by decide) ?_
        simp only [bd_def, if_neg c1, if_neg c2] at Jc1 ⊢
        exact Jc1
      · refine aw_iconst (v := 1) hC dX4_highOf_12 (by decide) ?_
        refine aw_goto hC 17 dX4_highOf_13 (by decide) ?_
        simp only [bd_def, if_neg c1, if_pos c2] at Jc1 ⊢
        exact Jc1
noncomputable def L_X4_readThing_28 : Nat → HSt → Int32 → Int32 → Int32 → Int32 → Int32 → Int32 × Int32 × Int32 × Int32 × Int32 × Int32 × Int32 × HSt
  | 0, S, v1, v2, v3, v4, v5 => ((1 : Int32), 0, v1, v2, v3, v4, v5, S)
  | n + 1, S, v1, v2, v3, v4, v5 =>
    if ((tbF 3).getD v1.toNatClampNeg 0) ≤ v5 then ((pr ((0 : Int32)) (pr (0) (pr (v1) (pr (v2) (pr (v3) (pr (v4) (pr (v5) (S))))))))) else (if (gI S 13 3) = (2 : Int32) then (if (gI S 13 6) < (f_X4_lowOf S 13 v1 v5 v3) then (bd (f_X4_fail S 13 (2 : Int32)) fun r1008 => (pr ((1 : Int32)) (pr (r1008.1) (pr (v1) (pr (v2) (pr (v3) (pr (v4) (pr (v5) (r1008.2))))))))) else (if (gI S 13 6) ≤ (f_X4_highOf S 13 v1 v5) then (bd (f_X10_put S 15 v2 v3 (v4 + v5) (gI S 13 6)) fun r1010 => bd (f_X4_next r1010 13) fun r1011 => L_X4_readThing_28 n r1011 v1 v2 v3 v4 (v5 + (1 : Int32))) else (bd (f_X4_fail S 13 (2 : Int32)) fun r1012 => (pr ((1 : Int32)) (pr (r1012.1) (pr (v1) (pr (v2) (pr (v3) (pr (v4) (pr (v5) (r1012.2))))))))))) else (bd (f_X4_fail S 13 (1 : Int32)) fun r1013 => (pr ((1 : Int32)) (pr (r1013.1) (pr (v1) (pr (v2) (pr (v3) (pr (v4) (pr (v5) (r1013.2))))))))))
def T_X4_readThing_28 : Nat → HSt → Int32 → Int32 → Int32 → Int32 → Int32 → Prop
  | 0, _, _, _, _, _, _ => False
  | n + 1, S, v1, v2, v3, v4, v5 => (vp_in v1 (tbF 3).length) ∧ ((¬ ((tbF 3).getD v1.toNatClampNeg 0) ≤ v5) → ((gI S 13 3) = (2 : Int32)) → p_X4_lowOf S 13 v1 v5 v3) ∧ ((¬ ((tbF 3).getD v1.toNatClampNeg 0) ≤ v5) → ((gI S 13 3) = (2 : Int32)) → ((gI S 13 6) < (f_X4_lowOf S 13 v1 v5 v3)) → ∀ r1008, f_X4_fail S 13 (2 : Int32) = r1008 → Bz r1008.1) ∧ ((¬ ((tbF 3).getD v1.toNatClampNeg 0) ≤ v5) → ((gI S 13 3) = (2 : Int32)) → (¬ (gI S 13 6) < (f_X4_lowOf S 13 v1 v5 v3)) → p_X4_highOf S 13 v1 v5) ∧ ((¬ ((tbF 3).getD v1.toNatClampNeg 0) ≤ v5) → ((gI S 13 3) = (2 : Int32)) → (¬ (gI S 13 6) < (f_X4_lowOf S 13 v1 v5 v3)) → ((gI S 13 6) ≤ (f_X4_highOf S 13 v1 v5)) → p_X10_put S 15 v2 v3 (v4 + v5) (gI S 13 6)) ∧ ((¬ ((tbF 3).getD v1.toNatClampNeg 0) ≤ v5) → ((gI S 13 3) = (2 : Int32)) → (¬ (gI S 13 6) < (f_X4_lowOf S 13 v1 v5 v3)) → ((gI S 13 6) ≤ (f_X4_highOf S 13 v1 v5)) → ∀ r1010, f_X10_put S 15 v2 v3 (v4 + v5) (gI S 13 6) = r1010 → p_X4_next r1010 13) ∧ ((¬ ((tbF 3).getD v1.toNatClampNeg 0) ≤ v5) → ((gI S 13 3) = (2 : Int32)) → (¬ (gI S 13 6) < (f_X4_lowOf S 13 v1 v5 v3)) → ((gI S 13 6) ≤ (f_X4_highOf S 13 v1 v5)) → ∀ r1010, f_X10_put S 15 v2 v3 (v4 + v5) (gI S 13 6) = r1010 → ∀ r1011, f_X4_next r1010 13 = r1011 → T_X4_readThing_28 n r1011 v1 v2 v3 v4 (v5 + (1 : Int32))) ∧ ((¬ ((tbF 3).getD v1.toNatClampNeg 0) ≤ v5) → ((gI S 13 3) = (2 : Int32)) → (¬ (gI S 13 6) < (f_X4_lowOf S 13 v1 v5 v3)) → (¬ (gI S 13 6) ≤ (f_X4_highOf S 13 v1 v5)) → ∀ r1012, f_X4_fail S 13 (2 : Int32) = r1012 → Bz r1012.1) ∧ ((¬ ((tbF 3).getD v1.toNatClampNeg 0) ≤ v5) → (¬ (gI S 13 3) = (2 : Int32)) → ∀ r1013, f_X4_fail S 13 (1 : Int32) = r1013 → Bz r1013.1)
theorem qL_X4_readThing_28 : ∀ (n : Nat) (S : HSt) (v1 : Int32) (v2 : Int32) (v3 : Int32) (v4 : Int32) (v5 : Int32), shp (L_X4_readThing_28 n S v1 v2 v3 v4 v5).2.2.2.2.2.2.2 = shp S := by
  intro n
  induction n with
  | zero => intros; rfl
  | succ n ih =>
    intro S v1 v2 v3 v4 v5
    unfold L_X4_readThing_28
    repeat' (first | with_reducible refine shpr7 ?_ | with_reducible rfl | with_reducible refine (ih _ _ _ _ _ _).trans ?_ | with_reducible refine (q_X10_add _ _ _).trans ?_ | with_reducible refine (q_X10_put _ _ _ _ _ _).trans ?_ | with_reducible refine (q_X4_fail _ _ _).trans ?_ | with_reducible refine (q_X4_next _ _).trans ?_ | with_reducible refine (shp_sI _ _ _ _).trans ?_ | with_reducible refine (shp_sJ _ _ _ _).trans ?_ | with_reducible refine (shp_rI _ _ _).trans ?_ | with_reducible refine shi ?_ ?_ | with_reducible refine shb (fun _ _ => ?_) | with_reducible refine shiP (fun q : Int32 × Int32 × Int32 × Int32 × Int32 × Int32 × Int32 × HSt => q.2.2.2.2.2.2.2) ?_ ?_ | with_reducible refine shbP (fun q : Int32 × Int32 × Int32 × Int32 × Int32 × Int32 × Int32 × HSt => q.2.2.2.2.2.2.2) (fun _ _ => ?_) | (subst_vars; with_reducible rfl) | (subst_vars; with_reducible refine (ih _ _ _ _ _ _).trans ?_) | (subst_vars; with_reducible refine (q_X10_add _ _ _).trans ?_) | (subst_vars; with_reducible refine (q_X10_put _ _ _ _ _ _).trans ?_) | (subst_vars; with_reducible refine (q_X4_fail _ _ _).trans ?_) | (subst_vars; with_reducible refine (q_X4_next _ _).trans ?_) | (subst_vars; with_reducible refine (shp_sI _ _ _ _).trans ?_) | (subst_vars; with_reducible refine (shp_sJ _ _ _ _).trans ?_) | (subst_vars; with_reducible refine (shp_rI _ _ _).trans ?_) | (subst_vars; with_reducible refine shi ?_ ?_) | (subst_vars; with_reducible refine shb (fun _ _ => ?_)))
theorem vL_X4_readThing_28 : ∀ (n : Nat) (S : HSt) (v1 : Int32) (v2 : Int32) (v3 : Int32) (v4 : Int32) (v5 : Int32), Fr [(13, 3), (13, 4), (13, 5), (13, 6), (13, 7), (13, 8), (17, 1000)] S (L_X4_readThing_28 n S v1 v2 v3 v4 v5).2.2.2.2.2.2.2 := by
  intro n
  induction n with
  | zero => intros; exact Fr.refl _ _
  | succ n ih =>
    intro S v1 v2 v3 v4 v5
    unfold L_X4_readThing_28
    repeat' (first | with_reducible refine frpr7 ?_ | with_reducible exact Fr.refl _ _ | with_reducible refine Fr.lP (fun q : Int32 × Int32 × Int32 × Int32 × Int32 × Int32 × Int32 × HSt => q.2.2.2.2.2.2.2) (fun _ _ => ?_) | with_reducible refine Fr.iteP (fun q : Int32 × Int32 × Int32 × Int32 × Int32 × Int32 × Int32 × HSt => q.2.2.2.2.2.2.2) ?_ ?_ | with_reducible refine Fr.l1 (fun _ _ => ?_) | with_reducible refine Fr.ite ?_ ?_ | with_reducible refine Fr.sE (by assumption) (by first | decide | simp only [List.mem_cons, List.not_mem_nil, or_false, true_or, or_true, eq_self_iff_true]) ?_ | with_reducible refine Fr.jE (by assumption) ?_ | with_reducible refine Fr.rE (by assumption) (by first | decide | simp only [List.mem_cons, List.not_mem_nil, or_false, true_or, or_true, eq_self_iff_true]) ?_ | with_reducible refine Fr.iE (by assumption) ?_ ?_ | with_reducible refine Fr.tr (ih _ _ _ _ _ _) (by first | decide | simp only [List.mem_cons, List.not_mem_nil, or_false, forall_eq_or_imp, forall_eq, true_or, or_true, and_self, eq_self_iff_true]) ?_ | with_reducible refine Fr.tr (w_X10_add _ _ _ _ (by assumption)) (by first | decide | simp only [List.mem_cons, List.not_mem_nil, or_false, forall_eq_or_imp, forall_eq, true_or, or_true, and_self, eq_self_iff_true]) ?_ | with_reducible refine Fr.tr (w_X10_put _ _ _ _ _ _ _ (by assumption)) (by first | decide | simp only [List.mem_cons, List.not_mem_nil, or_false, forall_eq_or_imp, forall_eq, true_or, or_true, and_self, eq_self_iff_true]) ?_ | with_reducible refine Fr.tr (w_X4_fail _ _ _ _ (by assumption)) (by first | decide | simp only [List.mem_cons, List.not_mem_nil, or_false, forall_eq_or_imp, forall_eq, true_or, or_true, and_self, eq_self_iff_true]) ?_ | with_reducible refine Fr.tr (w_X4_next _ _ _ (by assumption)) (by first | decide | simp only [List.mem_cons, List.not_mem_nil, or_false, forall_eq_or_imp, forall_eq, true_or, or_true, and_self, eq_self_iff_true]) ?_)
theorem wL_X4_readThing_28 (n : Nat) (S : HSt) (v1 : Int32) (v2 : Int32) (v3 : Int32) (v4 : Int32) (v5 : Int32) (r : Int32 × Int32 × Int32 × Int32 × Int32 × Int32 × Int32 × HSt) (e : L_X4_readThing_28 n S v1 v2 v3 v4 v5 = r) : Fr [(13, 3), (13, 4), (13, 5), (13, 6), (13, 7), (13, 8), (17, 1000)] S r.2.2.2.2.2.2.2 := by
  rw [← e]
  exact vL_X4_readThing_28 n S v1 v2 v3 v4 v5
set_option maxRecDepth 100000 in
theorem l_X4_readThing_28 {p : Program} {l : Launch} {e : Env} {s : State} {m : MethodId} {args : Array Value} {below : List Frame} {meth : Method} {c : Code} {G : GG} {Post : Option Value → HSt → Prop} (hC : ACx p s m args meth c cX4_readThing RX4 6 (some .boolean)) (hSt : St G s)   : ∀ (n : Nat) (S : HSt) (v1 : Int32) (v2 : Int32) (v3 : Int32) (v4 : Int32) (v5 : Int32), CS S → T_X4_readThing_28 n S v1 v2 v3 v4 v5 → ((L_X4_readThing_28 n S v1 v2 v3 v4 v5).1 = 1 → Post (some (.int (L_X4_readThing_28 n S v1 v2 v3 v4 v5).2.1)) (L_X4_readThing_28 n S v1 v2 v3 v4 v5).2.2.2.2.2.2.2) → ((L_X4_readThing_28 n S v1 v2 v3 v4 v5).1 ≠ 1 → AW p l e (rmD 3 0 0) s m args below meth c G 6 (AQ G below args s 0 0 Post) (L_X4_readThing_28 n S v1 v2 v3 v4 v5).2.2.2.2.2.2.2 0 0 115 [(0, .ref 13), (1, .int (L_X4_readThing_28 n S v1 v2 v3 v4 v5).2.2.1), (2, .int (L_X4_readThing_28 n S v1 v2 v3 v4 v5).2.2.2.1), (3, .int (L_X4_readThing_28 n S v1 v2 v3 v4 v5).2.2.2.2.1), (4, .int (L_X4_readThing_28 n S v1 v2 v3 v4 v5).2.2.2.2.2.1), (5, .int (L_X4_readThing_28 n S v1 v2 v3 v4 v5).2.2.2.2.2.2.1)] []) → AW p l e (rmD 3 0 0) s m args below meth c G 6 (AQ G below args s 0 0 Post) S 0 0 28 [(0, .ref 13), (1, .int v1), (2, .int v2), (3, .int v3), (4, .int v4), (5, .int v5)] [] := by
  intro n
  induction n with
  | zero => intro S v1 v2 v3 v4 v5 _ hT; exact hT.elim
  | succ n ih =>
    intro S v1 v2 v3 v4 v5 hM hT hr hk
    unfold T_X4_readThing_28 at hT
    obtain ⟨h0, h1, h2, h3, h4, h5, h6, h7, h8⟩ := hT
    refine aw_iload hC 5 dX4_readThing_28 rfl ?_
    refine aw_gets hC hSt 3 (by decide) w_428 dX4_readThing_30 ?_
    refine aw_iload_n hC 1 dX4_readThing_33 rfl rfl ?_
    refine aw_tld hC hSt 3 (by decide) ((h0)) dX4_readThing_34 ?_
    refine aw_icmp_ge hC 115 dX4_readThing_35 (by decide) (fun c1005 => ?_) (fun c1005 => ?_)
    · refine aw_sub [0, 1, 2, 3, 4, 5] rfl ?_
      have E : L_X4_readThing_28 (n + 1) S v1 v2 v3 v4 v5 = _ := (if_pos c1005).trans (rfl)
      rw [E] at hk hr
      exact hk (by show ¬ (0 : Int32) = 1; decide)
    · refine aw_aload_n hC 0 dX4_readThing_38 rfl rfl ?_
      refine aw_getI hC hSt 3 (cs_lt 13 4 0 (by decide) hM) (cs_k 13 4 0 (by decide) hM) rfl (by decide) w_347 rfl dX4_readThing_39 ?_
      refine aw_iconst (v := 2) hC dX4_readThing_42 (by decide) ?_
      refine aw_icmp_eq hC 52 dX4_readThing_43 (by decide) (fun c1006 => ?_) (fun c1006 => ?_)
      · refine aw_aload_n hC 0 dX4_readThing_52 rfl rfl ?_
        refine aw_getI hC hSt 6 (cs_lt 13 4 0 (by decide) hM) (cs_k 13 4 0 (by decide) hM) rfl (by decide) w_344 rfl dX4_readThing_53 ?_
        refine aw_aload_n hC 0 dX4_readThing_56 rfl rfl ?_
        refine aw_iload_n hC 1 dX4_readThing_57 rfl rfl ?_
        refine aw_iload hC 5 dX4_readThing_58 rfl ?_
        refine aw_iload_n hC 3 dX4_readThing_60 rfl rfl ?_
        refine aw_cV3r hC hSt (t_X4_lowOf G l hM _ _ _ (h1 c1005 c1006)) w_418 w_435 w_436 w_437 w_351 rfl rfl (by decide +kernel) ⟨Nat.le_of_ble_eq_true rfl, Nat.le_of_ble_eq_true rfl⟩ (cs_lt 13 4 0 (by decide) hM) (cs_k 13 4 0 (by decide) hM) rfl (Nat.le_of_ble_eq_true rfl) dX4_readThing_61 ⟨Nat.zero_le _, Nat.zero_le _⟩ ?_
        refine aw_icmp_lt hC 81 dX4_readThing_64 (by decide) (fun c1007 => ?_) (fun c1007 => ?_)
        · refine aw_aload_n hC 0 dX4_readThing_81 rfl rfl ?_
          refine aw_iconst (v := 2) hC dX4_readThing_82 (by decide) ?_
          refine aw_cV1r hC hSt (t_X4_fail G l hM _) w_417 w_432 w_433 w_434 w_351 rfl rfl (by decide +kernel) ⟨Nat.le_of_ble_eq_true rfl, Nat.le_of_ble_eq_true rfl⟩ (cs_lt 13 4 0 (by decide) hM) (cs_k 13 4 0 (by decide) hM) rfl (Nat.le_of_ble_eq_true rfl) dX4_readThing_83 ⟨Nat.zero_le _, Nat.zero_le _⟩ ?_
          generalize er1008 : f_X4_fail S 13 (2 : Int32) = r1008
          have hM : CS r1008.2 := CS.of (by rw [← er1008]; exact q_X4_fail _ _ _) hM
          refine aw_zret hC dX4_readThing_86 (Nat.le_refl _) (Nat.le_refl _) (Bz.n (h2 c1005 c1006 c1007 r1008 er1008)) ?_
          have E : L_X4_readThing_28 (n + 1) S v1 v2 v3 v4 v5 = _ := (if_neg c1005).trans ((if_pos c1006).trans ((if_pos c1007).trans ((bd_eq er1008).trans (rfl))))
          rw [E] at hr
          exact hr rfl
        · refine aw_aload_n hC 0 dX4_readThing_67 rfl rfl ?_
          refine aw_getI hC hSt 6 (cs_lt 13 4 0 (by decide) hM) (cs_k 13 4 0 (by decide) hM) rfl (by decide) w_344 rfl dX4_readThing_68 ?_
          refine aw_aload_n hC 0 dX4_readThing_71 rfl rfl ?_
          refine aw_iload_n hC 1 dX4_readThing_72 rfl rfl ?_
          refine aw_iload hC 5 dX4_readThing_73 rfl ?_
          refine aw_cV2r hC hSt (t_X4_highOf G l hM _ _ (h3 c1005 c1006 c1007)) w_421 w_438 w_439 w_440 w_351 rfl rfl (by decide +kernel) ⟨Nat.le_of_ble_eq_true rfl, Nat.le_of_ble_eq_true rfl⟩ (cs_lt 13 4 0 (by decide) hM) (cs_k 13 4 0 (by decide) hM) rfl (Nat.le_of_ble_eq_true rfl) dX4_readThing_75 ⟨Nat.zero_le _, Nat.zero_le _⟩ ?_
          refine aw_icmp_le hC 87 dX4_readThing_78 (by decide) (fun c1009 => ?_) (fun c1009 => ?_)
          · refine aw_aload_n hC 0 dX4_readThing_87 rfl rfl ?_
            refine aw_getP (b := 15) hC hSt 1 (cs_lt 13 4 0 (by decide) hM) (cs_k 13 4 0 (by decide) hM) rfl (by decide) w_325 rfl (cs_p 13 1 15 (by decide) hM) dX4_readThing_88 ?_
            refine aw_iload_n hC 2 dX4_readThing_91 rfl rfl ?_
            refine aw_iload_n hC 3 dX4_readThing_92 rfl rfl ?_
            refine aw_iload hC 4 dX4_readThing_93 rfl ?_
            refine aw_iload hC 5 dX4_readThing_95 rfl ?_
            refine aw_iadd hC dX4_readThing_97 ?_
            refine aw_aload_n hC 0 dX4_readThing_98 rfl rfl ?_
            refine aw_getI hC hSt 6 (cs_lt 13 4 0 (by decide) hM) (cs_k 13 4 0 (by decide) hM) rfl (by decide) w_344 rfl dX4_readThing_99 ?_
            refine aw_cV4v hC hSt (t_X10_put G l hM _ _ _ _ _ (by decide) (h4 c1005 c1006 c1007 c1009)) w_335 w_441 w_339 w_340 w_18 rfl rfl (by decide +kernel) ⟨Nat.le_of_ble_eq_true rfl, Nat.le_of_ble_eq_true rfl⟩ (cs_lt 15 10 0 (by decide) hM) (cs_k 15 10 0 (by decide) hM) rfl (Nat.le_of_ble_eq_true rfl) dX4_readThing_102 ⟨Nat.zero_le _, Nat.zero_le _⟩ ?_
            generalize er1010 : f_X10_put S 15 v2 v3 (v4 + v5) (gI S 13 6) = r1010
            have hM : CS r1010 := CS.of (by rw [← er1010]; exact q_X10_put _ _ _ _ _ _) hM
            refine aw_aload_n hC 0 dX4_readThing_105 rfl rfl ?_
            refine aw_cV0v hC hSt (t_X4_next G l hM  (h5 c1005 c1006 c1007 c1009 r1010 er1010)) w_352 w_429 w_430 w_431 w_351 rfl rfl (by decide +kernel) ⟨Nat.le_of_ble_eq_true rfl, Nat.le_of_ble_eq_true rfl⟩ (cs_lt 13 4 0 (by decide) hM) (cs_k 13 4 0 (by decide) hM) rfl (Nat.le_of_ble_eq_true rfl) dX4_readThing_106 ⟨Nat.zero_le _, Nat.zero_le _⟩ ?_
            generalize er1011 : f_X4_next r1010 13 = r1011
            have hM : CS r1011 := CS.of (by rw [← er1011]; exact q_X4_next _ _) hM
            refine aw_iinc (v := (v5 + (1 : Int32))) hC 5 [(5, .int _), (0, .ref 13), (1, .int _), (2, .int _), (3, .int _), (4, .int _)] dX4_readThing_109 rfl rfl (by decide) rfl ?_
            refine aw_goto hC 28 dX4_readThing_112 (by decide) ?_
            refine aw_sub [1, 2, 3, 4, 5, 0] rfl ?_
            have hTn := (h6 c1005 c1006 c1007 c1009 r1010 er1010 r1011 er1011)
            have hMn : CS r1011 := hM
            have E : L_X4_readThing_28 (n + 1) S v1 v2 v3 v4 v5 = _ := (if_neg c1005).trans ((if_pos c1006).trans ((if_neg c1007).trans ((if_pos c1009).trans ((bd_eq er1010).trans ((bd_eq er1011).trans (rfl))))))
            rw [E] at hk hr
            exact ih _ _ _ _ _ _ hMn hTn hr hk
          · refine aw_aload_n hC 0 dX4_readThing_81 rfl rfl ?_
            refine aw_iconst (v := 2) hC dX4_readThing_82 (by decide) ?_
            refine aw_cV1r hC hSt (t_X4_fail G l hM _) w_417 w_432 w_433 w_434 w_351 rfl rfl (by decide +kernel) ⟨Nat.le_of_ble_eq_true rfl, Nat.le_of_ble_eq_true rfl⟩ (cs_lt 13 4 0 (by decide) hM) (cs_k 13 4 0 (by decide) hM) rfl (Nat.le_of_ble_eq_true rfl) dX4_readThing_83 ⟨Nat.zero_le _, Nat.zero_le _⟩ ?_
            generalize er1012 : f_X4_fail S 13 (2 : Int32) = r1012
            have hM : CS r1012.2 := CS.of (by rw [← er1012]; exact q_X4_fail _ _ _) hM
            refine aw_zret hC dX4_readThing_86 (Nat.le_refl _) (Nat.le_refl _) (Bz.n (h7 c1005 c1006 c1007 c1009 r1012 er1012)) ?_
            have E : L_X4_readThing_28 (n + 1) S v1 v2 v3 v4 v5 = _ := (if_neg c1005).trans ((if_pos c1006).trans ((if_neg c1007).trans ((if_neg c1009).trans ((bd_eq er1012).trans (rfl)))))
            rw [E] at hr
            exact hr rfl
      · refine aw_aload_n hC 0 dX4_readThing_46 rfl rfl ?_
        refine aw_iconst (v := 1) hC dX4_readThing_47 (by decide) ?_
        refine aw_cV1r hC hSt (t_X4_fail G l hM _) w_417 w_432 w_433 w_434 w_351 rfl rfl (by decide +kernel) ⟨Nat.le_of_ble_eq_true rfl, Nat.le_of_ble_eq_true rfl⟩ (cs_lt 13 4 0 (by decide) hM) (cs_k 13 4 0 (by decide) hM) rfl (Nat.le_of_ble_eq_true rfl) dX4_readThing_48 ⟨Nat.zero_le _, Nat.zero_le _⟩ ?_
        generalize er1013 : f_X4_fail S 13 (1 : Int32) = r1013
        have hM : CS r1013.2 := CS.of (by rw [← er1013]; exact q_X4_fail _ _ _) hM
        refine aw_zret hC dX4_readThing_51 (Nat.le_refl _) (Nat.le_refl _) (Bz.n (h8 c1005 c1006 r1013 er1013)) ?_
        have E : L_X4_readThing_28 (n + 1) S v1 v2 v3 v4 v5 = _ := (if_neg c1005).trans ((if_neg c1006).trans ((bd_eq er1013).trans (rfl)))
        rw [E] at hr
        exact hr rfl
noncomputable def f_X4_readThing (S : HSt) (_o0 : Nat) (a1 : Int32) (a2 : Int32) : Int32 × HSt := bd ((f_X10_howMany S 15 a2)) fun x1 => bd ((if a2 = (5 : Int32) then (1 : Int32) else (0 : Int32))) fun x3 => bd (f_X4_next S 13) fun r4 => bd (L_X4_readThing_28 1000 r4 a1 a2 x1 x3 (0 : Int32)) fun r5 => if r5.1 = 1 then (pr (r5.2.1) (r5.2.2.2.2.2.2.2)) else (if (gI r5.2.2.2.2.2.2.2 13 3) = (3 : Int32) then (bd ((if r5.2.2.2.1 = (5 : Int32) then (bd (f_X10_put r5.2.2.2.2.2.2.2 15 (5 : Int32) r5.2.2.2.2.1 (0 : Int32) ((r5.2.2.1 - (5 : Int32)) + (2 : Int32))) fun r9 => r9) else r5.2.2.2.2.2.2.2)) fun S10 => bd (f_X10_add S10 15 r5.2.2.2.1) fun r11 => bd (f_X4_next r11 13) fun r12 => pr ((1 : Int32)) (r12)) else (bd (f_X4_fail r5.2.2.2.2.2.2.2 13 (1 : Int32)) fun r13 => pr (r13.1) (r13.2)))
def p_X4_readThing (S : HSt) (_o0 : Nat) (a1 : Int32) (a2 : Int32) : Prop := (p_X10_howMany S 15 a2) ∧ (∀ x1 : Int32, (f_X10_howMany S 15 a2) = x1 → ∀ x3 : Int32, (if a2 = (5 : Int32) then (1 : Int32) else (0 : Int32)) = x3 → p_X4_next S 13) ∧ (∀ x1 : Int32, (f_X10_howMany S 15 a2) = x1 → ∀ x3 : Int32, (if a2 = (5 : Int32) then (1 : Int32) else (0 : Int32)) = x3 → ∀ r4, f_X4_next S 13 = r4 → T_X4_readThing_28 1000 r4 a1 a2 x1 x3 (0 : Int32)) ∧ (∀ x1 : Int32, (f_X10_howMany S 15 a2) = x1 → ∀ x3 : Int32, (if a2 = (5 : Int32) then (1 : Int32) else (0 : Int32)) = x3 → ∀ r4, f_X4_next S 13 = r4 → ∀ r5, L_X4_readThing_28 1000 r4 a1 a2 x1 x3 (0 : Int32) = r5 → (¬ r5.1 = 1) → ((gI r5.2.2.2.2.2.2.2 13 3) = (3 : Int32)) → (r5.2.2.2.1 = (5 : Int32)) → p_X10_put r5.2.2.2.2.2.2.2 15 (5 : Int32) r5.2.2.2.2.1 (0 : Int32) ((r5.2.2.1 - (5 : Int32)) + (2 : Int32))) ∧ (∀ x1 : Int32, (f_X10_howMany S 15 a2) = x1 → ∀ x3 : Int32, (if a2 = (5 : Int32) then (1 : Int32) else (0 : Int32)) = x3 → ∀ r4, f_X4_next S 13 = r4 → ∀ r5, L_X4_readThing_28 1000 r4 a1 a2 x1 x3 (0 : Int32) = r5 → (¬ r5.1 = 1) → ((gI r5.2.2.2.2.2.2.2 13 3) = (3 : Int32)) → ∀ S10 : HSt, (if r5.2.2.2.1 = (5 : Int32) then (bd (f_X10_put r5.2.2.2.2.2.2.2 15 (5 : Int32) r5.2.2.2.2.1 (0 : Int32) ((r5.2.2.1 - (5 : Int32)) + (2 : Int32))) fun r9 => r9) else r5.2.2.2.2.2.2.2) = S10 → p_X10_add S10 15 r5.2.2.2.1) ∧ (∀ x1 : Int32, (f_X10_howMany S 15 a2) = x1 → ∀ x3 : Int32, (if a2 = (5 : Int32) then (1 : Int32) else (0 : Int32)) = x3 → ∀ r4, f_X4_next S 13 = r4 → ∀ r5, L_X4_readThing_28 1000 r4 a1 a2 x1 x3 (0 : Int32) = r5 → (¬ r5.1 = 1) → ((gI r5.2.2.2.2.2.2.2 13 3) = (3 : Int32)) → ∀ S10 : HSt, (if r5.2.2.2.1 = (5 : Int32) then (bd (f_X10_put r5.2.2.2.2.2.2.2 15 (5 : Int32) r5.2.2.2.2.1 (0 : Int32) ((r5.2.2.1 - (5 : Int32)) + (2 : Int32))) fun r9 => r9) else r5.2.2.2.2.2.2.2) = S10 → ∀ r11, f_X10_add S10 15 r5.2.2.2.1 = r11 → p_X4_next r11 13) ∧ (∀ x1 : Int32, (f_X10_howMany S 15 a2) = x1 → ∀ x3 : Int32, (if a2 = (5 : Int32) then (1 : Int32) else (0 : Int32)) = x3 → ∀ r4, f_X4_next S 13 = r4 → ∀ r5, L_X4_readThing_28 1000 r4 a1 a2 x1 x3 (0 : Int32) = r5 → (¬ r5.1 = 1) → (¬ (gI r5.2.2.2.2.2.2.2 13 3) = (3 : Int32)) → ∀ r13, f_X4_fail r5.2.2.2.2.2.2.2 13 (1 : Int32) = r13 → Bz r13.1)
set_option maxRecDepth 100000 in
theorem t_X4_readThing (G : GG) (l : Launch) {S : HSt} (hM : CS S) (a1 : Int32) (a2 : Int32)  (hp : p_X4_readThing S 13 a1 a2) : AM G l yX4_readThing cX4_readThing 6 (some .boolean) (rmD 3 0 0) 0 0 [.ref 13, .int a1, .int a2] S (FP (some (.int (f_X4_readThing S 13 a1 a2).1)) ((f_X4_readThing S 13 a1 a2).2)) := by
  obtain ⟨h0, h1, h2, h3, h4, h5, h6⟩ := hp
  refine AM.mk (by decide) (Nat.le_of_ble_eq_true rfl) ?_
  intro p e s m below meth c hC hSt _
  refine aw_aload_n hC 0 dX4_readThing_0 rfl rfl ?_
  refine aw_getP (b := 15) hC hSt 1 (cs_lt 13 4 0 (by decide) hM) (cs_k 13 4 0 (by decide) hM) rfl (by decide) w_325 rfl (cs_p 13 1 15 (by decide) hM) dX4_readThing_1 ?_
  refine aw_iload_n hC 2 dX4_readThing_4 rfl rfl ?_
  refine aw_cV1r hC hSt (t_X10_howMany G l hM _ _ (by decide) (h0)) w_152 w_423 w_237 w_238 w_18 rfl rfl (by decide +kernel) ⟨Nat.le_of_ble_eq_true rfl, Nat.le_of_ble_eq_true rfl⟩ (cs_lt 15 10 0 (by decide) hM) (cs_k 15 10 0 (by decide) hM) rfl (Nat.le_of_ble_eq_true rfl) dX4_readThing_5 ⟨Nat.zero_le _, Nat.zero_le _⟩ ?_
  refine aw_istore_n hC [(3, .int _), (0, .ref 13), (1, .int _), (2, .int _)] dX4_readThing_8 rfl (by decide) rfl ?_
  generalize ex1 : (f_X10_howMany S 15 a2) = x1
  refine aw_iload_n hC 3 dX4_readThing_9 rfl rfl ?_
  refine aw_iconst (v := 5) hC dX4_readThing_10 (by decide) ?_
  refine aw_cut (S' := S) (pc' := 19) (lv' := [(3, .int x1), (0, .ref 13), (1, .int a1), (2, .int a2)]) (st' := [.int (if a2 = (5 : Int32) then (1 : Int32) else (0 : Int32))]) ?_ (fun Jc2 => ?_)
  · generalize ex3 : (if a2 = (5 : Int32) then (1 : Int32) else (0 : Int32)) = x3
    refine aw_istore hC [(4, .int _), (3, .int _), (0, .ref 13), (1, .int _), (2, .int _)] dX4_readThing_19 (by decide) rfl ?_
    refine aw_aload_n hC 2 dX4_readThing_21 rfl rfl ?_
    refine aw_cV0v hC hSt (t_X4_next G l hM  (h1 x1 ex1 x3 ex3)) w_352 w_429 w_430 w_431 w_351 rfl rfl (by decide +kernel) ⟨Nat.le_of_ble_eq_true rfl, Nat.le_of_ble_eq_true rfl⟩ (cs_lt 13 4 0 (by decide) hM) (cs_k 13 4 0 (by decide) hM) rfl (Nat.le_of_ble_eq_true rfl) dX4_readThing_22 ⟨Nat.zero_le _, Nat.zero_le _⟩ ?_
    generalize er4 : f_X4_next S 13 = r4
    have hM : CS r4 := CS.of (by rw [← er4]; exact q_X4_next _ _) hM
    refine aw_iconst (v := 0) hC dX4_readThing_25 (by decide) ?_
    refine aw_istore hC [(5, .int _), (4, .int _), (3, .int _), (0, .ref 13), (1, .int _), (2, .int _)] dX4_readThing_26 (by decide) rfl ?_
    refine aw_sub [3, 4, 5, 2, 1, 0] rfl ?_
    refine l_X4_readThing_28 hC hSt 1000 _ _ _ _ _ _ hM (h2 x1 ex1 x3 ex3 r4 er4) (fun c6 => ?_) (fun c6 => ?_)
    · revert c6
      generalize er5 : L_X4_readThing_28 1000 r4 a1 a2 x1 x3 (0 : Int32) = r5
      intro c6
      exact FP.qI ((bd_eq ex1).trans ((bd_eq ex3).trans ((bd_eq er4).trans ((bd_eq er5).trans ((if_pos c6).trans (rfl))))))
    · revert c6
      generalize er5 : L_X4_readThing_28 1000 r4 a1 a2 x1 x3 (0 : Int32) = r5
      have hM : CS r5.2.2.2.2.2.2.2 := CS.of (by rw [← er5]; exact qL_X4_readThing_28 _ _ _ _ _ _ _) hM
      intro c6
      refine aw_aload_n hC 0 dX4_readThing_115 rfl rfl ?_
      refine aw_getI hC hSt 3 (cs_lt 13 4 0 (by decide) hM) (cs_k 13 4 0 (by decide) hM) rfl (by decide) w_347 rfl dX4_readThing_116 ?_
      refine aw_iconst (v := 3) hC dX4_readThing_119 (by decide) ?_
      refine aw_icmp_eq hC 129 dX4_readThing_120 (by decide) (fun c7 => ?_) (fun c7 => ?_)
      · refine aw_iload_n hC 2 dX4_readThing_129 rfl rfl ?_
        refine aw_iconst (v := 5) hC dX4_readThing_130 (by decide) ?_
        refine aw_cut (S' := (if r5.2.2.2.1 = (5 : Int32) then (bd (f_X10_put r5.2.2.2.2.2.2.2 15 (5 : Int32) r5.2.2.2.2.1 (0 : Int32) ((r5.2.2.1 - (5 : Int32)) + (2 : Int32))) fun r9 => r9) else r5.2.2.2.2.2.2.2)) (pc' := 149) (lv' := [(0, .ref 13), (1, .int r5.2.2.1), (2, .int r5.2.2.2.1), (3, .int r5.2.2.2.2.1), (4, .int r5.2.2.2.2.2.1), (5, .int r5.2.2.2.2.2.2.1)]) (st' := []) ?_ (fun Jc8 => ?_)
        · generalize eS10 : (if r5.2.2.2.1 = (5 : Int32) then (bd (f_X10_put r5.2.2.2.2.2.2.2 15 (5 : Int32) r5.2.2.2.2.1 (0 : Int32) ((r5.2.2.1 - (5 : Int32)) + (2 : Int32))) fun r9 => r9) else r5.2.2.2.2.2.2.2) = S10
          have hM : CS S10 := CS.of (by rw [← eS10]; repeat' (first | with_reducible rfl | with_reducible refine (qL_X4_readThing_28 _ _ _ _ _ _ _).trans ?_ | with_reducible refine (q_X10_add _ _ _).trans ?_ | with_reducible refine (q_X10_put _ _ _ _ _ _).trans ?_ | with_reducible refine (q_X4_fail _ _ _).trans ?_ | with_reducible refine (q_X4_next _ _).trans ?_ | with_reducible refine (shp_sI _ _ _ _).trans ?_ | with_reducible refine (shp_sJ _ _ _ _).trans ?_ | with_reducible refine (shp_rI _ _ _).trans ?_ | with_reducible refine shi ?_ ?_ | with_reducible refine shb (fun _ _ => ?_) | (subst_vars; with_reducible rfl) | (subst_vars; with_reducible refine (qL_X4_readThing_28 _ _ _ _ _ _ _).trans ?_) | (subst_vars; with_reducible refine (q_X10_add _ _ _).trans ?_) | (subst_vars; with_reducible refine (q_X10_put _ _ _ _ _ _).trans ?_) | (subst_vars; with_reducible refine (q_X4_fail _ _ _).trans ?_) | (subst_vars; with_reducible refine (q_X4_next _ _).trans ?_) | (subst_vars; with_reducible refine (shp_sI _ _ _ _).trans ?_) | (subst_vars; with_reducible refine (shp_sJ _ _ _ _).trans ?_) | (subst_vars; with_reducible refine (shp_rI _ _ _).trans ?_) | (subst_vars; with_reducible refine shi ?_ ?_) | (subst_vars; with_reducible refine shb (fun _ _ => ?_)))) hM
          refine aw_aload_n hC 0 dX4_readThing_149 rfl rfl ?_
          refine aw_getP (b := 15) hC hSt 1 (cs_lt 13 4 0 (by decide) hM) (cs_k 13 4 0 (by decide) hM) rfl (by decide) w_325 rfl (cs_p 13 1 15 (by decide) hM) dX4_readThing_150 ?_
          refine aw_iload_n hC 2 dX4_readThing_153 rfl rfl ?_
          refine aw_cV1v hC hSt (t_X10_add G l hM _ _ (by decide) (h4 x1 ex1 x3 ex3 r4 er4 r5 er5 c6 c7 S10 eS10)) w_424 w_442 w_443 w_444 w_18 rfl rfl (by decide +kernel) ⟨Nat.le_of_ble_eq_true rfl, Nat.le_of_ble_eq_true rfl⟩ (cs_lt 15 10 0 (by decide) hM) (cs_k 15 10 0 (by decide) hM) rfl (Nat.le_of_ble_eq_true rfl) dX4_readThing_154 ⟨Nat.zero_le _, Nat.zero_le _⟩ ?_
          generalize er11 : f_X10_add S10 15 r5.2.2.2.1 = r11
          have hM : CS r11 := CS.of (by rw [← er11]; exact q_X10_add _ _ _) hM
          refine aw_aload_n hC 0 dX4_readThing_157 rfl rfl ?_
          refine aw_cV0v hC hSt (t_X4_next G l hM  (h5 x1 ex1 x3 ex3 r4 er4 r5 er5 c6 c7 S10 eS10 r11 er11)) w_352 w_429 w_430 w_431 w_351 rfl rfl (by decide +kernel) ⟨Nat.le_of_ble_eq_true rfl, Nat.le_of_ble_eq_true rfl⟩ (cs_lt 13 4 0 (by decide) hM) (cs_k 13 4 0 (by decide) hM) rfl (Nat.le_of_ble_eq_true rfl) dX4_readThing_158 ⟨Nat.zero_le _, Nat.zero_le _⟩ ?_
          generalize er12 : f_X4_next r11 13 = r12
          have hM : CS r12 := CS.of (by rw [← er12]; exact q_X4_next _ _) hM
          refine aw_iconst (v := 1) hC dX4_readThing_161 (by decide) ?_
          refine aw_zret hC dX4_readThing_162 (Nat.le_refl _) (Nat.le_refl _) (by decide) ?_
          exact FP.qI ((bd_eq ex1).trans ((bd_eq ex3).trans ((bd_eq er4).trans ((bd_eq er5).trans ((if_neg c6).trans ((if_pos c7).trans ((bd_eq eS10).trans ((bd_eq er11).trans ((bd_eq er12).trans (rfl))))))))))
        · refine aw_icmp_ne hC 149 dX4_readThing_131 (by decide) (fun c8 => ?_) (fun c8 => ?_)
          · simp only [bd_def, if_neg c8] at Jc8 ⊢
            exact Jc8
          · refine aw_aload_n hC 0 dX4_readThing_134 rfl rfl ?_
            refine aw_getP (b := 15) hC hSt 1 (cs_lt 13 4 0 (by decide) hM) (cs_k 13 4 0 (by decide) hM) rfl (by decide) w_325 rfl (cs_p 13 1 15 (by decide) hM) dX4_readThing_135 ?_
            refine aw_iconst (v := 5) hC dX4_readThing_138 (by decide) ?_
            refine aw_iload_n hC 3 dX4_readThing_139 rfl rfl ?_
            refine aw_iconst (v := 0) hC dX4_readThing_140 (by decide) ?_
            refine aw_iload_n hC 1 dX4_readThing_141 rfl rfl ?_
            refine aw_iconst (v := 5) hC dX4_readThing_142 (by decide) ?_
            refine aw_isub hC dX4_readThing_143 ?_
            refine aw_iconst (v := 2) hC dX4_readThing_144 (by decide) ?_
            refine aw_iadd hC dX4_readThing_145 ?_
            refine aw_cV4v hC hSt (t_X10_put G l hM _ _ _ _ _ (by decide) (h3 x1 ex1 x3 ex3 r4 er4 r5 er5 c6 c7 c8)) w_335 w_441 w_339 w_340 w_18 rfl rfl (by decide +kernel) ⟨Nat.le_of_ble_eq_true rfl, Nat.le_of_ble_eq_true rfl⟩ (cs_lt 15 10 0 (by decide) hM) (cs_k 15 10 0 (by decide) hM) rfl (Nat.le_of_ble_eq_true rfl) dX4_readThing_146 ⟨Nat.zero_le _, Nat.zero_le _⟩ ?_
            generalize er9 : f_X10_put r5.2.2.2.2.2.2.2 15 (5 : Int32) r5.2.2.2.2.1 (0 : Int32) ((r5.2.2.1 - (5 : Int32)) + (2 : Int32)) = r9
            have hM : CS r9 := CS.of (by rw [← er9]; exact q_X10_put _ _ _ _ _ _) hM
            subst er9
            simp only [bd_def, if_pos c8] at Jc8 ⊢
            exact Jc8
      · refine aw_aload_n hC 0 dX4_readThing_123 rfl rfl ?_
        refine aw_iconst (v := 1) hC dX4_readThing_124 (by decide) ?_
        refine aw_cV1r hC hSt (t_X4_fail G l hM _) w_417 w_432 w_433 w_434 w_351 rfl rfl (by decide +kernel) ⟨Nat.le_of_ble_eq_true rfl, Nat.le_of_ble_eq_true rfl⟩ (cs_lt 13 4 0 (by decide) hM) (cs_k 13 4 0 (by decide) hM) rfl (Nat.le_of_ble_eq_true rfl) dX4_readThing_125 ⟨Nat.zero_le _, Nat.zero_le _⟩ ?_
        generalize er13 : f_X4_fail r5.2.2.2.2.2.2.2 13 (1 : Int32) = r13
        have hM : CS r13.2 := CS.of (by rw [← er13]; exact q_X4_fail _ _ _) hM
        refine aw_zret hC dX4_readThing_128 (Nat.le_refl _) (Nat.le_refl _) (Bz.n (h6 x1 ex1 x3 ex3 r4 er4 r5 er5 c6 c7 r13 er13)) ?_
        exact FP.qI ((bd_eq ex1).trans ((bd_eq ex3).trans ((bd_eq er4).trans ((bd_eq er5).trans ((if_neg c6).trans ((if_neg c7).trans ((bd_eq er13).trans (rfl))))))))
  · refine aw_icmp_ne hC 18 dX4_readThing_11 (by decide) (fun c2 => ?_) (fun c2 => ?_)
    · refine aw_iconst (v := 0) hC dX4_readThing_18 (by decide) ?_
      simp only [bd_def, if_neg c2] at Jc2 ⊢
      exact Jc2
    · refine aw_iconst (v := 1) hC dX4_readThing_14 (by decide) ?_
      refine aw_goto hC 19 dX4_readThing_15 (by decide) ?_
      simp only [bd_def, if_pos c2] at Jc2 ⊢
      exact Jc2
theorem q_X4_readThing (S : HSt) (_o0 : Nat) (a1 : Int32) (a2 : Int32) : shp ((f_X4_readThing S _o0 a1 a2).2) = shp S := by
  unfold f_X4_readThing
  repeat' (first | with_reducible refine shpr1 ?_ | with_reducible rfl | with_reducible refine (q_X10_add _ _ _).trans ?_ | with_reducible refine (q_X10_put _ _ _ _ _ _).trans ?_ | with_reducible refine (q_X4_fail _ _ _).trans ?_ | with_reducible refine (q_X4_next _ _).trans ?_ | with_reducible refine (qL_X4_readThing_28 _ _ _ _ _ _ _).trans ?_ | with_reducible refine (shp_sI _ _ _ _).trans ?_ | with_reducible refine (shp_sJ _ _ _ _).trans ?_ | with_reducible refine (shp_rI _ _ _).trans ?_ | with_reducible refine shi ?_ ?_ | with_reducible refine shb (fun _ _ => ?_) | with_reducible refine shiP (fun q : Int32 × HSt => q.2) ?_ ?_ | with_reducible refine shbP (fun q : Int32 × HSt => q.2) (fun _ _ => ?_) | (subst_vars; with_reducible rfl) | (subst_vars; with_reducible refine (q_X10_add _ _ _).trans ?_) | (subst_vars; with_reducible refine (q_X10_put _ _ _ _ _ _).trans ?_) | (subst_vars; with_reducible refine (q_X4_fail _ _ _).trans ?_) | (subst_vars; with_reducible refine (q_X4_next _ _).trans ?_) | (subst_vars; with_reducible refine (qL_X4_readThing_28 _ _ _ _ _ _ _).trans ?_) | (subst_vars; with_reducible refine (shp_sI _ _ _ _).trans ?_) | (subst_vars; with_reducible refine (shp_sJ _ _ _ _).trans ?_) | (subst_vars; with_reducible refine (shp_rI _ _ _).trans ?_) | (subst_vars; with_reducible refine shi ?_ ?_) | (subst_vars; with_reducible refine shb (fun _ _ => ?_)))
theorem v_X4_readThing (S : HSt) (_o0 : Nat) (a1 : Int32) (a2 : Int32) : Fr [(13, 3), (13, 4), (13, 5), (13, 6), (13, 7), (13, 8), (16, 1000), (17, 1000)] S ((f_X4_readThing S _o0 a1 a2).2) := by
  unfold f_X4_readThing
  repeat' (first | with_reducible refine frpr1 ?_ | with_reducible exact Fr.refl _ _ | with_reducible refine Fr.lP (fun q : Int32 × HSt => q.2) (fun _ _ => ?_) | with_reducible refine Fr.iteP (fun q : Int32 × HSt => q.2) ?_ ?_ | with_reducible refine Fr.l1 (fun _ _ => ?_) | with_reducible refine Fr.ite ?_ ?_ | with_reducible refine Fr.sE (by assumption) (by first | decide | simp only [List.mem_cons, List.not_mem_nil, or_false, true_or, or_true, eq_self_iff_true]) ?_ | with_reducible refine Fr.jE (by assumption) ?_ | with_reducible refine Fr.rE (by assumption) (by first | decide | simp only [List.mem_cons, List.not_mem_nil, or_false, true_or, or_true, eq_self_iff_true]) ?_ | with_reducible refine Fr.iE (by assumption) ?_ ?_ | with_reducible refine Fr.tr (w_X10_add _ _ _ _ (by assumption)) (by first | decide | simp only [List.mem_cons, List.not_mem_nil, or_false, forall_eq_or_imp, forall_eq, true_or, or_true, and_self, eq_self_iff_true]) ?_ | with_reducible refine Fr.tr (w_X10_put _ _ _ _ _ _ _ (by assumption)) (by first | decide | simp only [List.mem_cons, List.not_mem_nil, or_false, forall_eq_or_imp, forall_eq, true_or, or_true, and_self, eq_self_iff_true]) ?_ | with_reducible refine Fr.tr (w_X4_fail _ _ _ _ (by assumption)) (by first | decide | simp only [List.mem_cons, List.not_mem_nil, or_false, forall_eq_or_imp, forall_eq, true_or, or_true, and_self, eq_self_iff_true]) ?_ | with_reducible refine Fr.tr (w_X4_next _ _ _ (by assumption)) (by first | decide | simp only [List.mem_cons, List.not_mem_nil, or_false, forall_eq_or_imp, forall_eq, true_or, or_true, and_self, eq_self_iff_true]) ?_ | with_reducible refine Fr.tr (wL_X4_readThing_28 _ _ _ _ _ _ _ _ (by assumption)) (by first | decide | simp only [List.mem_cons, List.not_mem_nil, or_false, forall_eq_or_imp, forall_eq, true_or, or_true, and_self, eq_self_iff_true]) ?_)
theorem w_X4_readThing (S : HSt) (_o0 : Nat) (a1 : Int32) (a2 : Int32) (r : Int32 × HSt) (e : f_X4_readThing S _o0 a1 a2 = r) : Fr [(13, 3), (13, 4), (13, 5), (13, 6), (13, 7), (13, 8), (16, 1000), (17, 1000)] S r.2 := by
  rw [← e]
  exact v_X4_readThing S _o0 a1 a2
noncomputable def F_X4_wordOf (S : HSt) (a1 : Int32) : Nat × HSt := if a1 = (0 : Int32) then (pr ((2000 + 0)) (S)) else (if a1 = (1 : Int32) then (pr ((2000 + 1)) (S)) else (if a1 = (2 : Int32) then (pr ((2000 + 2)) (S)) else (if a1 = (3 : Int32) then (pr ((2000 + 3)) (S)) else (if a1 = (4 : Int32) then (pr ((2000 + 4)) (S)) else (if a1 = (5 : Int32) then (pr ((2000 + 5)) (S)) else (if a1 = (6 : Int32) then (pr ((2000 + 6)) (S)) else (if a1 = (7 : Int32) then (pr ((2000 + 7)) (S)) else (if a1 = (8 : Int32) then (pr ((2000 + 8)) (S)) else (pr ((2000 + 9)) (S))))))))))
noncomputable def f_X4_wordOf (S : HSt) (a1 : Int32) : Nat := (F_X4_wordOf S a1).1
set_option maxRecDepth 100000 in
theorem t_X4_wordOf (G : GG) (l : Launch) {S : HSt} (a1 : Int32)   : AM G l yX4_wordOf cX4_wordOf 1 (some (.object "java/lang/String")) (rmD 0 0 0) 0 0 [.int a1] S (FP (some (.ref (f_X4_wordOf S a1))) (S)) := by
  refine AM.mk (by decide) (Nat.le_of_ble_eq_true rfl) ?_
  intro p e s m below meth c hC hSt _
  refine aw_iload_n hC 0 dX4_wordOf_0 rfl rfl ?_
  refine aw_switchE hC dX4_wordOf_1 79 (by decide) [52, 55, 58, 61, 64, 67, 70, 73, 76] rfl (by decide) (by decide) (fun hdc1 => ?_) (fun kc1 hkc1 hxc1 => ?_)
  · have c1_0 : ¬ a1 = (0 : Int32) := hdc1 0 (by decide)
    have c1_1 : ¬ a1 = (1 : Int32) := hdc1 1 (by decide)
    have c1_2 : ¬ a1 = (2 : Int32) := hdc1 2 (by decide)
    have c1_3 : ¬ a1 = (3 : Int32) := hdc1 3 (by decide)
    have c1_4 : ¬ a1 = (4 : Int32) := hdc1 4 (by decide)
    have c1_5 : ¬ a1 = (5 : Int32) := hdc1 5 (by decide)
    have c1_6 : ¬ a1 = (6 : Int32) := hdc1 6 (by decide)
    have c1_7 : ¬ a1 = (7 : Int32) := hdc1 7 (by decide)
    have c1_8 : ¬ a1 = (8 : Int32) := hdc1 8 (by decide)
    refine aw_ldcS hC hSt 9 (by decide) dX4_wordOf_79 ?_
    refine aw_aret hC (Or.inl ⟨_, rfl⟩) dX4_wordOf_81 (Nat.le_refl _) (Nat.le_refl _) ?_
    exact FP.pP ((if_neg c1_0).trans ((if_neg c1_1).trans ((if_neg c1_2).trans ((if_neg c1_3).trans ((if_neg c1_4).trans ((if_neg c1_5).trans ((if_neg c1_6).trans ((if_neg c1_7).trans ((if_neg c1_8).trans (rfl))))))))))
  · match kc1, hkc1, hxc1 with
    | 0, _, hxc1 =>
      have c1_0 : a1 = (0 : Int32) := hxc1
      refine aw_at (pc' := 52) rfl ?_
      refine aw_ldcS hC hSt 0 (by decide) dX4_wordOf_52 ?_
      refine aw_aret hC (Or.inl ⟨_, rfl⟩) dX4_wordOf_54 (Nat.le_refl _) (Nat.le_refl _) ?_
      exact FP.pP ((if_pos c1_0).trans (rfl))
    | 1, _, hxc1 =>
      have c1_1 : a1 = (1 : Int32) := hxc1
      have c1_0 : ¬ a1 = (0 : Int32) := by rw [c1_1]; decide
      refine aw_at (pc' := 55) rfl ?_
      refine aw_ldcS hC hSt 1 (by decide) dX4_wordOf_55 ?_
      refine aw_aret hC (Or.inl ⟨_, rfl⟩) dX4_wordOf_57 (Nat.le_refl _) (Nat.le_refl _) ?_
      exact FP.pP ((if_neg c1_0).trans ((if_pos c1_1).trans (rfl)))
    | 2, _, hxc1 =>
      have c1_2 : a1 = (2 : Int32) := hxc1
      have c1_0 : ¬ a1 = (0 : Int32) := by rw [c1_2]; decide
      have c1_1 : ¬ a1 = (1 : Int32) := by rw [c1_2]; decide
      refine aw_at (pc' := 58) rfl ?_
      refine aw_ldcS hC hSt 2 (by decide) dX4_wordOf_58 ?_
      refine aw_aret hC (Or.inl ⟨_, rfl⟩) dX4_wordOf_60 (Nat.le_refl _) (Nat.le_refl _) ?_
      exact FP.pP ((if_neg c1_0).trans ((if_neg c1_1).trans ((if_pos c1_2).trans (rfl))))
    | 3, _, hxc1 =>
      have c1_3 : a1 = (3 : Int32) := hxc1
      have c1_0 : ¬ a1 = (0 : Int32) := by rw [c1_3]; decide
      have c1_1 : ¬ a1 = (1 : Int32) := by rw [c1_3]; decide
      have c1_2 : ¬ a1 = (2 : Int32) := by rw [c1_3]; decide
      refine aw_at (pc' := 61) rfl ?_
      refine aw_ldcS hC hSt 3 (by decide) dX4_wordOf_61 ?_
      refine aw_aret hC (Or.inl ⟨_, rfl⟩) dX4_wordOf_63 (Nat.le_refl _) (Nat.le_refl _) ?_
      exact FP.pP ((if_neg c1_0).trans ((if_neg c1_1).trans ((if_neg c1_2).trans ((if_pos c1_3).trans (rfl)))))
    | 4, _, hxc1 =>
      have c1_4 : a1 = (4 : Int32) := hxc1
      have c1_0 : ¬ a1 = (0 : Int32) := by rw [c1_4]; decide
      have c1_1 : ¬ a1 = (1 : Int32) := by rw [c1_4]; decide
      have c1_2 : ¬ a1 = (2 : Int32) := by rw [c1_4]; decide
      have c1_3 : ¬ a1 = (3 : Int32) := by rw [c1_4]; decide
      refine aw_at (pc' := 64) rfl ?_
      refine aw_ldcS hC hSt 4 (by decide) dX4_wordOf_64 ?_
      refine aw_aret hC (Or.inl ⟨_, rfl⟩) dX4_wordOf_66 (Nat.le_refl _) (Nat.le_refl _) ?_
      exact FP.pP ((if_neg c1_0).trans ((if_neg c1_1).trans ((if_neg c1_2).trans ((if_neg c1_3).trans ((if_pos c1_4).trans (rfl))))))
    | 5, _, hxc1 =>
      have c1_5 : a1 = (5 : Int32) := hxc1
      have c1_0 : ¬ a1 = (0 : Int32) := by rw [c1_5]; decide
      have c1_1 : ¬ a1 = (1 : Int32) := by rw [c1_5]; decide
      have c1_2 : ¬ a1 = (2 : Int32) := by rw [c1_5]; decide
      have c1_3 : ¬ a1 = (3 : Int32) := by rw [c1_5]; decide
      have c1_4 : ¬ a1 = (4 : Int32) := by rw [c1_5]; decide
      refine aw_at (pc' := 67) rfl ?_
      refine aw_ldcS hC hSt 5 (by decide) dX4_wordOf_67 ?_
      refine aw_aret hC (Or.inl ⟨_, rfl⟩) dX4_wordOf_69 (Nat.le_refl _) (Nat.le_refl _) ?_
      exact FP.pP ((if_neg c1_0).trans ((if_neg c1_1).trans ((if_neg c1_2).trans ((if_neg c1_3).trans ((if_neg c1_4).trans ((if_pos c1_5).trans (rfl)))))))
    | 6, _, hxc1 =>
      have c1_6 : a1 = (6 : Int32) := hxc1
      have c1_0 : ¬ a1 = (0 : Int32) := by rw [c1_6]; decide
      have c1_1 : ¬ a1 = (1 : Int32) := by rw [c1_6]; decide
      have c1_2 : ¬ a1 = (2 : Int32) := by rw [c1_6]; decide
      have c1_3 : ¬ a1 = (3 : Int32) := by rw [c1_6]; decide
      have c1_4 : ¬ a1 = (4 : Int32) := by rw [c1_6]; decide
      have c1_5 : ¬ a1 = (5 : Int32) := by rw [c1_6]; decide
      refine aw_at (pc' := 70) rfl ?_
      refine aw_ldcS hC hSt 6 (by decide) dX4_wordOf_70 ?_
      refine aw_aret hC (Or.inl ⟨_, rfl⟩) dX4_wordOf_72 (Nat.le_refl _) (Nat.le_refl _) ?_
      exact FP.pP ((if_neg c1_0).trans ((if_neg c1_1).trans ((if_neg c1_2).trans ((if_neg c1_3).trans ((if_neg c1_4).trans ((if_neg c1_5).trans ((if_pos c1_6).trans (rfl))))))))
    | 7, _, hxc1 =>
      have c1_7 : a1 = (7 : Int32) := hxc1
      have c1_0 : ¬ a1 = (0 : Int32) := by rw [c1_7]; decide
      have c1_1 : ¬ a1 = (1 : Int32) := by rw [c1_7]; decide
      have c1_2 : ¬ a1 = (2 : Int32) := by rw [c1_7]; decide
      have c1_3 : ¬ a1 = (3 : Int32) := by rw [c1_7]; decide
      have c1_4 : ¬ a1 = (4 : Int32) := by rw [c1_7]; decide
      have c1_5 : ¬ a1 = (5 : Int32) := by rw [c1_7]; decide
      have c1_6 : ¬ a1 = (6 : Int32) := by rw [c1_7]; decide
      refine aw_at (pc' := 73) rfl ?_
      refine aw_ldcS hC hSt 7 (by decide) dX4_wordOf_73 ?_
      refine aw_aret hC (Or.inl ⟨_, rfl⟩) dX4_wordOf_75 (Nat.le_refl _) (Nat.le_refl _) ?_
      exact FP.pP ((if_neg c1_0).trans ((if_neg c1_1).trans ((if_neg c1_2).trans ((if_neg c1_3).trans ((if_neg c1_4).trans ((if_neg c1_5).trans ((if_neg c1_6).trans ((if_pos c1_7).trans (rfl)))))))))
    | 8, _, hxc1 =>
      have c1_8 : a1 = (8 : Int32) := hxc1
      have c1_0 : ¬ a1 = (0 : Int32) := by rw [c1_8]; decide
      have c1_1 : ¬ a1 = (1 : Int32) := by rw [c1_8]; decide
      have c1_2 : ¬ a1 = (2 : Int32) := by rw [c1_8]; decide
      have c1_3 : ¬ a1 = (3 : Int32) := by rw [c1_8]; decide
      have c1_4 : ¬ a1 = (4 : Int32) := by rw [c1_8]; decide
      have c1_5 : ¬ a1 = (5 : Int32) := by rw [c1_8]; decide
      have c1_6 : ¬ a1 = (6 : Int32) := by rw [c1_8]; decide
      have c1_7 : ¬ a1 = (7 : Int32) := by rw [c1_8]; decide
      refine aw_at (pc' := 76) rfl ?_
      refine aw_ldcS hC hSt 8 (by decide) dX4_wordOf_76 ?_
      refine aw_aret hC (Or.inl ⟨_, rfl⟩) dX4_wordOf_78 (Nat.le_refl _) (Nat.le_refl _) ?_
      exact FP.pP ((if_neg c1_0).trans ((if_neg c1_1).trans ((if_neg c1_2).trans ((if_neg c1_3).trans ((if_neg c1_4).trans ((if_neg c1_5).trans ((if_neg c1_6).trans ((if_neg c1_7).trans ((if_pos c1_8).trans (rfl))))))))))
    | kc1 + 9, hkc1, _ => exact absurd hkc1 (by simp)
theorem wo_s (S : HSt) (a : Int32) : sK (f_X4_wordOf S a) := by
  unfold f_X4_wordOf F_X4_wordOf
  (repeat' split) <;> exact ⟨_, by decide, rfl⟩
noncomputable def L_X4_isHere_20 (wd1 : Nat) : Nat → HSt → Int32 → Int32 × Int32 × Int32
  | 0, S, v2 => ((1 : Int32), 0, v2)
  | n + 1, S, v2 =>
    if (f_J0_length_8abf5 S wd1) ≤ v2 then ((pr ((0 : Int32)) (pr (0) (v2)))) else (if (gI S 14 ((gI S 13 4) + v2).toNatClampNeg) = (f_J0_charAt_5068e S wd1 v2) then (L_X4_isHere_20 wd1 n S (v2 + (1 : Int32))) else ((pr ((1 : Int32)) (pr ((0 : Int32)) (v2)))))
def T_X4_isHere_20 (wd1 : Nat) : Nat → HSt → Int32 → Prop
  | 0, _, _ => False
  | n + 1, S, v2 => ((¬ (f_J0_length_8abf5 S wd1) ≤ v2) → vp_in ((gI S 13 4) + v2) 600) ∧ ((¬ (f_J0_length_8abf5 S wd1) ≤ v2) → p_J0_charAt_5068e S wd1 v2) ∧ ((¬ (f_J0_length_8abf5 S wd1) ≤ v2) → ((gI S 14 ((gI S 13 4) + v2).toNatClampNeg) = (f_J0_charAt_5068e S wd1 v2)) → T_X4_isHere_20 wd1 n S (v2 + (1 : Int32)))
set_option maxRecDepth 100000 in
theorem l_X4_isHere_20 {p : Program} {l : Launch} {e : Env} {s : State} {m : MethodId} {args : Array Value} {below : List Frame} {meth : Method} {c : Code} {G : GG} {Post : Option Value → HSt → Prop} (hC : ACx p s m args meth c cX4_isHere RX4 3 (some .boolean)) (hSt : St G s) {wd1 : Nat} (hwd1 : sK wd1) : ∀ (n : Nat) (S : HSt) (v2 : Int32), CS S → T_X4_isHere_20 wd1 n S v2 → ((L_X4_isHere_20 wd1 n S v2).1 = 1 → Post (some (.int (L_X4_isHere_20 wd1 n S v2).2.1)) S) → ((L_X4_isHere_20 wd1 n S v2).1 ≠ 1 → AW p l e (rmD 4 0 0) s m args below meth c G 3 (AQ G below args s 0 0 Post) S 0 0 55 [(0, .ref 13), (1, .ref wd1), (2, .int (L_X4_isHere_20 wd1 n S v2).2.2)] []) → AW p l e (rmD 4 0 0) s m args below meth c G 3 (AQ G below args s 0 0 Post) S 0 0 20 [(0, .ref 13), (1, .ref wd1), (2, .int v2)] [] := by
  intro n
  induction n with
  | zero => intro S v2 _ hT; exact hT.elim
  | succ n ih =>
    intro S v2 hM hT hr hk
    unfold T_X4_isHere_20 at hT
    obtain ⟨h0, h1, h2⟩ := hT
    refine aw_iload_n hC 2 dX4_isHere_20 rfl rfl ?_
    refine aw_aload_n hC 1 dX4_isHere_21 rfl rfl ?_
    refine aw_cU0r hC hSt hwd1 rfl (t_J0_length_8abf5 G l  _ hwd1) w_363 w_403 w_404 w_405 w_368 rfl rfl (by decide +kernel) ⟨Nat.le_of_ble_eq_true rfl, Nat.le_of_ble_eq_true rfl⟩ (Nat.le_of_ble_eq_true rfl) dX4_isHere_22 ⟨Nat.zero_le _, Nat.zero_le _⟩ ?_
    refine aw_icmp_ge hC 55 dX4_isHere_25 (by decide) (fun c1002 => ?_) (fun c1002 => ?_)
    · refine aw_sub [0, 1, 2] rfl ?_
      have E : L_X4_isHere_20 wd1 (n + 1) S v2 = _ := (if_pos c1002).trans (rfl)
      rw [E] at hk hr
      exact hk (by show ¬ (0 : Int32) = 1; decide)
    · refine aw_aload_n hC 0 dX4_isHere_28 rfl rfl ?_
      refine aw_getP (b := 14) hC hSt 0 (cs_lt 13 4 0 (by decide) hM) (cs_k 13 4 0 (by decide) hM) rfl (by decide) w_322 rfl (cs_p 13 0 14 (by decide) hM) dX4_isHere_29 ?_
      refine aw_aload_n hC 0 dX4_isHere_32 rfl rfl ?_
      refine aw_getI hC hSt 4 (cs_lt 13 4 0 (by decide) hM) (cs_k 13 4 0 (by decide) hM) rfl (by decide) w_346 rfl dX4_isHere_33 ?_
      refine aw_iload_n hC 2 dX4_isHere_36 rfl rfl ?_
      refine aw_iadd hC dX4_isHere_37 ?_
      refine aw_bald hC hSt (cs_lt 14 13 600 (by decide) hM) (cs_k 14 13 600 (by decide) hM) (vp_len (n := 600) (cs_l 14 13 600 (by decide) hM) (h0 c1002)) dX4_isHere_38 ?_
      refine aw_aload_n hC 1 dX4_isHere_39 rfl rfl ?_
      refine aw_iload_n hC 2 dX4_isHere_40 rfl rfl ?_
      refine aw_cU1r hC hSt hwd1 rfl (t_J0_charAt_5068e G l  _ _ hwd1 (h1 c1002)) w_402 w_406 w_407 w_408 w_368 rfl rfl (by decide +kernel) ⟨Nat.le_of_ble_eq_true rfl, Nat.le_of_ble_eq_true rfl⟩ (Nat.le_of_ble_eq_true rfl) dX4_isHere_41 ⟨Nat.zero_le _, Nat.zero_le _⟩ ?_
      refine aw_icmp_eq hC 49 dX4_isHere_44 (by decide) (fun c1003 => ?_) (fun c1003 => ?_)
      · refine aw_iinc (v := (v2 + (1 : Int32))) hC 2 [(2, .int _), (0, .ref 13), (1, .ref wd1)] dX4_isHere_49 rfl rfl (by decide) rfl ?_
        refine aw_goto hC 20 dX4_isHere_52 (by decide) ?_
        refine aw_sub [1, 2, 0] rfl ?_
        have hTn := (h2 c1002 c1003)
        have hMn : CS S := hM
        have E : L_X4_isHere_20 wd1 (n + 1) S v2 = _ := (if_neg c1002).trans ((if_pos c1003).trans (rfl))
        rw [E] at hk hr
        exact ih _ _ hMn hTn hr hk
      · refine aw_iconst (v := 0) hC dX4_isHere_47 (by decide) ?_
        refine aw_zret hC dX4_isHere_48 (Nat.le_refl _) (Nat.le_refl _) (by decide) ?_
        have E : L_X4_isHere_20 wd1 (n + 1) S v2 = _ := (if_neg c1002).trans ((if_neg c1003).trans (rfl))
        rw [E] at hr
        exact hr rfl
noncomputable def F_X4_isHere (S : HSt) (_o0 : Nat) (wd1 : Nat) : Int32 × HSt := if ((gI S 13 5) - (gI S 13 4)) = (f_J0_length_8abf5 S wd1) then (bd (L_X4_isHere_20 wd1 1000 S (0 : Int32)) fun r2 => if r2.1 = 1 then (pr (r2.2.1) (S)) else (pr ((1 : Int32)) (S))) else (pr ((0 : Int32)) (S))
noncomputable def f_X4_isHere (S : HSt) (_o0 : Nat) (wd1 : Nat) : Int32 := (F_X4_isHere S _o0 wd1).1
def p_X4_isHere (S : HSt) (_o0 : Nat) (wd1 : Nat) : Prop := ((((gI S 13 5) - (gI S 13 4)) = (f_J0_length_8abf5 S wd1)) → T_X4_isHere_20 wd1 1000 S (0 : Int32))
set_option maxRecDepth 100000 in
theorem t_X4_isHere (G : GG) (l : Launch) {S : HSt} (hM : CS S) (wd1 : Nat) (hwd1 : sK wd1) (hp : p_X4_isHere S 13 wd1) : AM G l yX4_isHere cX4_isHere 3 (some .boolean) (rmD 4 0 0) 0 0 [.ref 13, .ref wd1] S (FP (some (.int (f_X4_isHere S 13 wd1))) (S)) := by
  have h0 := hp
  unfold p_X4_isHere at h0
  refine AM.mk (by decide) (Nat.le_of_ble_eq_true rfl) ?_
  intro p e s m below meth c hC hSt _
  refine aw_aload_n hC 0 dX4_isHere_0 rfl rfl ?_
  refine aw_getI hC hSt 5 (cs_lt 13 4 0 (by decide) hM) (cs_k 13 4 0 (by decide) hM) rfl (by decide) w_345 rfl dX4_isHere_1 ?_
  refine aw_aload_n hC 0 dX4_isHere_4 rfl rfl ?_
  refine aw_getI hC hSt 4 (cs_lt 13 4 0 (by decide) hM) (cs_k 13 4 0 (by decide) hM) rfl (by decide) w_346 rfl dX4_isHere_5 ?_
  refine aw_isub hC dX4_isHere_8 ?_
  refine aw_aload_n hC 1 dX4_isHere_9 rfl rfl ?_
  refine aw_cU0r hC hSt hwd1 rfl (t_J0_length_8abf5 G l  _ hwd1) w_363 w_403 w_404 w_405 w_368 rfl rfl (by decide +kernel) ⟨Nat.le_of_ble_eq_true rfl, Nat.le_of_ble_eq_true rfl⟩ (Nat.le_of_ble_eq_true rfl) dX4_isHere_10 ⟨Nat.zero_le _, Nat.zero_le _⟩ ?_
  refine aw_icmp_eq hC 18 dX4_isHere_13 (by decide) (fun c1 => ?_) (fun c1 => ?_)
  · refine aw_iconst (v := 0) hC dX4_isHere_18 (by decide) ?_
    refine aw_istore_n hC [(2, .int _), (0, .ref 13), (1, .ref wd1)] dX4_isHere_19 rfl (by decide) rfl ?_
    refine aw_sub [1, 2, 0] rfl ?_
    refine l_X4_isHere_20 hC hSt hwd1 1000 _ _ hM (h0 c1) (fun c3 => ?_) (fun c3 => ?_)
    · revert c3
      generalize er2 : L_X4_isHere_20 wd1 1000 S (0 : Int32) = r2
      intro c3
      exact FP.pI ((if_pos c1).trans ((bd_eq er2).trans ((if_pos c3).trans (rfl))))
    · revert c3
      generalize er2 : L_X4_isHere_20 wd1 1000 S (0 : Int32) = r2
      intro c3
      refine aw_iconst (v := 1) hC dX4_isHere_55 (by decide) ?_
      refine aw_zret hC dX4_isHere_56 (Nat.le_refl _) (Nat.le_refl _) (by decide) ?_
      exact FP.pI ((if_pos c1).trans ((bd_eq er2).trans ((if_neg c3).trans (rfl))))
  · refine aw_iconst (v := 0) hC dX4_isHere_16 (by decide) ?_
    refine aw_zret hC dX4_isHere_17 (Nat.le_refl _) (Nat.le_refl _) (by decide) ?_
    exact FP.pI ((if_neg c1).trans (rfl))
noncomputable def L_X4_wordHere_2 : Nat → HSt → Int32 → Int32 × Int32 × Int32
  | 0, S, v1 => ((1 : Int32), 0, v1)
  | n + 1, S, v1 =>
    if (10 : Int32) ≤ v1 then ((pr ((0 : Int32)) (pr (0) (v1)))) else (if (f_X4_isHere S 13 (f_X4_wordOf S v1)) = 0 then (L_X4_wordHere_2 n S (v1 + (1 : Int32))) else ((pr ((1 : Int32)) (pr (v1) (v1)))))
def T_X4_wordHere_2 : Nat → HSt → Int32 → Prop
  | 0, _, _ => False
  | n + 1, S, v1 => ((¬ (10 : Int32) ≤ v1) → p_X4_isHere S 13 (f_X4_wordOf S v1)) ∧ ((¬ (10 : Int32) ≤ v1) → ((f_X4_isHere S 13 (f_X4_wordOf S v1)) = 0) → T_X4_wordHere_2 n S (v1 + (1 : Int32)))
set_option maxRecDepth 100000 in
theorem l_X4_wordHere_2 {p : Program} {l : Launch} {e : Env} {s : State} {m : MethodId} {args : Array Value} {below : List Frame} {meth : Method} {c : Code} {G : GG} {Post : Option Value → HSt → Prop} (hC : ACx p s m args meth c cX4_wordHere RX4 2 (some .int)) (hSt : St G s)   : ∀ (n : Nat) (S : HSt) (v1 : Int32), CS S → T_X4_wordHere_2 n S v1 → ((L_X4_wordHere_2 n S v1).1 = 1 → Post (some (.int (L_X4_wordHere_2 n S v1).2.1)) S) → ((L_X4_wordHere_2 n S v1).1 ≠ 1 → AW p l e (rmD 5 0 0) s m args below meth c G 2 (AQ G below args s 0 0 Post) S 0 0 27 [(0, .ref 13), (1, .int (L_X4_wordHere_2 n S v1).2.2)] []) → AW p l e (rmD 5 0 0) s m args below meth c G 2 (AQ G below args s 0 0 Post) S 0 0 2 [(0, .ref 13), (1, .int v1)] [] := by
  intro n
  induction n with
  | zero => intro S v1 _ hT; exact hT.elim
  | succ n ih =>
    intro S v1 hM hT hr hk
    unfold T_X4_wordHere_2 at hT
    obtain ⟨h0, h1⟩ := hT
    refine aw_iload_n hC 1 dX4_wordHere_2 rfl rfl ?_
    refine aw_bipush (v := 10) hC dX4_wordHere_3 (by decide) ?_
    refine aw_icmp_ge hC 27 dX4_wordHere_5 (by decide) (fun c1001 => ?_) (fun c1001 => ?_)
    · refine aw_sub [0, 1] rfl ?_
      have E : L_X4_wordHere_2 (n + 1) S v1 = _ := (if_pos c1001).trans (rfl)
      rw [E] at hk hr
      exact hk (by show ¬ (0 : Int32) = 1; decide)
    · refine aw_aload_n hC 0 dX4_wordHere_8 rfl rfl ?_
      refine aw_iload_n hC 1 dX4_wordHere_9 rfl rfl ?_
      refine aw_cS1r hC hSt (t_X4_wordOf G l  _) w_359 w_410 w_411 w_351 rfl rfl (by decide +kernel) ⟨Nat.le_of_ble_eq_true rfl, Nat.le_of_ble_eq_true rfl⟩ (Nat.le_of_ble_eq_true rfl) dX4_wordHere_10 ⟨Nat.zero_le _, Nat.zero_le _⟩ ?_
      refine aw_cV1r hC hSt (t_X4_isHere G l hM _ (wo_s _ _) (h0 c1001)) w_409 w_412 w_413 w_414 w_351 rfl rfl (by decide +kernel) ⟨Nat.le_of_ble_eq_true rfl, Nat.le_of_ble_eq_true rfl⟩ (cs_lt 13 4 0 (by decide) hM) (cs_k 13 4 0 (by decide) hM) rfl (Nat.le_of_ble_eq_true rfl) dX4_wordHere_13 ⟨Nat.zero_le _, Nat.zero_le _⟩ ?_
      refine aw_if_eq hC 21 dX4_wordHere_16 (by decide) (fun c1002 => ?_) (fun c1002 => ?_)
      · refine aw_iinc (v := (v1 + (1 : Int32))) hC 1 [(1, .int _), (0, .ref 13)] dX4_wordHere_21 rfl rfl (by decide) rfl ?_
        refine aw_goto hC 2 dX4_wordHere_24 (by decide) ?_
        refine aw_sub [1, 0] rfl ?_
        have hTn := (h1 c1001 c1002)
        have hMn : CS S := hM
        have E : L_X4_wordHere_2 (n + 1) S v1 = _ := (if_neg c1001).trans ((if_pos c1002).trans (rfl))
        rw [E] at hk hr
        exact ih _ _ hMn hTn hr hk
      · refine aw_iload_n hC 1 dX4_wordHere_19 rfl rfl ?_
        refine aw_iret hC dX4_wordHere_20 (Nat.le_refl _) (Nat.le_refl _) ?_
        have E : L_X4_wordHere_2 (n + 1) S v1 = _ := (if_neg c1001).trans ((if_neg c1002).trans (rfl))
        rw [E] at hr
        exact hr rfl
noncomputable def F_X4_wordHere (S : HSt) (_o0 : Nat) : Int32 × HSt := bd (L_X4_wordHere_2 1000 S (0 : Int32)) fun r1 => if r1.1 = 1 then (pr (r1.2.1) (S)) else (pr ((10 : Int32)) (S))
noncomputable def f_X4_wordHere (S : HSt) (_o0 : Nat) : Int32 := (F_X4_wordHere S _o0).1
def p_X4_wordHere (S : HSt) (_o0 : Nat) : Prop := (T_X4_wordHere_2 1000 S (0 : Int32))
set_option maxRecDepth 100000 in
theorem t_X4_wordHere (G : GG) (l : Launch) {S : HSt} (hM : CS S)   (hp : p_X4_wordHere S 13) : AM G l yX4_wordHere cX4_wordHere 2 (some .int) (rmD 5 0 0) 0 0 [.ref 13] S (FP (some (.int (f_X4_wordHere S 13))) (S)) := by
  have h0 := hp
  unfold p_X4_wordHere at h0
  refine AM.mk (by decide) (Nat.le_of_ble_eq_true rfl) ?_
  intro p e s m below meth c hC hSt _
  refine aw_iconst (v := 0) hC dX4_wordHere_0 (by decide) ?_
  refine aw_istore_n hC [(1, .int _), (0, .ref 13)] dX4_wordHere_1 rfl (by decide) rfl ?_
  refine aw_sub [1, 0] rfl ?_
  refine l_X4_wordHere_2 hC hSt 1000 _ _ hM (h0) (fun c2 => ?_) (fun c2 => ?_)
  · revert c2
    generalize er1 : L_X4_wordHere_2 1000 S (0 : Int32) = r1
    intro c2
    exact FP.pI ((bd_eq er1).trans ((if_pos c2).trans (rfl)))
  · revert c2
    generalize er1 : L_X4_wordHere_2 1000 S (0 : Int32) = r1
    intro c2
    refine aw_bipush (v := 10) hC dX4_wordHere_27 (by decide) ?_
    refine aw_iret hC dX4_wordHere_29 (Nat.le_refl _) (Nat.le_refl _) ?_
    exact FP.pI ((bd_eq er1).trans ((if_neg c2).trans (rfl)))
noncomputable def L_X4_readText_4 : Nat → HSt → Int32 → Int32 → Int32 × Int32 × Int32 × Int32 × HSt
  | 0, S, v1, v2 => ((1 : Int32), 0, v1, v2, S)
  | n + 1, S, v1, v2 =>
    if (600 : Int32) < v2 then ((pr ((0 : Int32)) (pr (0) (pr (v1) (pr (v2) (S)))))) else (bd ((if (f_X10_howMany S 15 (0 : Int32)) ≤ 0 then (0 : Int32) else (1 : Int32))) fun x1003 => if (gI S 13 3) = 0 then (if x1003 = 0 then (bd ((if (gI S 13 3) = (1 : Int32) then (f_X4_wordHere S 13) else (10 : Int32))) fun x1032 => bd ((if (5 : Int32) < x1032 then (5 : Int32) else x1032)) fun x1033 => bd ((if x1033 = (4 : Int32) then (if (f_X10_isFull S 15 (4 : Int32)) = 0 then (0 : Int32) else (1 : Int32)) else (0 : Int32))) fun x1036 => if (10 : Int32) ≤ x1032 then (bd (f_X4_fail S 13 (1 : Int32)) fun r1038 => (pr ((1 : Int32)) (pr (r1038.1) (pr (v1) (pr (v2) (r1038.2)))))) else (if x1033 < v1 then (bd (f_X4_fail S 13 (1 : Int32)) fun r1040 => (pr ((1 : Int32)) (pr (r1040.1) (pr (v1) (pr (v2) (r1040.2)))))) else (if x1033 ≤ 0 then (if x1036 = 0 then (if (f_X10_isFull S 15 x1033) = 0 then (bd (f_X4_readThing S 13 x1032 x1033) fun r1044 => if r1044.1 = 0 then ((pr ((1 : Int32)) (pr ((0 : Int32)) (pr (x1033) (pr (v2) (r1044.2)))))) else (L_X4_readText_4 n r1044.2 x1033 (v2 + (1 : Int32)))) else (bd (f_X4_fail S 13 (3 : Int32)) fun r1046 => (pr ((1 : Int32)) (pr (r1046.1) (pr (v1) (pr (v2) (r1046.2))))))) else (bd (f_X4_fail S 13 (1 : Int32)) fun r1047 => (pr ((1 : Int32)) (pr (r1047.1) (pr (v1) (pr (v2) (r1047.2))))))) else (if x1003 = 0 then (bd (f_X4_fail S 13 (1 : Int32)) fun r1049 => (pr ((1 : Int32)) (pr (r1049.1) (pr (v1) (pr (v2) (r1049.2)))))) else (if x1036 = 0 then (if (f_X10_isFull S 15 x1033) = 0 then (bd (f_X4_readThing S 13 x1032 x1033) fun r1052 => if r1052.1 = 0 then ((pr ((1 : Int32)) (pr ((0 : Int32)) (pr (x1033) (pr (v2) (r1052.2)))))) else (L_X4_readText_4 n r1052.2 x1033 (v2 + (1 : Int32)))) else (bd (f_X4_fail S 13 (3 : Int32)) fun r1054 => (pr ((1 : Int32)) (pr (r1054.1) (pr (v1) (pr (v2) (r1054.2))))))) else (bd (f_X4_fail S 13 (1 : Int32)) fun r1055 => (pr ((1 : Int32)) (pr (r1055.1) (pr (v1) (pr (v2) (r1055.2))))))))))) else ((pr ((1 : Int32)) (pr ((1 : Int32)) (pr (v1) (pr (v2) (S))))))) else (bd ((if (gI S 13 3) = (1 : Int32) then (f_X4_wordHere S 13) else (10 : Int32))) fun x1006 => bd ((if (5 : Int32) < x1006 then (5 : Int32) else x1006)) fun x1007 => bd ((if x1007 = (4 : Int32) then (if (f_X10_isFull S 15 (4 : Int32)) = 0 then (0 : Int32) else (1 : Int32)) else (0 : Int32))) fun x1010 => if (10 : Int32) ≤ x1006 then (bd (f_X4_fail S 13 (1 : Int32)) fun r1012 => (pr ((1 : Int32)) (pr (r1012.1) (pr (v1) (pr (v2) (r1012.2)))))) else (if x1007 < v1 then (bd (f_X4_fail S 13 (1 : Int32)) fun r1014 => (pr ((1 : Int32)) (pr (r1014.1) (pr (v1) (pr (v2) (r1014.2)))))) else (if x1007 ≤ 0 then (if x1010 = 0 then (if (f_X10_isFull S 15 x1007) = 0 then (bd (f_X4_readThing S 13 x1006 x1007) fun r1018 => if r1018.1 = 0 then ((pr ((1 : Int32)) (pr ((0 : Int32)) (pr (x1007) (pr (v2) (r1018.2)))))) else (L_X4_readText_4 n r1018.2 x1007 (v2 + (1 : Int32)))) else (bd (f_X4_fail S 13 (3 : Int32)) fun r1020 => (pr ((1 : Int32)) (pr (r1020.1) (pr (v1) (pr (v2) (r1020.2))))))) else (bd (f_X4_fail S 13 (1 : Int32)) fun r1021 => (pr ((1 : Int32)) (pr (r1021.1) (pr (v1) (pr (v2) (r1021.2))))))) else (if x1003 = 0 then (bd (f_X4_fail S 13 (1 : Int32)) fun r1023 => (pr ((1 : Int32)) (pr (r1023.1) (pr (v1) (pr (v2) (r1023.2)))))) else (if x1010 = 0 then (if (f_X10_isFull S 15 x1007) = 0 then (bd (f_X4_readThing S 13 x1006 x1007) fun r1026 => if r1026.1 = 0 then ((pr ((1 : Int32)) (pr ((0 : Int32)) (pr (x1007) (pr (v2) (r1026.2)))))) else (L_X4_readText_4 n r1026.2 x1007 (v2 + (1 : Int32)))) else (bd (f_X4_fail S 13 (3 : Int32)) fun r1028 => (pr ((1 : Int32)) (pr (r1028.1) (pr (v1) (pr (v2) (r1028.2))))))) else (bd (f_X4_fail S 13 (1 : Int32)) fun r1029 => (pr ((1 : Int32)) (pr (r1029.1) (pr (v1) (pr (v2) (r1029.2))))))))))))
def T_X4_readText_4 : Nat → HSt → Int32 → Int32 → Prop
  | 0, _, _, _ => False
  | n + 1, S, v1, v2 => ((¬ (600 : Int32) < v2) → p_X10_howMany S 15 (0 : Int32)) ∧ ((¬ (600 : Int32) < v2) → ∀ x1003 : Int32, (if (f_X10_howMany S 15 (0 : Int32)) ≤ 0 then (0 : Int32) else (1 : Int32)) = x1003 → (¬ (gI S 13 3) = 0) → ((gI S 13 3) = (1 : Int32)) → p_X4_wordHere S 13) ∧ ((¬ (600 : Int32) < v2) → ∀ x1003 : Int32, (if (f_X10_howMany S 15 (0 : Int32)) ≤ 0 then (0 : Int32) else (1 : Int32)) = x1003 → (¬ (gI S 13 3) = 0) → ∀ x1006 : Int32, (if (gI S 13 3) = (1 : Int32) then (f_X4_wordHere S 13) else (10 : Int32)) = x1006 → ∀ x1007 : Int32, (if (5 : Int32) < x1006 then (5 : Int32) else x1006) = x1007 → (x1007 = (4 : Int32)) → p_X10_isFull S 15 (4 : Int32)) ∧ ((¬ (600 : Int32) < v2) → ∀ x1003 : Int32, (if (f_X10_howMany S 15 (0 : Int32)) ≤ 0 then (0 : Int32) else (1 : Int32)) = x1003 → (¬ (gI S 13 3) = 0) → ∀ x1006 : Int32, (if (gI S 13 3) = (1 : Int32) then (f_X4_wordHere S 13) else (10 : Int32)) = x1006 → ∀ x1007 : Int32, (if (5 : Int32) < x1006 then (5 : Int32) else x1006) = x1007 → ∀ x1010 : Int32, (if x1007 = (4 : Int32) then (if (f_X10_isFull S 15 (4 : Int32)) = 0 then (0 : Int32) else (1 : Int32)) else (0 : Int32)) = x1010 → ((10 : Int32) ≤ x1006) → ∀ r1012, f_X4_fail S 13 (1 : Int32) = r1012 → Bz r1012.1) ∧ ((¬ (600 : Int32) < v2) → ∀ x1003 : Int32, (if (f_X10_howMany S 15 (0 : Int32)) ≤ 0 then (0 : Int32) else (1 : Int32)) = x1003 → (¬ (gI S 13 3) = 0) → ∀ x1006 : Int32, (if (gI S 13 3) = (1 : Int32) then (f_X4_wordHere S 13) else (10 : Int32)) = x1006 → ∀ x1007 : Int32, (if (5 : Int32) < x1006 then (5 : Int32) else x1006) = x1007 → ∀ x1010 : Int32, (if x1007 = (4 : Int32) then (if (f_X10_isFull S 15 (4 : Int32)) = 0 then (0 : Int32) else (1 : Int32)) else (0 : Int32)) = x1010 → (¬ (10 : Int32) ≤ x1006) → (x1007 < v1) → ∀ r1014, f_X4_fail S 13 (1 : Int32) = r1014 → Bz r1014.1) ∧ ((¬ (600 : Int32) < v2) → ∀ x1003 : Int32, (if (f_X10_howMany S 15 (0 : Int32)) ≤ 0 then (0 : Int32) else (1 : Int32)) = x1003 → (¬ (gI S 13 3) = 0) → ∀ x1006 : Int32, (if (gI S 13 3) = (1 : Int32) then (f_X4_wordHere S 13) else (10 : Int32)) = x1006 → ∀ x1007 : Int32, (if (5 : Int32) < x1006 then (5 : Int32) else x1006) = x1007 → ∀ x1010 : Int32, (if x1007 = (4 : Int32) then (if (f_X10_isFull S 15 (4 : Int32)) = 0 then (0 : Int32) else (1 : Int32)) else (0 : Int32)) = x1010 → (¬ (10 : Int32) ≤ x1006) → (¬ x1007 < v1) → (x1007 ≤ 0) → (x1010 = 0) → p_X10_isFull S 15 x1007) ∧ ((¬ (600 : Int32) < v2) → ∀ x1003 : Int32, (if (f_X10_howMany S 15 (0 : Int32)) ≤ 0 then (0 : Int32) else (1 : Int32)) = x1003 → (¬ (gI S 13 3) = 0) → ∀ x1006 : Int32, (if (gI S 13 3) = (1 : Int32) then (f_X4_wordHere S 13) else (10 : Int32)) = x1006 → ∀ x1007 : Int32, (if (5 : Int32) < x1006 then (5 : Int32) else x1006) = x1007 → ∀ x1010 : Int32, (if x1007 = (4 : Int32) then (if (f_X10_isFull S 15 (4 : Int32)) = 0 then (0 : Int32) else (1 : Int32)) else (0 : Int32)) = x1010 → (¬ (10 : Int32) ≤ x1006) → (¬ x1007 < v1) → (x1007 ≤ 0) → (x1010 = 0) → ((f_X10_isFull S 15 x1007) = 0) → p_X4_readThing S 13 x1006 x1007) ∧ ((¬ (600 : Int32) < v2) → ∀ x1003 : Int32, (if (f_X10_howMany S 15 (0 : Int32)) ≤ 0 then (0 : Int32) else (1 : Int32)) = x1003 → (¬ (gI S 13 3) = 0) → ∀ x1006 : Int32, (if (gI S 13 3) = (1 : Int32) then (f_X4_wordHere S 13) else (10 : Int32)) = x1006 → ∀ x1007 : Int32, (if (5 : Int32) < x1006 then (5 : Int32) else x1006) = x1007 → ∀ x1010 : Int32, (if x1007 = (4 : Int32) then (if (f_X10_isFull S 15 (4 : Int32)) = 0 then (0 : Int32) else (1 : Int32)) else (0 : Int32)) = x1010 → (¬ (10 : Int32) ≤ x1006) → (¬ x1007 < v1) → (x1007 ≤ 0) → (x1010 = 0) → ((f_X10_isFull S 15 x1007) = 0) → ∀ r1018, f_X4_readThing S 13 x1006 x1007 = r1018 → (¬ r1018.1 = 0) → T_X4_readText_4 n r1018.2 x1007 (v2 + (1 : Int32))) ∧ ((¬ (600 : Int32) < v2) → ∀ x1003 : Int32, (if (f_X10_howMany S 15 (0 : Int32)) ≤ 0 then (0 : Int32) else (1 : Int32)) = x1003 → (¬ (gI S 13 3) = 0) → ∀ x1006 : Int32, (if (gI S 13 3) = (1 : Int32) then (f_X4_wordHere S 13) else (10 : Int32)) = x1006 → ∀ x1007 : Int32, (if (5 : Int32) < x1006 then (5 : Int32) else x1006) = x1007 → ∀ x1010 : Int32, (if x1007 = (4 : Int32) then (if (f_X10_isFull S 15 (4 : Int32)) = 0 then (0 : Int32) else (1 : Int32)) else (0 : Int32)) = x1010 → (¬ (10 : Int32) ≤ x1006) → (¬ x1007 < v1) → (x1007 ≤ 0) → (x1010 = 0) → (¬ (f_X10_isFull S 15 x1007) = 0) → ∀ r1020, f_X4_fail S 13 (3 : Int32) = r1020 → Bz r1020.1) ∧ ((¬ (600 : Int32) < v2) → ∀ x1003 : Int32, (if (f_X10_howMany S 15 (0 : Int32)) ≤ 0 then (0 : Int32) else (1 : Int32)) = x1003 → (¬ (gI S 13 3) = 0) → ∀ x1006 : Int32, (if (gI S 13 3) = (1 : Int32) then (f_X4_wordHere S 13) else (10 : Int32)) = x1006 → ∀ x1007 : Int32, (if (5 : Int32) < x1006 then (5 : Int32) else x1006) = x1007 → ∀ x1010 : Int32, (if x1007 = (4 : Int32) then (if (f_X10_isFull S 15 (4 : Int32)) = 0 then (0 : Int32) else (1 : Int32)) else (0 : Int32)) = x1010 → (¬ (10 : Int32) ≤ x1006) → (¬ x1007 < v1) → (x1007 ≤ 0) → (¬ x1010 = 0) → ∀ r1021, f_X4_fail S 13 (1 : Int32) = r1021 → Bz r1021.1) ∧ ((¬ (600 : Int32) < v2) → ∀ x1003 : Int32, (if (f_X10_howMany S 15 (0 : Int32)) ≤ 0 then (0 : Int32) else (1 : Int32)) = x1003 → (¬ (gI S 13 3) = 0) → ∀ x1006 : Int32, (if (gI S 13 3) = (1 : Int32) then (f_X4_wordHere S 13) else (10 : Int32)) = x1006 → ∀ x1007 : Int32, (if (5 : Int32) < x1006 then (5 : Int32) else x1006) = x1007 → ∀ x1010 : Int32, (if x1007 = (4 : Int32) then (if (f_X10_isFull S 15 (4 : Int32)) = 0 then (0 : Int32) else (1 : Int32)) else (0 : Int32)) = x1010 → (¬ (10 : Int32) ≤ x1006) → (¬ x1007 < v1) → (¬ x1007 ≤ 0) → (x1003 = 0) → ∀ r1023, f_X4_fail S 13 (1 : Int32) = r1023 → Bz r1023.1) ∧ ((¬ (600 : Int32) < v2) → ∀ x1003 : Int32, (if (f_X10_howMany S 15 (0 : Int32)) ≤ 0 then (0 : Int32) else (1 : Int32)) = x1003 → (¬ (gI S 13 3) = 0) → ∀ x1006 : Int32, (if (gI S 13 3) = (1 : Int32) then (f_X4_wordHere S 13) else (10 : Int32)) = x1006 → ∀ x1007 : Int32, (if (5 : Int32) < x1006 then (5 : Int32) else x1006) = x1007 → ∀ x1010 : Int32, (if x1007 = (4 : Int32) then (if (f_X10_isFull S 15 (4 : Int32)) = 0 then (0 : Int32) else (1 : Int32)) else (0 : Int32)) = x1010 → (¬ (10 : Int32) ≤ x1006) → (¬ x1007 < v1) → (¬ x1007 ≤ 0) → (¬ x1003 = 0) → (x1010 = 0) → p_X10_isFull S 15 x1007) ∧ ((¬ (600 : Int32) < v2) → ∀ x1003 : Int32, (if (f_X10_howMany S 15 (0 : Int32)) ≤ 0 then (0 : Int32) else (1 : Int32)) = x1003 → (¬ (gI S 13 3) = 0) → ∀ x1006 : Int32, (if (gI S 13 3) = (1 : Int32) then (f_X4_wordHere S 13) else (10 : Int32)) = x1006 → ∀ x1007 : Int32, (if (5 : Int32) < x1006 then (5 : Int32) else x1006) = x1007 → ∀ x1010 : Int32, (if x1007 = (4 : Int32) then (if (f_X10_isFull S 15 (4 : Int32)) = 0 then (0 : Int32) else (1 : Int32)) else (0 : Int32)) = x1010 → (¬ (10 : Int32) ≤ x1006) → (¬ x1007 < v1) → (¬ x1007 ≤ 0) → (¬ x1003 = 0) → (x1010 = 0) → ((f_X10_isFull S 15 x1007) = 0) → p_X4_readThing S 13 x1006 x1007) ∧ ((¬ (600 : Int32) < v2) → ∀ x1003 : Int32, (if (f_X10_howMany S 15 (0 : Int32)) ≤ 0 then (0 : Int32) else (1 : Int32)) = x1003 → (¬ (gI S 13 3) = 0) → ∀ x1006 : Int32, (if (gI S 13 3) = (1 : Int32) then (f_X4_wordHere S 13) else (10 : Int32)) = x1006 → ∀ x1007 : Int32, (if (5 : Int32) < x1006 then (5 : Int32) else x1006) = x1007 → ∀ x1010 : Int32, (if x1007 = (4 : Int32) then (if (f_X10_isFull S 15 (4 : Int32)) = 0 then (0 : Int32) else (1 : Int32)) else (0 : Int32)) = x1010 → (¬ (10 : Int32) ≤ x1006) → (¬ x1007 < v1) → (¬ x1007 ≤ 0) → (¬ x1003 = 0) → (x1010 = 0) → ((f_X10_isFull S 15 x1007) = 0) → ∀ r1026, f_X4_readThing S 13 x1006 x1007 = r1026 → (¬ r1026.1 = 0) → T_X4_readText_4 n r1026.2 x1007 (v2 + (1 : Int32))) ∧ ((¬ (600 : Int32) < v2) → ∀ x1003 : Int32, (if (f_X10_howMany S 15 (0 : Int32)) ≤ 0 then (0 : Int32) else (1 : Int32)) = x1003 → (¬ (gI S 13 3) = 0) → ∀ x1006 : Int32, (if (gI S 13 3) = (1 : Int32) then (f_X4_wordHere S 13) else (10 : Int32)) = x1006 → ∀ x1007 : Int32, (if (5 : Int32) < x1006 then (5 : Int32) else x1006) = x1007 → ∀ x1010 : Int32, (if x1007 = (4 : Int32) then (if (f_X10_isFull S 15 (4 : Int32)) = 0 then (0 : Int32) else (1 : Int32)) else (0 : Int32)) = x1010 → (¬ (10 : Int32) ≤ x1006) → (¬ x1007 < v1) → (¬ x1007 ≤ 0) → (¬ x1003 = 0) → (x1010 = 0) → (¬ (f_X10_isFull S 15 x1007) = 0) → ∀ r1028, f_X4_fail S 13 (3 : Int32) = r1028 → Bz r1028.1) ∧ ((¬ (600 : Int32) < v2) → ∀ x1003 : Int32, (if (f_X10_howMany S 15 (0 : Int32)) ≤ 0 then (0 : Int32) else (1 : Int32)) = x1003 → (¬ (gI S 13 3) = 0) → ∀ x1006 : Int32, (if (gI S 13 3) = (1 : Int32) then (f_X4_wordHere S 13) else (10 : Int32)) = x1006 → ∀ x1007 : Int32, (if (5 : Int32) < x1006 then (5 : Int32) else x1006) = x1007 → ∀ x1010 : Int32, (if x1007 = (4 : Int32) then (if (f_X10_isFull S 15 (4 : Int32)) = 0 then (0 : Int32) else (1 : Int32)) else (0 : Int32)) = x1010 → (¬ (10 : Int32) ≤ x1006) → (¬ x1007 < v1) → (¬ x1007 ≤ 0) → (¬ x1003 = 0) → (¬ x1010 = 0) → ∀ r1029, f_X4_fail S 13 (1 : Int32) = r1029 → Bz r1029.1) ∧ ((¬ (600 : Int32) < v2) → ∀ x1003 : Int32, (if (f_X10_howMany S 15 (0 : Int32)) ≤ 0 then (0 : Int32) else (1 : Int32)) = x1003 → ((gI S 13 3) = 0) → (x1003 = 0) → ((gI S 13 3) = (1 : Int32)) → p_X4_wordHere S 13) ∧ ((¬ (600 : Int32) < v2) → ∀ x1003 : Int32, (if (f_X10_howMany S 15 (0 : Int32)) ≤ 0 then (0 : Int32) else (1 : Int32)) = x1003 → ((gI S 13 3) = 0) → (x1003 = 0) → ∀ x1032 : Int32, (if (gI S 13 3) = (1 : Int32) then (f_X4_wordHere S 13) else (10 : Int32)) = x1032 → ∀ x1033 : Int32, (if (5 : Int32) < x1032 then (5 : Int32) else x1032) = x1033 → (x1033 = (4 : Int32)) → p_X10_isFull S 15 (4 : Int32)) ∧ ((¬ (600 : Int32) < v2) → ∀ x1003 : Int32, (if (f_X10_howMany S 15 (0 : Int32)) ≤ 0 then (0 : Int32) else (1 : Int32)) = x1003 → ((gI S 13 3) = 0) → (x1003 = 0) → ∀ x1032 : Int32, (if (gI S 13 3) = (1 : Int32) then (f_X4_wordHere S 13) else (10 : Int32)) = x1032 → ∀ x1033 : Int32, (if (5 : Int32) < x1032 then (5 : Int32) else x1032) = x1033 → ∀ x1036 : Int32, (if x1033 = (4 : Int32) then (if (f_X10_isFull S 15 (4 : Int32)) = 0 then (0 : Int32) else (1 : Int32)) else (0 : Int32)) = x1036 → ((10 : Int32) ≤ x1032) → ∀ r1038, f_X4_fail S 13 (1 : Int32) = r1038 → Bz r1038.1) ∧ ((¬ (600 : Int32) < v2) → ∀ x1003 : Int32, (if (f_X10_howMany S 15 (0 : Int32)) ≤ 0 then (0 : Int32) else (1 : Int32)) = x1003 → ((gI S 13 3) = 0) → (x1003 = 0) → ∀ x1032 : Int32, (if (gI S 13 3) = (1 : Int32) then (f_X4_wordHere S 13) else (10 : Int32)) = x1032 → ∀ x1033 : Int32, (if (5 : Int32) < x1032 then (5 : Int32) else x1032) = x1033 → ∀ x1036 : Int32, (if x1033 = (4 : Int32) then (if (f_X10_isFull S 15 (4 : Int32)) = 0 then (0 : Int32) else (1 : Int32)) else (0 : Int32)) = x1036 → (¬ (10 : Int32) ≤ x1032) → (x1033 < v1) → ∀ r1040, f_X4_fail S 13 (1 : Int32) = r1040 → Bz r1040.1) ∧ ((¬ (600 : Int32) < v2) → ∀ x1003 : Int32, (if (f_X10_howMany S 15 (0 : Int32)) ≤ 0 then (0 : Int32) else (1 : Int32)) = x1003 → ((gI S 13 3) = 0) → (x1003 = 0) → ∀ x1032 : Int32, (if (gI S 13 3) = (1 : Int32) then (f_X4_wordHere S 13) else (10 : Int32)) = x1032 → ∀ x1033 : Int32, (if (5 : Int32) < x1032 then (5 : Int32) else x1032) = x1033 → ∀ x1036 : Int32, (if x1033 = (4 : Int32) then (if (f_X10_isFull S 15 (4 : Int32)) = 0 then (0 : Int32) else (1 : Int32)) else (0 : Int32)) = x1036 → (¬ (10 : Int32) ≤ x1032) → (¬ x1033 < v1) → (x1033 ≤ 0) → (x1036 = 0) → p_X10_isFull S 15 x1033) ∧ ((¬ (600 : Int32) < v2) → ∀ x1003 : Int32, (if (f_X10_howMany S 15 (0 : Int32)) ≤ 0 then (0 : Int32) else (1 : Int32)) = x1003 → ((gI S 13 3) = 0) → (x1003 = 0) → ∀ x1032 : Int32, (if (gI S 13 3) = (1 : Int32) then (f_X4_wordHere S 13) else (10 : Int32)) = x1032 → ∀ x1033 : Int32, (if (5 : Int32) < x1032 then (5 : Int32) else x1032) = x1033 → ∀ x1036 : Int32, (if x1033 = (4 : Int32) then (if (f_X10_isFull S 15 (4 : Int32)) = 0 then (0 : Int32) else (1 : Int32)) else (0 : Int32)) = x1036 → (¬ (10 : Int32) ≤ x1032) → (¬ x1033 < v1) → (x1033 ≤ 0) → (x1036 = 0) → ((f_X10_isFull S 15 x1033) = 0) → p_X4_readThing S 13 x1032 x1033) ∧ ((¬ (600 : Int32) < v2) → ∀ x1003 : Int32, (if (f_X10_howMany S 15 (0 : Int32)) ≤ 0 then (0 : Int32) else (1 : Int32)) = x1003 → ((gI S 13 3) = 0) → (x1003 = 0) → ∀ x1032 : Int32, (if (gI S 13 3) = (1 : Int32) then (f_X4_wordHere S 13) else (10 : Int32)) = x1032 → ∀ x1033 : Int32, (if (5 : Int32) < x1032 then (5 : Int32) else x1032) = x1033 → ∀ x1036 : Int32, (if x1033 = (4 : Int32) then (if (f_X10_isFull S 15 (4 : Int32)) = 0 then (0 : Int32) else (1 : Int32)) else (0 : Int32)) = x1036 → (¬ (10 : Int32) ≤ x1032) → (¬ x1033 < v1) → (x1033 ≤ 0) → (x1036 = 0) → ((f_X10_isFull S 15 x1033) = 0) → ∀ r1044, f_X4_readThing S 13 x1032 x1033 = r1044 → (¬ r1044.1 = 0) → T_X4_readText_4 n r1044.2 x1033 (v2 + (1 : Int32))) ∧ ((¬ (600 : Int32) < v2) → ∀ x1003 : Int32, (if (f_X10_howMany S 15 (0 : Int32)) ≤ 0 then (0 : Int32) else (1 : Int32)) = x1003 → ((gI S 13 3) = 0) → (x1003 = 0) → ∀ x1032 : Int32, (if (gI S 13 3) = (1 : Int32) then (f_X4_wordHere S 13) else (10 : Int32)) = x1032 → ∀ x1033 : Int32, (if (5 : Int32) < x1032 then (5 : Int32) else x1032) = x1033 → ∀ x1036 : Int32, (if x1033 = (4 : Int32) then (if (f_X10_isFull S 15 (4 : Int32)) = 0 then (0 : Int32) else (1 : Int32)) else (0 : Int32)) = x1036 → (¬ (10 : Int32) ≤ x1032) → (¬ x1033 < v1) → (x1033 ≤ 0) → (x1036 = 0) → (¬ (f_X10_isFull S 15 x1033) = 0) → ∀ r1046, f_X4_fail S 13 (3 : Int32) = r1046 → Bz r1046.1) ∧ ((¬ (600 : Int32) < v2) → ∀ x1003 : Int32, (if (f_X10_howMany S 15 (0 : Int32)) ≤ 0 then (0 : Int32) else (1 : Int32)) = x1003 → ((gI S 13 3) = 0) → (x1003 = 0) → ∀ x1032 : Int32, (if (gI S 13 3) = (1 : Int32) then (f_X4_wordHere S 13) else (10 : Int32)) = x1032 → ∀ x1033 : Int32, (if (5 : Int32) < x1032 then (5 : Int32) else x1032) = x1033 → ∀ x1036 : Int32, (if x1033 = (4 : Int32) then (if (f_X10_isFull S 15 (4 : Int32)) = 0 then (0 : Int32) else (1 : Int32)) else (0 : Int32)) = x1036 → (¬ (10 : Int32) ≤ x1032) → (¬ x1033 < v1) → (x1033 ≤ 0) → (¬ x1036 = 0) → ∀ r1047, f_X4_fail S 13 (1 : Int32) = r1047 → Bz r1047.1) ∧ ((¬ (600 : Int32) < v2) → ∀ x1003 : Int32, (if (f_X10_howMany S 15 (0 : Int32)) ≤ 0 then (0 : Int32) else (1 : Int32)) = x1003 → ((gI S 13 3) = 0) → (x1003 = 0) → ∀ x1032 : Int32, (if (gI S 13 3) = (1 : Int32) then (f_X4_wordHere S 13) else (10 : Int32)) = x1032 → ∀ x1033 : Int32, (if (5 : Int32) < x1032 then (5 : Int32) else x1032) = x1033 → ∀ x1036 : Int32, (if x1033 = (4 : Int32) then (if (f_X10_isFull S 15 (4 : Int32)) = 0 then (0 : Int32) else (1 : Int32)) else (0 : Int32)) = x1036 → (¬ (10 : Int32) ≤ x1032) → (¬ x1033 < v1) → (¬ x1033 ≤ 0) → (x1003 = 0) → ∀ r1049, f_X4_fail S 13 (1 : Int32) = r1049 → Bz r1049.1) ∧ ((¬ (600 : Int32) < v2) → ∀ x1003 : Int32, (if (f_X10_howMany S 15 (0 : Int32)) ≤ 0 then (0 : Int32) else (1 : Int32)) = x1003 → ((gI S 13 3) = 0) → (x1003 = 0) → ∀ x1032 : Int32, (if (gI S 13 3) = (1 : Int32) then (f_X4_wordHere S 13) else (10 : Int32)) = x1032 → ∀ x1033 : Int32, (if (5 : Int32) < x1032 then (5 : Int32) else x1032) = x1033 → ∀ x1036 : Int32, (if x1033 = (4 : Int32) then (if (f_X10_isFull S 15 (4 : Int32)) = 0 then (0 : Int32) else (1 : Int32)) else (0 : Int32)) = x1036 → (¬ (10 : Int32) ≤ x1032) → (¬ x1033 < v1) → (¬ x1033 ≤ 0) → (¬ x1003 = 0) → (x1036 = 0) → p_X10_isFull S 15 x1033) ∧ ((¬ (600 : Int32) < v2) → ∀ x1003 : Int32, (if (f_X10_howMany S 15 (0 : Int32)) ≤ 0 then (0 : Int32) else (1 : Int32)) = x1003 → ((gI S 13 3) = 0) → (x1003 = 0) → ∀ x1032 : Int32, (if (gI S 13 3) = (1 : Int32) then (f_X4_wordHere S 13) else (10 : Int32)) = x1032 → ∀ x1033 : Int32, (if (5 : Int32) < x1032 then (5 : Int32) else x1032) = x1033 → ∀ x1036 : Int32, (if x1033 = (4 : Int32) then (if (f_X10_isFull S 15 (4 : Int32)) = 0 then (0 : Int32) else (1 : Int32)) else (0 : Int32)) = x1036 → (¬ (10 : Int32) ≤ x1032) → (¬ x1033 < v1) → (¬ x1033 ≤ 0) → (¬ x1003 = 0) → (x1036 = 0) → ((f_X10_isFull S 15 x1033) = 0) → p_X4_readThing S 13 x1032 x1033) ∧ ((¬ (600 : Int32) < v2) → ∀ x1003 : Int32, (if (f_X10_howMany S 15 (0 : Int32)) ≤ 0 then (0 : Int32) else (1 : Int32)) = x1003 → ((gI S 13 3) = 0) → (x1003 = 0) → ∀ x1032 : Int32, (if (gI S 13 3) = (1 : Int32) then (f_X4_wordHere S 13) else (10 : Int32)) = x1032 → ∀ x1033 : Int32, (if (5 : Int32) < x1032 then (5 : Int32) else x1032) = x1033 → ∀ x1036 : Int32, (if x1033 = (4 : Int32) then (if (f_X10_isFull S 15 (4 : Int32)) = 0 then (0 : Int32) else (1 : Int32)) else (0 : Int32)) = x1036 → (¬ (10 : Int32) ≤ x1032) → (¬ x1033 < v1) → (¬ x1033 ≤ 0) → (¬ x1003 = 0) → (x1036 = 0) → ((f_X10_isFull S 15 x1033) = 0) → ∀ r1052, f_X4_readThing S 13 x1032 x1033 = r1052 → (¬ r1052.1 = 0) → T_X4_readText_4 n r1052.2 x1033 (v2 + (1 : Int32))) ∧ ((¬ (600 : Int32) < v2) → ∀ x1003 : Int32, (if (f_X10_howMany S 15 (0 : Int32)) ≤ 0 then (0 : Int32) else (1 : Int32)) = x1003 → ((gI S 13 3) = 0) → (x1003 = 0) → ∀ x1032 : Int32, (if (gI S 13 3) = (1 : Int32) then (f_X4_wordHere S 13) else (10 : Int32)) = x1032 → ∀ x1033 : Int32, (if (5 : Int32) < x1032 then (5 : Int32) else x1032) = x1033 → ∀ x1036 : Int32, (if x1033 = (4 : Int32) then (if (f_X10_isFull S 15 (4 : Int32)) = 0 then (0 : Int32) else (1 : Int32)) else (0 : Int32)) = x1036 → (¬ (10 : Int32) ≤ x1032) → (¬ x1033 < v1) → (¬ x1033 ≤ 0) → (¬ x1003 = 0) → (x1036 = 0) → (¬ (f_X10_isFull S 15 x1033) = 0) → ∀ r1054, f_X4_fail S 13 (3 : Int32) = r1054 → Bz r1054.1) ∧ ((¬ (600 : Int32) < v2) → ∀ x1003 : Int32, (if (f_X10_howMany S 15 (0 : Int32)) ≤ 0 then (0 : Int32) else (1 : Int32)) = x1003 → ((gI S 13 3) = 0) → (x1003 = 0) → ∀ x1032 : Int32, (if (gI S 13 3) = (1 : Int32) then (f_X4_wordHere S 13) else (10 : Int32)) = x1032 → ∀ x1033 : Int32, (if (5 : Int32) < x1032 then (5 : Int32) else x1032) = x1033 → ∀ x1036 : Int32, (if x1033 = (4 : Int32) then (if (f_X10_isFull S 15 (4 : Int32)) = 0 then (0 : Int32) else (1 : Int32)) else (0 : Int32)) = x1036 → (¬ (10 : Int32) ≤ x1032) → (¬ x1033 < v1) → (¬ x1033 ≤ 0) → (¬ x1003 = 0) → (¬ x1036 = 0) → ∀ r1055, f_X4_fail S 13 (1 : Int32) = r1055 → Bz r1055.1)
theorem qL_X4_readText_4 : ∀ (n : Nat) (S : HSt) (v1 : Int32) (v2 : Int32), shp (L_X4_readText_4 n S v1 v2).2.2.2.2 = shp S := by
  intro n
  induction n with
  | zero => intros; rfl
  | succ n ih =>
    intro S v1 v2
    unfold L_X4_readText_4
    repeat' (first | with_reducible refine shpr4 ?_ | with_reducible rfl | with_reducible refine (ih _ _ _).trans ?_ | with_reducible refine (q_X4_fail _ _ _).trans ?_ | with_reducible refine (q_X4_readThing _ _ _ _).trans ?_ | with_reducible refine (shp_sI _ _ _ _).trans ?_ | with_reducible refine (shp_sJ _ _ _ _).trans ?_ | with_reducible refine (shp_rI _ _ _).trans ?_ | with_reducible refine shi ?_ ?_ | with_reducible refine shb (fun _ _ => ?_) | with_reducible refine shiP (fun q : Int32 × Int32 × Int32 × Int32 × HSt => q.2.2.2.2) ?_ ?_ | with_reducible refine shbP (fun q : Int32 × Int32 × Int32 × Int32 × HSt => q.2.2.2.2) (fun _ _ => ?_) | (subst_vars; with_reducible rfl) | (subst_vars; with_reducible refine (ih _ _ _).trans ?_) | (subst_vars; with_reducible refine (q_X4_fail _ _ _).trans ?_) | (subst_vars; with_reducible refine (q_X4_readThing _ _ _ _).trans ?_) | (subst_vars; with_reducible refine (shp_sI _ _ _ _).trans ?_) | (subst_vars; with_reducible refine (shp_sJ _ _ _ _).trans ?_) | (subst_vars; with_reducible refine (shp_rI _ _ _).trans ?_) | (subst_vars; with_reducible refine shi ?_ ?_) | (subst_vars; with_reducible refine shb (fun _ _ => ?_)))
theorem vL_X4_readText_4 : ∀ (n : Nat) (S : HSt) (v1 : Int32) (v2 : Int32), Fr [(13, 3), (13, 4), (13, 5), (13, 6), (13, 7), (13, 8), (16, 1000), (17, 1000)] S (L_X4_readText_4 n S v1 v2).2.2.2.2 := by
  intro n
  induction n with
  | zero => intros; exact Fr.refl _ _
  | succ n ih =>
    intro S v1 v2
    unfold L_X4_readText_4
    repeat' (first | with_reducible refine frpr4 ?_ | with_reducible exact Fr.refl _ _ | with_reducible refine Fr.lP (fun q : Int32 × Int32 × Int32 × Int32 × HSt => q.2.2.2.2) (fun _ _ => ?_) | with_reducible refine Fr.iteP (fun q : Int32 × Int32 × Int32 × Int32 × HSt => q.2.2.2.2) ?_ ?_ | with_reducible refine Fr.l1 (fun _ _ => ?_) | with_reducible refine Fr.ite ?_ ?_ | with_reducible refine Fr.sE (by assumption) (by first | decide | simp only [List.mem_cons, List.not_mem_nil, or_false, true_or, or_true, eq_self_iff_true]) ?_ | with_reducible refine Fr.jE (by assumption) ?_ | with_reducible refine Fr.rE (by assumption) (by first | decide | simp only [List.mem_cons, List.not_mem_nil, or_false, true_or, or_true, eq_self_iff_true]) ?_ | with_reducible refine Fr.iE (by assumption) ?_ ?_ | with_reducible refine Fr.tr (ih _ _ _) (by first | decide | simp only [List.mem_cons, List.not_mem_nil, or_false, forall_eq_or_imp, forall_eq, true_or, or_true, and_self, eq_self_iff_true]) ?_ | with_reducible refine Fr.tr (w_X4_fail _ _ _ _ (by assumption)) (by first | decide | simp only [List.mem_cons, List.not_mem_nil, or_false, forall_eq_or_imp, forall_eq, true_or, or_true, and_self, eq_self_iff_true]) ?_ | with_reducible refine Fr.tr (w_X4_readThing _ _ _ _ _ (by assumption)) (by first | decide | simp only [List.mem_cons, List.not_mem_nil, or_false, forall_eq_or_imp, forall_eq, true_or, or_true, and_self, eq_self_iff_true]) ?_)
theorem wL_X4_readText_4 (n : Nat) (S : HSt) (v1 : Int32) (v2 : Int32) (r : Int32 × Int32 × Int32 × Int32 × HSt) (e : L_X4_readText_4 n S v1 v2 = r) : Fr [(13, 3), (13, 4), (13, 5), (13, 6), (13, 7), (13, 8), (16, 1000), (17, 1000)] S r.2.2.2.2 := by
  rw [← e]
  exact vL_X4_readText_4 n S v1 v2
set_option maxRecDepth 100000 in
theorem l_X4_readText_4 {p : Program} {l : Launch} {e : Env} {s : State} {m : MethodId} {args : Array Value} {below : List Frame} {meth : Method} {c : Code} {G : GG} {Post : Option Value → HSt → Prop} (hC : ACx p s m args meth c cX4_readText RX4 7 (some .boolean)) (hSt : St G s)   : ∀ (n : Nat) (S : HSt) (v1 : Int32) (v2 : Int32), CS S → T_X4_readText_4 n S v1 v2 → ((L_X4_readText_4 n S v1 v2).1 = 1 → Post (some (.int (L_X4_readText_4 n S v1 v2).2.1)) (L_X4_readText_4 n S v1 v2).2.2.2.2) → ((L_X4_readText_4 n S v1 v2).1 ≠ 1 → AW p l e (rmD 6 0 0) s m args below meth c G 7 (AQ G below args s 0 0 Post) (L_X4_readText_4 n S v1 v2).2.2.2.2 0 0 165 [(0, .ref 13), (1, .int (L_X4_readText_4 n S v1 v2).2.2.1), (2, .int (L_X4_readText_4 n S v1 v2).2.2.2.1)] []) → AW p l e (rmD 6 0 0) s m args below meth c G 7 (AQ G below args s 0 0 Post) S 0 0 4 [(0, .ref 13), (1, .int v1), (2, .int v2)] [] := by
  intro n
  induction n with
  | zero => intro S v1 v2 _ hT; exact hT.elim
  | succ n ih =>
    intro S v1 v2 hM hT hr hk
    unfold T_X4_readText_4 at hT
    obtain ⟨h0, h1, h2, h3, h4, h5, h6, h7, h8, h9, h10, h11, h12, h13, h14, h15, h16, h17, h18, h19, h20, h21, h22, h23, h24, h25, h26, h27, h28, h29, h30⟩ := hT
    refine aw_iload_n hC 2 dX4_readText_4 rfl rfl ?_
    refine aw_sipush (v := 600) hC dX4_readText_5 (by decide) ?_
    refine aw_icmp_gt hC 165 dX4_readText_8 (by decide) (fun c1001 => ?_) (fun c1001 => ?_)
    · refine aw_sub [0, 1, 2] rfl ?_
      have E : L_X4_readText_4 (n + 1) S v1 v2 = _ := (if_pos c1001).trans (rfl)
      rw [E] at hk hr
      exact hk (by show ¬ (0 : Int32) = 1; decide)
    · refine aw_aload_n hC 0 dX4_readText_11 rfl rfl ?_
      refine aw_getP (b := 15) hC hSt 1 (cs_lt 13 4 0 (by decide) hM) (cs_k 13 4 0 (by decide) hM) rfl (by decide) w_325 rfl (cs_p 13 1 15 (by decide) hM) dX4_readText_12 ?_
      refine aw_iconst (v := 0) hC dX4_readText_15 (by decide) ?_
      refine aw_cV1r hC hSt (t_X10_howMany G l hM _ _ (by decide) (h0 c1001)) w_152 w_423 w_237 w_238 w_18 rfl rfl (by decide +kernel) ⟨Nat.le_of_ble_eq_true rfl, Nat.le_of_ble_eq_true rfl⟩ (cs_lt 15 10 0 (by decide) hM) (cs_k 15 10 0 (by decide) hM) rfl (Nat.le_of_ble_eq_true rfl) dX4_readText_16 ⟨Nat.zero_le _, Nat.zero_le _⟩ ?_
      refine aw_cut (S' := S) (pc' := 27) (lv' := [(0, .ref 13), (1, .int v1), (2, .int v2)]) (st' := [.int (if (f_X10_howMany S 15 (0 : Int32)) ≤ 0 then (0 : Int32) else (1 : Int32))]) ?_ (fun Jc1002 => ?_)
      · generalize ex1003 : (if (f_X10_howMany S 15 (0 : Int32)) ≤ 0 then (0 : Int32) else (1 : Int32)) = x1003
        refine aw_istore_n hC [(3, .int _), (0, .ref 13), (1, .int _), (2, .int _)] dX4_readText_27 rfl (by decide) rfl ?_
        refine aw_aload_n hC 1 dX4_readText_28 rfl rfl ?_
        refine aw_getI hC hSt 3 (cs_lt 13 4 0 (by decide) hM) (cs_k 13 4 0 (by decide) hM) rfl (by decide) w_347 rfl dX4_readText_29 ?_
        refine aw_if_ne hC 41 dX4_readText_32 (by decide) (fun c1004 => ?_) (fun c1004 => ?_)
        · refine aw_aload_n hC 1 dX4_readText_41 rfl rfl ?_
          refine aw_getI hC hSt 3 (cs_lt 13 4 0 (by decide) hM) (cs_k 13 4 0 (by decide) hM) rfl (by decide) w_347 rfl dX4_readText_42 ?_
          refine aw_iconst (v := 1) hC dX4_readText_45 (by decide) ?_
          refine aw_cut (S' := S) (pc' := 58) (lv' := [(3, .int x1003), (0, .ref 13), (1, .int v1), (2, .int v2)]) (st' := [.int (if (gI S 13 3) = (1 : Int32) then (f_X4_wordHere S 13) else (10 : Int32))]) ?_ (fun Jc1005 => ?_)
          · generalize ex1006 : (if (gI S 13 3) = (1 : Int32) then (f_X4_wordHere S 13) else (10 : Int32)) = x1006
            refine aw_istore hC [(4, .int _), (3, .int _), (0, .ref 13), (1, .int _), (2, .int _)] dX4_readText_58 (by decide) rfl ?_
            refine aw_iload hC 0 dX4_readText_60 rfl ?_
            refine aw_iconst (v := 5) hC dX4_readText_62 (by decide) ?_
            refine aw_min hC w_446 w_95 w_92 w_96 (by decide) (Nat.le_of_ble_eq_true rfl) (by decide) (by decide) dX4_readText_63 ?_
            refine aw_istore hC [(5, .int _), (4, .int _), (3, .int _), (0, .ref 13), (1, .int _), (2, .int _)] dX4_readText_66 (by decide) rfl ?_
            generalize ex1007 : (if (5 : Int32) < x1006 then (5 : Int32) else x1006) = x1007
            refine aw_iload hC 0 dX4_readText_68 rfl ?_
            refine aw_iconst (v := 4) hC dX4_readText_70 (by decide) ?_
            refine aw_cut (S' := S) (pc' := 90) (lv' := [(5, .int x1007), (4, .int x1006), (3, .int x1003), (0, .ref 13), (1, .int v1), (2, .int v2)]) (st' := [.int (if x1007 = (4 : Int32) then (if (f_X10_isFull S 15 (4 : Int32)) = 0 then (0 : Int32) else (1 : Int32)) else (0 : Int32))]) ?_ (fun Jc1008 => ?_)
            · generalize ex1010 : (if x1007 = (4 : Int32) then (if (f_X10_isFull S 15 (4 : Int32)) = 0 then (0 : Int32) else (1 : Int32)) else (0 : Int32)) = x1010
              refine aw_istore hC [(6, .int _), (5, .int _), (4, .int _), (3, .int _), (0, .ref 13), (1, .int _), (2, .int _)] dX4_readText_90 (by decide) rfl ?_
              refine aw_iload hC 2 dX4_readText_92 rfl ?_
              refine aw_bipush (v := 10) hC dX4_readText_94 (by decide) ?_
              refine aw_icmp_ge hC 119 dX4_readText_96 (by decide) (fun c1011 => ?_) (fun c1011 => ?_)
              · refine aw_aload_n hC 4 dX4_readText_119 rfl rfl ?_
                refine aw_iconst (v := 1) hC dX4_readText_120 (by decide) ?_
                refine aw_cV1r hC hSt (t_X4_fail G l hM _) w_417 w_432 w_433 w_434 w_351 rfl rfl (by decide +kernel) ⟨Nat.le_of_ble_eq_true rfl, Nat.le_of_ble_eq_true rfl⟩ (cs_lt 13 4 0 (by decide) hM) (cs_k 13 4 0 (by decide) hM) rfl (Nat.le_of_ble_eq_true rfl) dX4_readText_121 ⟨Nat.zero_le _, Nat.zero_le _⟩ ?_
                generalize er1012 : f_X4_fail S 13 (1 : Int32) = r1012
                have hM : CS r1012.2 := CS.of (by rw [← er1012]; exact q_X4_fail _ _ _) hM
                refine aw_zret hC dX4_readText_124 (Nat.le_refl _) (Nat.le_refl _) (Bz.n (h3 c1001 x1003 ex1003 c1004 x1006 ex1006 x1007 ex1007 x1010 ex1010 c1011 r1012 er1012)) ?_
                have E : L_X4_readText_4 (n + 1) S v1 v2 = _ := (if_neg c1001).trans ((bd_eq ex1003).trans ((if_neg c1004).trans ((bd_eq ex1006).trans ((bd_eq ex1007).trans ((bd_eq ex1010).trans ((if_pos c1011).trans ((bd_eq er1012).trans (rfl))))))))
                rw [E] at hr
                exact hr rfl
              · refine aw_iload hC 1 dX4_readText_99 rfl ?_
                refine aw_iload_n hC 5 dX4_readText_101 rfl rfl ?_
                refine aw_icmp_lt hC 119 dX4_readText_102 (by decide) (fun c1013 => ?_) (fun c1013 => ?_)
                · refine aw_aload_n hC 4 dX4_readText_119 rfl rfl ?_
                  refine aw_iconst (v := 1) hC dX4_readText_120 (by decide) ?_
                  refine aw_cV1r hC hSt (t_X4_fail G l hM _) w_417 w_432 w_433 w_434 w_351 rfl rfl (by decide +kernel) ⟨Nat.le_of_ble_eq_true rfl, Nat.le_of_ble_eq_true rfl⟩ (cs_lt 13 4 0 (by decide) hM) (cs_k 13 4 0 (by decide) hM) rfl (Nat.le_of_ble_eq_true rfl) dX4_readText_121 ⟨Nat.zero_le _, Nat.zero_le _⟩ ?_
                  generalize er1014 : f_X4_fail S 13 (1 : Int32) = r1014
                  have hM : CS r1014.2 := CS.of (by rw [← er1014]; exact q_X4_fail _ _ _) hM
                  refine aw_zret hC dX4_readText_124 (Nat.le_refl _) (Nat.le_refl _) (Bz.n (h4 c1001 x1003 ex1003 c1004 x1006 ex1006 x1007 ex1007 x1010 ex1010 c1011 c1013 r1014 er1014)) ?_
                  have E : L_X4_readText_4 (n + 1) S v1 v2 = _ := (if_neg c1001).trans ((bd_eq ex1003).trans ((if_neg c1004).trans ((bd_eq ex1006).trans ((bd_eq ex1007).trans ((bd_eq ex1010).trans ((if_neg c1011).trans ((if_pos c1013).trans ((bd_eq er1014).trans (rfl)))))))))
                  rw [E] at hr
                  exact hr rfl
                · refine aw_iload hC 1 dX4_readText_105 rfl ?_
                  refine aw_if_le hC 114 dX4_readText_107 (by decide) (fun c1015 => ?_) (fun c1015 => ?_)
                  · refine aw_iload hC 0 dX4_readText_114 rfl ?_
                    refine aw_if_eq hC 125 dX4_readText_116 (by decide) (fun c1016 => ?_) (fun c1016 => ?_)
                    · refine aw_aload_n hC 4 dX4_readText_125 rfl rfl ?_
                      refine aw_getP (b := 15) hC hSt 1 (cs_lt 13 4 0 (by decide) hM) (cs_k 13 4 0 (by decide) hM) rfl (by decide) w_325 rfl (cs_p 13 1 15 (by decide) hM) dX4_readText_126 ?_
                      refine aw_iload hC 1 dX4_readText_129 rfl ?_
                      refine aw_cV1r hC hSt (t_X10_isFull G l hM _ _ (by decide) (h5 c1001 x1003 ex1003 c1004 x1006 ex1006 x1007 ex1007 x1010 ex1010 c1011 c1013 c1015 c1016)) w_416 w_450 w_426 w_427 w_18 rfl rfl (by decide +kernel) ⟨Nat.le_of_ble_eq_true rfl, Nat.le_of_ble_eq_true rfl⟩ (cs_lt 15 10 0 (by decide) hM) (cs_k 15 10 0 (by decide) hM) rfl (Nat.le_of_ble_eq_true rfl) dX4_readText_131 ⟨Nat.zero_le _, Nat.zero_le _⟩ ?_
                      refine aw_if_eq hC 143 dX4_readText_134 (by decide) (fun c1017 => ?_) (fun c1017 => ?_)
                      · refine aw_iload hC 1 dX4_readText_143 rfl ?_
                        refine aw_istore_n hC [(1, .int _), (6, .int _), (5, .int _), (4, .int _), (3, .int _), (0, .ref 13), (2, .int _)] dX4_readText_145 rfl (by decide) rfl ?_
                        refine aw_aload_n hC 5 dX4_readText_146 rfl rfl ?_
                        refine aw_iload hC 3 dX4_readText_147 rfl ?_
                        refine aw_iload hC 2 dX4_readText_149 rfl ?_
                        refine aw_cV2r hC hSt (t_X4_readThing G l hM _ _ (h6 c1001 x1003 ex1003 c1004 x1006 ex1006 x1007 ex1007 x1010 ex1010 c1011 c1013 c1015 c1016 c1017)) w_445 w_451 w_452 w_453 w_351 rfl rfl (by decide +kernel) ⟨Nat.le_of_ble_eq_true rfl, Nat.le_of_ble_eq_true rfl⟩ (cs_lt 13 4 0 (by decide) hM) (cs_k 13 4 0 (by decide) hM) rfl (Nat.le_of_ble_eq_true rfl) dX4_readText_151 ⟨Nat.zero_le _, Nat.zero_le _⟩ ?_
                        generalize er1018 : f_X4_readThing S 13 x1006 x1007 = r1018
                        have hM : CS r1018.2 := CS.of (by rw [← er1018]; exact q_X4_readThing _ _ _ _) hM
                        refine aw_if_ne hC 159 dX4_readText_154 (by decide) (fun c1019 => ?_) (fun c1019 => ?_)
                        · refine aw_iinc (v := (v2 + (1 : Int32))) hC 6 [(2, .int _), (1, .int _), (6, .int _), (5, .int _), (4, .int _), (3, .int _), (0, .ref 13)] dX4_readText_159 rfl rfl (by decide) rfl ?_
                          refine aw_goto hC 4 dX4_readText_162 (by decide) ?_
                          refine aw_sub [6, 1, 0] rfl ?_
                          have hTn := (h7 c1001 x1003 ex1003 c1004 x1006 ex1006 x1007 ex1007 x1010 ex1010 c1011 c1013 c1015 c1016 c1017 r1018 er1018 c1019)
                          have hMn : CS r1018.2 := hM
                          have E : L_X4_readText_4 (n + 1) S v1 v2 = _ := (if_neg c1001).trans ((bd_eq ex1003).trans ((if_neg c1004).trans ((bd_eq ex1006).trans ((bd_eq ex1007).trans ((bd_eq ex1010).trans ((if_neg c1011).trans ((if_neg c1013).trans ((if_pos c1015).trans ((if_pos c1016).trans ((if_pos c1017).trans ((bd_eq er1018).trans ((if_neg c1019).trans (rfl)))))))))))))
                          rw [E] at hk hr
                          exact ih _ _ _ hMn hTn hr hk
                        · refine aw_iconst (v := 0) hC dX4_readText_157 (by decide) ?_
                          refine aw_zret hC dX4_readText_158 (Nat.le_refl _) (Nat.le_refl _) (by decide) ?_
                          have E : L_X4_readText_4 (n + 1) S v1 v2 = _ := (if_neg c1001).trans ((bd_eq ex1003).trans ((if_neg c1004).trans ((bd_eq ex1006).trans ((bd_eq ex1007).trans ((bd_eq ex1010).trans ((if_neg c1011).trans ((if_neg c1013).trans ((if_pos c1015).trans ((if_pos c1016).trans ((if_pos c1017).trans ((bd_eq er1018).trans ((if_pos c1019).trans (rfl)))))))))))))
                          rw [E] at hr
                          exact hr rfl
                      · refine aw_aload_n hC 4 dX4_readText_137 rfl rfl ?_
                        refine aw_iconst (v := 3) hC dX4_readText_138 (by decide) ?_
                        refine aw_cV1r hC hSt (t_X4_fail G l hM _) w_417 w_432 w_433 w_434 w_351 rfl rfl (by decide +kernel) ⟨Nat.le_of_ble_eq_true rfl, Nat.le_of_ble_eq_true rfl⟩ (cs_lt 13 4 0 (by decide) hM) (cs_k 13 4 0 (by decide) hM) rfl (Nat.le_of_ble_eq_true rfl) dX4_readText_139 ⟨Nat.zero_le _, Nat.zero_le _⟩ ?_
                        generalize er1020 : f_X4_fail S 13 (3 : Int32) = r1020
                        have hM : CS r1020.2 := CS.of (by rw [← er1020]; exact q_X4_fail _ _ _) hM
                        refine aw_zret hC dX4_readText_142 (Nat.le_refl _) (Nat.le_refl _) (Bz.n (h8 c1001 x1003 ex1003 c1004 x1006 ex1006 x1007 ex1007 x1010 ex1010 c1011 c1013 c1015 c1016 c1017 r1020 er1020)) ?_
                        have E : L_X4_readText_4 (n + 1) S v1 v2 = _ := (if_neg c1001).trans ((bd_eq ex1003).trans ((if_neg c1004).trans ((bd_eq ex1006).trans ((bd_eq ex1007).trans ((bd_eq ex1010).trans ((if_neg c1011).trans ((if_neg c1013).trans ((if_pos c1015).trans ((if_pos c1016).trans ((if_neg c1017).trans ((bd_eq er1020).trans (rfl))))))))))))
                        rw [E] at hr
                        exact hr rfl
                    · refine aw_aload_n hC 4 dX4_readText_119 rfl rfl ?_
                      refine aw_iconst (v := 1) hC dX4_readText_120 (by decide) ?_
                      refine aw_cV1r hC hSt (t_X4_fail G l hM _) w_417 w_432 w_433 w_434 w_351 rfl rfl (by decide +kernel) ⟨Nat.le_of_ble_eq_true rfl, Nat.le_of_ble_eq_true rfl⟩ (cs_lt 13 4 0 (by decide) hM) (cs_k 13 4 0 (by decide) hM) rfl (Nat.le_of_ble_eq_true rfl) dX4_readText_121 ⟨Nat.zero_le _, Nat.zero_le _⟩ ?_
                      generalize er1021 : f_X4_fail S 13 (1 : Int32) = r1021
                      have hM : CS r1021.2 := CS.of (by rw [← er1021]; exact q_X4_fail _ _ _) hM
                      refine aw_zret hC dX4_readText_124 (Nat.le_refl _) (Nat.le_refl _) (Bz.n (h9 c1001 x1003 ex1003 c1004 x1006 ex1006 x1007 ex1007 x1010 ex1010 c1011 c1013 c1015 c1016 r1021 er1021)) ?_
                      have E : L_X4_readText_4 (n + 1) S v1 v2 = _ := (if_neg c1001).trans ((bd_eq ex1003).trans ((if_neg c1004).trans ((bd_eq ex1006).trans ((bd_eq ex1007).trans ((bd_eq ex1010).trans ((if_neg c1011).trans ((if_neg c1013).trans ((if_pos c1015).trans ((if_neg c1016).trans ((bd_eq er1021).trans (rfl)))))))))))
                      rw [E] at hr
                      exact hr rfl
                  · refine aw_iload_n hC 3 dX4_readText_110 rfl rfl ?_
                    refine aw_if_eq hC 119 dX4_readText_111 (by decide) (fun c1022 => ?_) (fun c1022 => ?_)
                    · refine aw_aload_n hC 4 dX4_readText_119 rfl rfl ?_
                      refine aw_iconst (v := 1) hC dX4_readText_120 (by decide) ?_
                      refine aw_cV1r hC hSt (t_X4_fail G l hM _) w_417 w_432 w_433 w_434 w_351 rfl rfl (by decide +kernel) ⟨Nat.le_of_ble_eq_true rfl, Nat.le_of_ble_eq_true rfl⟩ (cs_lt 13 4 0 (by decide) hM) (cs_k 13 4 0 (by decide) hM) rfl (Nat.le_of_ble_eq_true rfl) dX4_readText_121 ⟨Nat.zero_le _, Nat.zero_le _⟩ ?_
                      generalize er1023 : f_X4_fail S 13 (1 : Int32) = r1023
                      have hM : CS r1023.2 := CS.of (by rw [← er1023]; exact q_X4_fail _ _ _) hM
                      refine aw_zret hC dX4_readText_124 (Nat.le_refl _) (Nat.le_refl _) (Bz.n (h10 c1001 x1003 ex1003 c1004 x1006 ex1006 x1007 ex1007 x1010 ex1010 c1011 c1013 c1015 c1022 r1023 er1023)) ?_
                      have E : L_X4_readText_4 (n + 1) S v1 v2 = _ := (if_neg c1001).trans ((bd_eq ex1003).trans ((if_neg c1004).trans ((bd_eq ex1006).trans ((bd_eq ex1007).trans ((bd_eq ex1010).trans ((if_neg c1011).trans ((if_neg c1013).trans ((if_neg c1015).trans ((if_pos c1022).trans ((bd_eq er1023).trans (rfl)))))))))))
                      rw [E] at hr
                      exact hr rfl
                    · refine aw_iload hC 0 dX4_readText_114 rfl ?_
                      refine aw_if_eq hC 125 dX4_readText_116 (by decide) (fun c1024 => ?_) (fun c1024 => ?_)
                      · refine aw_aload_n hC 4 dX4_readText_125 rfl rfl ?_
                        refine aw_getP (b := 15) hC hSt 1 (cs_lt 13 4 0 (by decide) hM) (cs_k 13 4 0 (by decide) hM) rfl (by decide) w_325 rfl (cs_p 13 1 15 (by decide) hM) dX4_readText_126 ?_
                        refine aw_iload hC 1 dX4_readText_129 rfl ?_
                        refine aw_cV1r hC hSt (t_X10_isFull G l hM _ _ (by decide) (h11 c1001 x1003 ex1003 c1004 x1006 ex1006 x1007 ex1007 x1010 ex1010 c1011 c1013 c1015 c1022 c1024)) w_416 w_450 w_426 w_427 w_18 rfl rfl (by decide +kernel) ⟨Nat.le_of_ble_eq_true rfl, Nat.le_of_ble_eq_true rfl⟩ (cs_lt 15 10 0 (by decide) hM) (cs_k 15 10 0 (by decide) hM) rfl (Nat.le_of_ble_eq_true rfl) dX4_readText_131 ⟨Nat.zero_le _, Nat.zero_le _⟩ ?_
                        refine aw_if_eq hC 143 dX4_readText_134 (by decide) (fun c1025 => ?_) (fun c1025 => ?_)
                        · refine aw_iload hC 1 dX4_readText_143 rfl ?_
                          refine aw_istore_n hC [(1, .int _), (6, .int _), (5, .int _), (4, .int _), (3, .int _), (0, .ref 13), (2, .int _)] dX4_readText_145 rfl (by decide) rfl ?_
                          refine aw_aload_n hC 5 dX4_readText_146 rfl rfl ?_
                          refine aw_iload hC 3 dX4_readText_147 rfl ?_
                          refine aw_iload hC 2 dX4_readText_149 rfl ?_
                          refine aw_cV2r hC hSt (t_X4_readThing G l hM _ _ (h12 c1001 x1003 ex1003 c1004 x1006 ex1006 x1007 ex1007 x1010 ex1010 c1011 c1013 c1015 c1022 c1024 c1025)) w_445 w_451 w_452 w_453 w_351 rfl rfl (by decide +kernel) ⟨Nat.le_of_ble_eq_true rfl, Nat.le_of_ble_eq_true rfl⟩ (cs_lt 13 4 0 (by decide) hM) (cs_k 13 4 0 (by decide) hM) rfl (Nat.le_of_ble_eq_true rfl) dX4_readText_151 ⟨Nat.zero_le _, Nat.zero_le _⟩ ?_
                          generalize er1026 : f_X4_readThing S 13 x1006 x1007 = r1026
                          have hM : CS r1026.2 := CS.of (by rw [← er1026]; exact q_X4_readThing _ _ _ _) hM
                          refine aw_if_ne hC 159 dX4_readText_154 (by decide) (fun c1027 => ?_) (fun c1027 => ?_)
                          · refine aw_iinc (v := (v2 + (1 : Int32))) hC 6 [(2, .int _), (1, .int _), (6, .int _), (5, .int _), (4, .int _), (3, .int _), (0, .ref 13)] dX4_readText_159 rfl rfl (by decide) rfl ?_
                            refine aw_goto hC 4 dX4_readText_162 (by decide) ?_
                            refine aw_sub [6, 1, 0] rfl ?_
                            have hTn := (h13 c1001 x1003 ex1003 c1004 x1006 ex1006 x1007 ex1007 x1010 ex1010 c1011 c1013 c1015 c1022 c1024 c1025 r1026 er1026 c1027)
                            have hMn : CS r1026.2 := hM
                            have E : L_X4_readText_4 (n + 1) S v1 v2 = _ := (if_neg c1001).trans ((bd_eq ex1003).trans ((if_neg c1004).trans ((bd_eq ex1006).trans ((bd_eq ex1007).trans ((bd_eq ex1010).trans ((if_neg c1011).trans ((if_neg c1013).trans ((if_neg c1015).trans ((if_neg c1022).trans ((if_pos c1024).trans ((if_pos c1025).trans ((bd_eq er1026).trans ((if_neg c1027).trans (rfl))))))))))))))
                            rw [E] at hk hr
                            exact ih _ _ _ hMn hTn hr hk
                          · refine aw_iconst (v := 0) hC dX4_readText_157 (by decide) ?_
                            refine aw_zret hC dX4_readText_158 (Nat.le_refl _) (Nat.le_refl _) (by decide) ?_
                            have E : L_X4_readText_4 (n + 1) S v1 v2 = _ := (if_neg c1001).trans ((bd_eq ex1003).trans ((if_neg c1004).trans ((bd_eq ex1006).trans ((bd_eq ex1007).trans ((bd_eq ex1010).trans ((if_neg c1011).trans ((if_neg c1013).trans ((if_neg c1015).trans ((if_neg c1022).trans ((if_pos c1024).trans ((if_pos c1025).trans ((bd_eq er1026).trans ((if_pos c1027).trans (rfl))))))))))))))
                            rw [E] at hr
                            exact hr rfl
                        · refine aw_aload_n hC 4 dX4_readText_137 rfl rfl ?_
                          refine aw_iconst (v := 3) hC dX4_readText_138 (by decide) ?_
                          refine aw_cV1r hC hSt (t_X4_fail G l hM _) w_417 w_432 w_433 w_434 w_351 rfl rfl (by decide +kernel) ⟨Nat.le_of_ble_eq_true rfl, Nat.le_of_ble_eq_true rfl⟩ (cs_lt 13 4 0 (by decide) hM) (cs_k 13 4 0 (by decide) hM) rfl (Nat.le_of_ble_eq_true rfl) dX4_readText_139 ⟨Nat.zero_le _, Nat.zero_le _⟩ ?_
                          generalize er1028 : f_X4_fail S 13 (3 : Int32) = r1028
                          have hM : CS r1028.2 := CS.of (by rw [← er1028]; exact q_X4_fail _ _ _) hM
                          refine aw_zret hC dX4_readText_142 (Nat.le_refl _) (Nat.le_refl _) (Bz.n (h14 c1001 x1003 ex1003 c1004 x1006 ex1006 x1007 ex1007 x1010 ex1010 c1011 c1013 c1015 c1022 c1024 c1025 r1028 er1028)) ?_
                          have E : L_X4_readText_4 (n + 1) S v1 v2 = _ := (if_neg c1001).trans ((bd_eq ex1003).trans ((if_neg c1004).trans ((bd_eq ex1006).trans ((bd_eq ex1007).trans ((bd_eq ex1010).trans ((if_neg c1011).trans ((if_neg c1013).trans ((if_neg c1015).trans ((if_neg c1022).trans ((if_pos c1024).trans ((if_neg c1025).trans ((bd_eq er1028).trans (rfl)))))))))))))
                          rw [E] at hr
                          exact hr rfl
                      · refine aw_aload_n hC 4 dX4_readText_119 rfl rfl ?_
                        refine aw_iconst (v := 1) hC dX4_readText_120 (by decide) ?_
                        refine aw_cV1r hC hSt (t_X4_fail G l hM _) w_417 w_432 w_433 w_434 w_351 rfl rfl (by decide +kernel) ⟨Nat.le_of_ble_eq_true rfl, Nat.le_of_ble_eq_true rfl⟩ (cs_lt 13 4 0 (by decide) hM) (cs_k 13 4 0 (by decide) hM) rfl (Nat.le_of_ble_eq_true rfl) dX4_readText_121 ⟨Nat.zero_le _, Nat.zero_le _⟩ ?_
                        generalize er1029 : f_X4_fail S 13 (1 : Int32) = r1029
                        have hM : CS r1029.2 := CS.of (by rw [← er1029]; exact q_X4_fail _ _ _) hM
                        refine aw_zret hC dX4_readText_124 (Nat.le_refl _) (Nat.le_refl _) (Bz.n (h15 c1001 x1003 ex1003 c1004 x1006 ex1006 x1007 ex1007 x1010 ex1010 c1011 c1013 c1015 c1022 c1024 r1029 er1029)) ?_
                        have E : L_X4_readText_4 (n + 1) S v1 v2 = _ := (if_neg c1001).trans ((bd_eq ex1003).trans ((if_neg c1004).trans ((bd_eq ex1006).trans ((bd_eq ex1007).trans ((bd_eq ex1010).trans ((if_neg c1011).trans ((if_neg c1013).trans ((if_neg c1015).trans ((if_neg c1022).trans ((if_neg c1024).trans ((bd_eq er1029).trans (rfl))))))))))))
                        rw [E] at hr
                        exact hr rfl
            · refine aw_icmp_ne hC 89 dX4_readText_71 (by decide) (fun c1008 => ?_) (fun c1008 => ?_)
              · refine aw_iconst (v := 0) hC dX4_readText_89 (by decide) ?_
                simp only [bd_def, if_neg c1008] at Jc1008 ⊢
                exact Jc1008
              · refine aw_aload_n hC 3 dX4_readText_74 rfl rfl ?_
                refine aw_getP (b := 15) hC hSt 1 (cs_lt 13 4 0 (by decide) hM) (cs_k 13 4 0 (by decide) hM) rfl (by decide) w_325 rfl (cs_p 13 1 15 (by decide) hM) dX4_readText_75 ?_
                refine aw_iconst (v := 4) hC dX4_readText_78 (by decide) ?_
                refine aw_cV1r hC hSt (t_X10_isFull G l hM _ _ (by decide) (h2 c1001 x1003 ex1003 c1004 x1006 ex1006 x1007 ex1007 c1008)) w_416 w_450 w_426 w_427 w_18 rfl rfl (by decide +kernel) ⟨Nat.le_of_ble_eq_true rfl, Nat.le_of_ble_eq_true rfl⟩ (cs_lt 15 10 0 (by decide) hM) (cs_k 15 10 0 (by decide) hM) rfl (Nat.le_of_ble_eq_true rfl) dX4_readText_79 ⟨Nat.zero_le _, Nat.zero_le _⟩ ?_
                refine aw_if_eq hC 89 dX4_readText_82 (by decide) (fun c1009 => ?_) (fun c1009 => ?_)
                · refine aw_iconst (v := 0) hC dX4_readText_89 (by decide) ?_
                  simp only [bd_def, if_pos c1008, if_pos c1009] at Jc1008 ⊢
                  exact Jc1008
                · refine aw_iconst (v := 1) hC dX4_readText_85 (by decide) ?_
                  refine aw_goto hC 90 dX4_readText_86 (by decide) ?_
                  simp only [bd_def, if_pos c1008, if_neg c1009] at Jc1008 ⊢
                  exact Jc1008
          · refine aw_icmp_ne hC 56 dX4_readText_46 (by decide) (fun c1005 => ?_) (fun c1005 => ?_)
            · refine aw_bipush (v := 10) hC dX4_readText_56 (by decide) ?_
              simp only [bd_def, if_neg c1005] at Jc1005 ⊢
              exact Jc1005
            · refine aw_aload_n hC 1 dX4_readText_49 rfl rfl ?_
              refine aw_cV0r hC hSt (t_X4_wordHere G l hM  (h1 c1001 x1003 ex1003 c1004 c1005)) w_415 w_447 w_448 w_449 w_351 rfl rfl (by decide +kernel) ⟨Nat.le_of_ble_eq_true rfl, Nat.le_of_ble_eq_true rfl⟩ (cs_lt 13 4 0 (by decide) hM) (cs_k 13 4 0 (by decide) hM) rfl (Nat.le_of_ble_eq_true rfl) dX4_readText_50 ⟨Nat.zero_le _, Nat.zero_le _⟩ ?_
              refine aw_goto hC 58 dX4_readText_53 (by decide) ?_
              simp only [bd_def, if_pos c1005] at Jc1005 ⊢
              exact Jc1005
        · refine aw_iload_n hC 0 dX4_readText_35 rfl rfl ?_
          refine aw_if_eq hC 41 dX4_readText_36 (by decide) (fun c1030 => ?_) (fun c1030 => ?_)
          · refine aw_aload_n hC 1 dX4_readText_41 rfl rfl ?_
            refine aw_getI hC hSt 3 (cs_lt 13 4 0 (by decide) hM) (cs_k 13 4 0 (by decide) hM) rfl (by decide) w_347 rfl dX4_readText_42 ?_
            refine aw_iconst (v := 1) hC dX4_readText_45 (by decide) ?_
            refine aw_cut (S' := S) (pc' := 58) (lv' := [(3, .int x1003), (0, .ref 13), (1, .int v1), (2, .int v2)]) (st' := [.int (if (gI S 13 3) = (1 : Int32) then (f_X4_wordHere S 13) else (10 : Int32))]) ?_ (fun Jc1031 => ?_)
            · generalize ex1032 : (if (gI S 13 3) = (1 : Int32) then (f_X4_wordHere S 13) else (10 : Int32)) = x1032
              refine aw_istore hC [(4, .int _), (3, .int _), (0, .ref 13), (1, .int _), (2, .int _)] dX4_readText_58 (by decide) rfl ?_
              refine aw_iload hC 0 dX4_readText_60 rfl ?_
              refine aw_iconst (v := 5) hC dX4_readText_62 (by decide) ?_
              refine aw_min hC w_446 w_95 w_92 w_96 (by decide) (Nat.le_of_ble_eq_true rfl) (by decide) (by decide) dX4_readText_63 ?_
              refine aw_istore hC [(5, .int _), (4, .int _), (3, .int _), (0, .ref 13), (1, .int _), (2, .int _)] dX4_readText_66 (by decide) rfl ?_
              generalize ex1033 : (if (5 : Int32) < x1032 then (5 : Int32) else x1032) = x1033
              refine aw_iload hC 0 dX4_readText_68 rfl ?_
              refine aw_iconst (v := 4) hC dX4_readText_70 (by decide) ?_
              refine aw_cut (S' := S) (pc' := 90) (lv' := [(5, .int x1033), (4, .int x1032), (3, .int x1003), (0, .ref 13), (1, .int v1), (2, .int v2)]) (st' := [.int (if x1033 = (4 : Int32) then (if (f_X10_isFull S 15 (4 : Int32)) = 0 then (0 : Int32) else (1 : Int32)) else (0 : Int32))]) ?_ (fun Jc1034 => ?_)
              · generalize ex1036 : (if x1033 = (4 : Int32) then (if (f_X10_isFull S 15 (4 : Int32)) = 0 then (0 : Int32) else (1 : Int32)) else (0 : Int32)) = x1036
                refine aw_istore hC [(6, .int _), (5, .int _), (4, .int _), (3, .int _), (0, .ref 13), (1, .int _), (2, .int _)] dX4_readText_90 (by decide) rfl ?_
                refine aw_iload hC 2 dX4_readText_92 rfl ?_
                refine aw_bipush (v := 10) hC dX4_readText_94 (by decide) ?_
                refine aw_icmp_ge hC 119 dX4_readText_96 (by decide) (fun c1037 => ?_) (fun c1037 => ?_)
                · refine aw_aload_n hC 4 dX4_readText_119 rfl rfl ?_
                  refine aw_iconst (v := 1) hC dX4_readText_120 (by decide) ?_
                  refine aw_cV1r hC hSt (t_X4_fail G l hM _) w_417 w_432 w_433 w_434 w_351 rfl rfl (by decide +kernel) ⟨Nat.le_of_ble_eq_true rfl, Nat.le_of_ble_eq_true rfl⟩ (cs_lt 13 4 0 (by decide) hM) (cs_k 13 4 0 (by decide) hM) rfl (Nat.le_of_ble_eq_true rfl) dX4_readText_121 ⟨Nat.zero_le _, Nat.zero_le _⟩ ?_
                  generalize er1038 : f_X4_fail S 13 (1 : Int32) = r1038
                  have hM : CS r1038.2 := CS.of (by rw [← er1038]; exact q_X4_fail _ _ _) hM
                  refine aw_zret hC dX4_readText_124 (Nat.le_refl _) (Nat.le_refl _) (Bz.n (h18 c1001 x1003 ex1003 c1004 c1030 x1032 ex1032 x1033 ex1033 x1036 ex1036 c1037 r1038 er1038)) ?_
                  have E : L_X4_readText_4 (n + 1) S v1 v2 = _ := (if_neg c1001).trans ((bd_eq ex1003).trans ((if_pos c1004).trans ((if_pos c1030).trans ((bd_eq ex1032).trans ((bd_eq ex1033).trans ((bd_eq ex1036).trans ((if_pos c1037).trans ((bd_eq er1038).trans (rfl)))))))))
                  rw [E] at hr
                  exact hr rfl
                · refine aw_iload hC 1 dX4_readText_99 rfl ?_
                  refine aw_iload_n hC 5 dX4_readText_101 rfl rfl ?_
                  refine aw_icmp_lt hC 119 dX4_readText_102 (by decide) (fun c1039 => ?_) (fun c1039 => ?_)
                  · refine aw_aload_n hC 4 dX4_readText_119 rfl rfl ?_
                    refine aw_iconst (v := 1) hC dX4_readText_120 (by decide) ?_
                    refine aw_cV1r hC hSt (t_X4_fail G l hM _) w_417 w_432 w_433 w_434 w_351 rfl rfl (by decide +kernel) ⟨Nat.le_of_ble_eq_true rfl, Nat.le_of_ble_eq_true rfl⟩ (cs_lt 13 4 0 (by decide) hM) (cs_k 13 4 0 (by decide) hM) rfl (Nat.le_of_ble_eq_true rfl) dX4_readText_121 ⟨Nat.zero_le _, Nat.zero_le _⟩ ?_
                    generalize er1040 : f_X4_fail S 13 (1 : Int32) = r1040
                    have hM : CS r1040.2 := CS.of (by rw [← er1040]; exact q_X4_fail _ _ _) hM
                    refine aw_zret hC dX4_readText_124 (Nat.le_refl _) (Nat.le_refl _) (Bz.n (h19 c1001 x1003 ex1003 c1004 c1030 x1032 ex1032 x1033 ex1033 x1036 ex1036 c1037 c1039 r1040 er1040)) ?_
                    have E : L_X4_readText_4 (n + 1) S v1 v2 = _ := (if_neg c1001).trans ((bd_eq ex1003).trans ((if_pos c1004).trans ((if_pos c1030).trans ((bd_eq ex1032).trans ((bd_eq ex1033).trans ((bd_eq ex1036).trans ((if_neg c1037).trans ((if_pos c1039).trans ((bd_eq er1040).trans (rfl))))))))))
                    rw [E] at hr
                    exact hr rfl
                  · refine aw_iload hC 1 dX4_readText_105 rfl ?_
                    refine aw_if_le hC 114 dX4_readText_107 (by decide) (fun c1041 => ?_) (fun c1041 => ?_)
                    · refine aw_iload hC 0 dX4_readText_114 rfl ?_
                      refine aw_if_eq hC 125 dX4_readText_116 (by decide) (fun c1042 => ?_) (fun c1042 => ?_)
                      · refine aw_aload_n hC 4 dX4_readText_125 rfl rfl ?_
                        refine aw_getP (b := 15) hC hSt 1 (cs_lt 13 4 0 (by decide) hM) (cs_k 13 4 0 (by decide) hM) rfl (by decide) w_325 rfl (cs_p 13 1 15 (by decide) hM) dX4_readText_126 ?_
                        refine aw_iload hC 1 dX4_readText_129 rfl ?_
                        refine aw_cV1r hC hSt (t_X10_isFull G l hM _ _ (by decide) (h20 c1001 x1003 ex1003 c1004 c1030 x1032 ex1032 x1033 ex1033 x1036 ex1036 c1037 c1039 c1041 c1042)) w_416 w_450 w_426 w_427 w_18 rfl rfl (by decide +kernel) ⟨Nat.le_of_ble_eq_true rfl, Nat.le_of_ble_eq_true rfl⟩ (cs_lt 15 10 0 (by decide) hM) (cs_k 15 10 0 (by decide) hM) rfl (Nat.le_of_ble_eq_true rfl) dX4_readText_131 ⟨Nat.zero_le _, Nat.zero_le _⟩ ?_
                        refine aw_if_eq hC 143 dX4_readText_134 (by decide) (fun c1043 => ?_) (fun c1043 => ?_)
                        · refine aw_iload hC 1 dX4_readText_143 rfl ?_
                          refine aw_istore_n hC [(1, .int _), (6, .int _), (5, .int _), (4, .int _), (3, .int _), (0, .ref 13), (2, .int _)] dX4_readText_145 rfl (by decide) rfl ?_
                          refine aw_aload_n hC 5 dX4_readText_146 rfl rfl ?_
                          refine aw_iload hC 3 dX4_readText_147 rfl ?_
                          refine aw_iload hC 2 dX4_readText_149 rfl ?_
                          refine aw_cV2r hC hSt (t_X4_readThing G l hM _ _ (h21 c1001 x1003 ex1003 c1004 c1030 x1032 ex1032 x1033 ex1033 x1036 ex1036 c1037 c1039 c1041 c1042 c1043)) w_445 w_451 w_452 w_453 w_351 rfl rfl (by decide +kernel) ⟨Nat.le_of_ble_eq_true rfl, Nat.le_of_ble_eq_true rfl⟩ (cs_lt 13 4 0 (by decide) hM) (cs_k 13 4 0 (by decide) hM) rfl (Nat.le_of_ble_eq_true rfl) dX4_readText_151 ⟨Nat.zero_le _, Nat.zero_le _⟩ ?_
                          generalize er1044 : f_X4_readThing S 13 x1032 x1033 = r1044
                          have hM : CS r1044.2 := CS.of (by rw [← er1044]; exact q_X4_readThing _ _ _ _) hM
                          refine aw_if_ne hC 159 dX4_readText_154 (by decide) (fun c1045 => ?_) (fun c1045 => ?_)
                          · refine aw_iinc (v := (v2 + (1 : Int32))) hC 6 [(2, .int _), (1, .int _), (6, .int _), (5, .int _), (4, .int _), (3, .int _), (0, .ref 13)] dX4_readText_159 rfl rfl (by decide) rfl ?_
                            refine aw_goto hC 4 dX4_readText_162 (by decide) ?_
                            refine aw_sub [6, 1, 0] rfl ?_
                            have hTn := (h22 c1001 x1003 ex1003 c1004 c1030 x1032 ex1032 x1033 ex1033 x1036 ex1036 c1037 c1039 c1041 c1042 c1043 r1044 er1044 c1045)
                            have hMn : CS r1044.2 := hM
                            have E : L_X4_readText_4 (n + 1) S v1 v2 = _ := (if_neg c1001).trans ((bd_eq ex1003).trans ((if_pos c1004).trans ((if_pos c1030).trans ((bd_eq ex1032).trans ((bd_eq ex1033).trans ((bd_eq ex1036).trans ((if_neg c1037).trans ((if_neg c1039).trans ((if_pos c1041).trans ((if_pos c1042).trans ((if_pos c1043).trans ((bd_eq er1044).trans ((if_neg c1045).trans (rfl))))))))))))))
                            rw [E] at hk hr
                            exact ih _ _ _ hMn hTn hr hk
                          · refine aw_iconst (v := 0) hC dX4_readText_157 (by decide) ?_
                            refine aw_zret hC dX4_readText_158 (Nat.le_refl _) (Nat.le_refl _) (by decide) ?_
                            have E : L_X4_readText_4 (n + 1) S v1 v2 = _ := (if_neg c1001).trans ((bd_eq ex1003).trans ((if_pos c1004).trans ((if_pos c1030).trans ((bd_eq ex1032).trans ((bd_eq ex1033).trans ((bd_eq ex1036).trans ((if_neg c1037).trans ((if_neg c1039).trans ((if_pos c1041).trans ((if_pos c1042).trans ((if_pos c1043).trans ((bd_eq er1044).trans ((if_pos c1045).trans (rfl))))))))))))))
                            rw [E] at hr
                            exact hr rfl
                        · refine aw_aload_n hC 4 dX4_readText_137 rfl rfl ?_
                          refine aw_iconst (v := 3) hC dX4_readText_138 (by decide) ?_
                          refine aw_cV1r hC hSt (t_X4_fail G l hM _) w_417 w_432 w_433 w_434 w_351 rfl rfl (by decide +kernel) ⟨Nat.le_of_ble_eq_true rfl, Nat.le_of_ble_eq_true rfl⟩ (cs_lt 13 4 0 (by decide) hM) (cs_k 13 4 0 (by decide) hM) rfl (Nat.le_of_ble_eq_true rfl) dX4_readText_139 ⟨Nat.zero_le _, Nat.zero_le _⟩ ?_
                          generalize er1046 : f_X4_fail S 13 (3 : Int32) = r1046
                          have hM : CS r1046.2 := CS.of (by rw [← er1046]; exact q_X4_fail _ _ _) hM
                          refine aw_zret hC dX4_readText_142 (Nat.le_refl _) (Nat.le_refl _) (Bz.n (h23 c1001 x1003 ex1003 c1004 c1030 x1032 ex1032 x1033 ex1033 x1036 ex1036 c1037 c1039 c1041 c1042 c1043 r1046 er1046)) ?_
                          have E : L_X4_readText_4 (n + 1) S v1 v2 = _ := (if_neg c1001).trans ((bd_eq ex1003).trans ((if_pos c1004).trans ((if_pos c1030).trans ((bd_eq ex1032).trans ((bd_eq ex1033).trans ((bd_eq ex1036).trans ((if_neg c1037).trans ((if_neg c1039).trans ((if_pos c1041).trans ((if_pos c1042).trans ((if_neg c1043).trans ((bd_eq er1046).trans (rfl)))))))))))))
                          rw [E] at hr
                          exact hr rfl
                      · refine aw_aload_n hC 4 dX4_readText_119 rfl rfl ?_
                        refine aw_iconst (v := 1) hC dX4_readText_120 (by decide) ?_
                        refine aw_cV1r hC hSt (t_X4_fail G l hM _) w_417 w_432 w_433 w_434 w_351 rfl rfl (by decide +kernel) ⟨Nat.le_of_ble_eq_true rfl, Nat.le_of_ble_eq_true rfl⟩ (cs_lt 13 4 0 (by decide) hM) (cs_k 13 4 0 (by decide) hM) rfl (Nat.le_of_ble_eq_true rfl) dX4_readText_121 ⟨Nat.zero_le _, Nat.zero_le _⟩ ?_
                        generalize er1047 : f_X4_fail S 13 (1 : Int32) = r1047
                        have hM : CS r1047.2 := CS.of (by rw [← er1047]; exact q_X4_fail _ _ _) hM
                        refine aw_zret hC dX4_readText_124 (Nat.le_refl _) (Nat.le_refl _) (Bz.n (h24 c1001 x1003 ex1003 c1004 c1030 x1032 ex1032 x1033 ex1033 x1036 ex1036 c1037 c1039 c1041 c1042 r1047 er1047)) ?_
                        have E : L_X4_readText_4 (n + 1) S v1 v2 = _ := (if_neg c1001).trans ((bd_eq ex1003).trans ((if_pos c1004).trans ((if_pos c1030).trans ((bd_eq ex1032).trans ((bd_eq ex1033).trans ((bd_eq ex1036).trans ((if_neg c1037).trans ((if_neg c1039).trans ((if_pos c1041).trans ((if_neg c1042).trans ((bd_eq er1047).trans (rfl))))))))))))
                        rw [E] at hr
                        exact hr rfl
                    · refine aw_iload_n hC 3 dX4_readText_110 rfl rfl ?_
                      refine aw_if_eq hC 119 dX4_readText_111 (by decide) (fun c1048 => ?_) (fun c1048 => ?_)
                      · refine aw_aload_n hC 4 dX4_readText_119 rfl rfl ?_
                        refine aw_iconst (v := 1) hC dX4_readText_120 (by decide) ?_
                        refine aw_cV1r hC hSt (t_X4_fail G l hM _) w_417 w_432 w_433 w_434 w_351 rfl rfl (by decide +kernel) ⟨Nat.le_of_ble_eq_true rfl, Nat.le_of_ble_eq_true rfl⟩ (cs_lt 13 4 0 (by decide) hM) (cs_k 13 4 0 (by decide) hM) rfl (Nat.le_of_ble_eq_true rfl) dX4_readText_121 ⟨Nat.zero_le _, Nat.zero_le _⟩ ?_
                        generalize er1049 : f_X4_fail S 13 (1 : Int32) = r1049
                        have hM : CS r1049.2 := CS.of (by rw [← er1049]; exact q_X4_fail _ _ _) hM
                        refine aw_zret hC dX4_readText_124 (Nat.le_refl _) (Nat.le_refl _) (Bz.n (h25 c1001 x1003 ex1003 c1004 c1030 x1032 ex1032 x1033 ex1033 x1036 ex1036 c1037 c1039 c1041 c1048 r1049 er1049)) ?_
                        have E : L_X4_readText_4 (n + 1) S v1 v2 = _ := (if_neg c1001).trans ((bd_eq ex1003).trans ((if_pos c1004).trans ((if_pos c1030).trans ((bd_eq ex1032).trans ((bd_eq ex1033).trans ((bd_eq ex1036).trans ((if_neg c1037).trans ((if_neg c1039).trans ((if_neg c1041).trans ((if_pos c1048).trans ((bd_eq er1049).trans (rfl))))))))))))
                        rw [E] at hr
                        exact hr rfl
                      · refine aw_iload hC 0 dX4_readText_114 rfl ?_
                        refine aw_if_eq hC 125 dX4_readText_116 (by decide) (fun c1050 => ?_) (fun c1050 => ?_)
                        · refine aw_aload_n hC 4 dX4_readText_125 rfl rfl ?_
                          refine aw_getP (b := 15) hC hSt 1 (cs_lt 13 4 0 (by decide) hM) (cs_k 13 4 0 (by decide) hM) rfl (by decide) w_325 rfl (cs_p 13 1 15 (by decide) hM) dX4_readText_126 ?_
                          refine aw_iload hC 1 dX4_readText_129 rfl ?_
                          refine aw_cV1r hC hSt (t_X10_isFull G l hM _ _ (by decide) (h26 c1001 x1003 ex1003 c1004 c1030 x1032 ex1032 x1033 ex1033 x1036 ex1036 c1037 c1039 c1041 c1048 c1050)) w_416 w_450 w_426 w_427 w_18 rfl rfl (by decide +kernel) ⟨Nat.le_of_ble_eq_true rfl, Nat.le_of_ble_eq_true rfl⟩ (cs_lt 15 10 0 (by decide) hM) (cs_k 15 10 0 (by decide) hM) rfl (Nat.le_of_ble_eq_true rfl) dX4_readText_131 ⟨Nat.zero_le _, Nat.zero_le _⟩ ?_
                          refine aw_if_eq hC 143 dX4_readText_134 (by decide) (fun c1051 => ?_) (fun c1051 => ?_)
                          · refine aw_iload hC 1 dX4_readText_143 rfl ?_
                            refine aw_istore_n hC [(1, .int _), (6, .int _), (5, .int _), (4, .int _), (3, .int _), (0, .ref 13), (2, .int _)] dX4_readText_145 rfl (by decide) rfl ?_
                            refine aw_aload_n hC 5 dX4_readText_146 rfl rfl ?_
                            refine aw_iload hC 3 dX4_readText_147 rfl ?_
                            refine aw_iload hC 2 dX4_readText_149 rfl ?_
                            refine aw_cV2r hC hSt (t_X4_readThing G l hM _ _ (h27 c1001 x1003 ex1003 c1004 c1030 x1032 ex1032 x1033 ex1033 x1036 ex1036 c1037 c1039 c1041 c1048 c1050 c1051)) w_445 w_451 w_452 w_453 w_351 rfl rfl (by decide +kernel) ⟨Nat.le_of_ble_eq_true rfl, Nat.le_of_ble_eq_true rfl⟩ (cs_lt 13 4 0 (by decide) hM) (cs_k 13 4 0 (by decide) hM) rfl (Nat.le_of_ble_eq_true rfl) dX4_readText_151 ⟨Nat.zero_le _, Nat.zero_le _⟩ ?_
                            generalize er1052 : f_X4_readThing S 13 x1032 x1033 = r1052
                            have hM : CS r1052.2 := CS.of (by rw [← er1052]; exact q_X4_readThing _ _ _ _) hM
                            refine aw_if_ne hC 159 dX4_readText_154 (by decide) (fun c1053 => ?_) (fun c1053 => ?_)
                            · refine aw_iinc (v := (v2 + (1 : Int32))) hC 6 [(2, .int _), (1, .int _), (6, .int _), (5, .int _), (4, .int _), (3, .int _), (0, .ref 13)] dX4_readText_159 rfl rfl (by decide) rfl ?_
                              refine aw_goto hC 4 dX4_readText_162 (by decide) ?_
                              refine aw_sub [6, 1, 0] rfl ?_
                              have hTn := (h28 c1001 x1003 ex1003 c1004 c1030 x1032 ex1032 x1033 ex1033 x1036 ex1036 c1037 c1039 c1041 c1048 c1050 c1051 r1052 er1052 c1053)
                              have hMn : CS r1052.2 := hM
                              have E : L_X4_readText_4 (n + 1) S v1 v2 = _ := (if_neg c1001).trans ((bd_eq ex1003).trans ((if_pos c1004).trans ((if_pos c1030).trans ((bd_eq ex1032).trans ((bd_eq ex1033).trans ((bd_eq ex1036).trans ((if_neg c1037).trans ((if_neg c1039).trans ((if_neg c1041).trans ((if_neg c1048).trans ((if_pos c1050).trans ((if_pos c1051).trans ((bd_eq er1052).trans ((if_neg c1053).trans (rfl)))))))))))))))
                              rw [E] at hk hr
                              exact ih _ _ _ hMn hTn hr hk
                            · refine aw_iconst (v := 0) hC dX4_readText_157 (by decide) ?_
                              refine aw_zret hC dX4_readText_158 (Nat.le_refl _) (Nat.le_refl _) (by decide) ?_
                              have E : L_X4_readText_4 (n + 1) S v1 v2 = _ := (if_neg c1001).trans ((bd_eq ex1003).trans ((if_pos c1004).trans ((if_pos c1030).trans ((bd_eq ex1032).trans ((bd_eq ex1033).trans ((bd_eq ex1036).trans ((if_neg c1037).trans ((if_neg c1039).trans ((if_neg c1041).trans ((if_neg c1048).trans ((if_pos c1050).trans ((if_pos c1051).trans ((bd_eq er1052).trans ((if_pos c1053).trans (rfl)))))))))))))))
                              rw [E] at hr
                              exact hr rfl
                          · refine aw_aload_n hC 4 dX4_readText_137 rfl rfl ?_
                            refine aw_iconst (v := 3) hC dX4_readText_138 (by decide) ?_
                            refine aw_cV1r hC hSt (t_X4_fail G l hM _) w_417 w_432 w_433 w_434 w_351 rfl rfl (by decide +kernel) ⟨Nat.le_of_ble_eq_true rfl, Nat.le_of_ble_eq_true rfl⟩ (cs_lt 13 4 0 (by decide) hM) (cs_k 13 4 0 (by decide) hM) rfl (Nat.le_of_ble_eq_true rfl) dX4_readText_139 ⟨Nat.zero_le _, Nat.zero_le _⟩ ?_
                            generalize er1054 : f_X4_fail S 13 (3 : Int32) = r1054
                            have hM : CS r1054.2 := CS.of (by rw [← er1054]; exact q_X4_fail _ _ _) hM
                            refine aw_zret hC dX4_readText_142 (Nat.le_refl _) (Nat.le_refl _) (Bz.n (h29 c1001 x1003 ex1003 c1004 c1030 x1032 ex1032 x1033 ex1033 x1036 ex1036 c1037 c1039 c1041 c1048 c1050 c1051 r1054 er1054)) ?_
                            have E : L_X4_readText_4 (n + 1) S v1 v2 = _ := (if_neg c1001).trans ((bd_eq ex1003).trans ((if_pos c1004).trans ((if_pos c1030).trans ((bd_eq ex1032).trans ((bd_eq ex1033).trans ((bd_eq ex1036).trans ((if_neg c1037).trans ((if_neg c1039).trans ((if_neg c1041).trans ((if_neg c1048).trans ((if_pos c1050).trans ((if_neg c1051).trans ((bd_eq er1054).trans (rfl))))))))))))))
                            rw [E] at hr
                            exact hr rfl
                        · refine aw_aload_n hC 4 dX4_readText_119 rfl rfl ?_
                          refine aw_iconst (v := 1) hC dX4_readText_120 (by decide) ?_
                          refine aw_cV1r hC hSt (t_X4_fail G l hM _) w_417 w_432 w_433 w_434 w_351 rfl rfl (by decide +kernel) ⟨Nat.le_of_ble_eq_true rfl, Nat.le_of_ble_eq_true rfl⟩ (cs_lt 13 4 0 (by decide) hM) (cs_k 13 4 0 (by decide) hM) rfl (Nat.le_of_ble_eq_true rfl) dX4_readText_121 ⟨Nat.zero_le _, Nat.zero_le _⟩ ?_
                          generalize er1055 : f_X4_fail S 13 (1 : Int32) = r1055
                          have hM : CS r1055.2 := CS.of (by rw [← er1055]; exact q_X4_fail _ _ _) hM
                          refine aw_zret hC dX4_readText_124 (Nat.le_refl _) (Nat.le_refl _) (Bz.n (h30 c1001 x1003 ex1003 c1004 c1030 x1032 ex1032 x1033 ex1033 x1036 ex1036 c1037 c1039 c1041 c1048 c1050 r1055 er1055)) ?_
                          have E : L_X4_readText_4 (n + 1) S v1 v2 = _ := (if_neg c1001).trans ((bd_eq ex1003).trans ((if_pos c1004).trans ((if_pos c1030).trans ((bd_eq ex1032).trans ((bd_eq ex1033).trans ((bd_eq ex1036).trans ((if_neg c1037).trans ((if_neg c1039).trans ((if_neg c1041).trans ((if_neg c1048).trans ((if_neg c1050).trans ((bd_eq er1055).trans (rfl)))))))))))))
                          rw [E] at hr
                          exact hr rfl
              · refine aw_icmp_ne hC 89 dX4_readText_71 (by decide) (fun c1034 => ?_) (fun c1034 => ?_)
                · refine aw_iconst (v := 0) hC dX4_readText_89 (by decide) ?_
                  simp only [bd_def, if_neg c1034] at Jc1034 ⊢
                  exact Jc1034
                · refine aw_aload_n hC 3 dX4_readText_74 rfl rfl ?_
                  refine aw_getP (b := 15) hC hSt 1 (cs_lt 13 4 0 (by decide) hM) (cs_k 13 4 0 (by decide) hM) rfl (by decide) w_325 rfl (cs_p 13 1 15 (by decide) hM) dX4_readText_75 ?_
                  refine aw_iconst (v := 4) hC dX4_readText_78 (by decide) ?_
                  refine aw_cV1r hC hSt (t_X10_isFull G l hM _ _ (by decide) (h17 c1001 x1003 ex1003 c1004 c1030 x1032 ex1032 x1033 ex1033 c1034)) w_416 w_450 w_426 w_427 w_18 rfl rfl (by decide +kernel) ⟨Nat.le_of_ble_eq_true rfl, Nat.le_of_ble_eq_true rfl⟩ (cs_lt 15 10 0 (by decide) hM) (cs_k 15 10 0 (by decide) hM) rfl (Nat.le_of_ble_eq_true rfl) dX4_readText_79 ⟨Nat.zero_le _, Nat.zero_le _⟩ ?_
                  refine aw_if_eq hC 89 dX4_readText_82 (by decide) (fun c1035 => ?_) (fun c1035 => ?_)
                  · refine aw_iconst (v := 0) hC dX4_readText_89 (by decide) ?_
                    simp only [bd_def, if_pos c1034, if_pos c1035] at Jc1034 ⊢
                    exact Jc1034
                  · refine aw_iconst (v := 1) hC dX4_readText_85 (by decide) ?_
                    refine aw_goto hC 90 dX4_readText_86 (by decide) ?_
                    simp only [bd_def, if_pos c1034, if_neg c1035] at Jc1034 ⊢
                    exact Jc1034
            · refine aw_icmp_ne hC 56 dX4_readText_46 (by decide) (fun c1031 => ?_) (fun c1031 => ?_)
              · refine aw_bipush (v := 10) hC dX4_readText_56 (by decide) ?_
                simp only [bd_def, if_neg c1031] at Jc1031 ⊢
                exact Jc1031
              · refine aw_aload_n hC 1 dX4_readText_49 rfl rfl ?_
                refine aw_cV0r hC hSt (t_X4_wordHere G l hM  (h16 c1001 x1003 ex1003 c1004 c1030 c1031)) w_415 w_447 w_448 w_449 w_351 rfl rfl (by decide +kernel) ⟨Nat.le_of_ble_eq_true rfl, Nat.le_of_ble_eq_true rfl⟩ (cs_lt 13 4 0 (by decide) hM) (cs_k 13 4 0 (by decide) hM) rfl (Nat.le_of_ble_eq_true rfl) dX4_readText_50 ⟨Nat.zero_le _, Nat.zero_le _⟩ ?_
                refine aw_goto hC 58 dX4_readText_53 (by decide) ?_
                simp only [bd_def, if_pos c1031] at Jc1031 ⊢
                exact Jc1031
          · refine aw_iconst (v := 1) hC dX4_readText_39 (by decide) ?_
            refine aw_zret hC dX4_readText_40 (Nat.le_refl _) (Nat.le_refl _) (by decide) ?_
            have E : L_X4_readText_4 (n + 1) S v1 v2 = _ := (if_neg c1001).trans ((bd_eq ex1003).trans ((if_pos c1004).trans ((if_neg c1030).trans (rfl))))
            rw [E] at hr
            exact hr rfl
      · refine aw_if_le hC 26 dX4_readText_19 (by decide) (fun c1002 => ?_) (fun c1002 => ?_)
        · refine aw_iconst (v := 0) hC dX4_readText_26 (by decide) ?_
          simp only [bd_def, if_pos c1002] at Jc1002 ⊢
          exact Jc1002
        · refine aw_iconst (v := 1) hC dX4_readText_22 (by decide) ?_
          refine aw_goto hC 27 dX4_readText_23 (by decide) ?_
          simp only [bd_def, if_neg c1002] at Jc1002 ⊢
          exact Jc1002
noncomputable def f_X4_readText (S : HSt) (_o0 : Nat) : Int32 × HSt := bd (L_X4_readText_4 1000 S (0 : Int32) (0 : Int32)) fun r1 => if r1.1 = 1 then (pr (r1.2.1) (r1.2.2.2.2)) else (pr ((0 : Int32)) (r1.2.2.2.2))
def p_X4_readText (S : HSt) (_o0 : Nat) : Prop := (T_X4_readText_4 1000 S (0 : Int32) (0 : Int32))
set_option maxRecDepth 100000 in
theorem t_X4_readText (G : GG) (l : Launch) {S : HSt} (hM : CS S)   (hp : p_X4_readText S 13) : AM G l yX4_readText cX4_readText 7 (some .boolean) (rmD 6 0 0) 0 0 [.ref 13] S (FP (some (.int (f_X4_readText S 13).1)) ((f_X4_readText S 13).2)) := by
  have h0 := hp
  unfold p_X4_readText at h0
  refine AM.mk (by decide) (Nat.le_of_ble_eq_true rfl) ?_
  intro p e s m below meth c hC hSt _
  refine aw_iconst (v := 0) hC dX4_readText_0 (by decide) ?_
  refine aw_istore_n hC [(1, .int _), (0, .ref 13)] dX4_readText_1 rfl (by decide) rfl ?_
  refine aw_iconst (v := 0) hC dX4_readText_2 (by decide) ?_
  refine aw_istore_n hC [(2, .int _), (1, .int _), (0, .ref 13)] dX4_readText_3 rfl (by decide) rfl ?_
  refine aw_sub [2, 1, 0] rfl ?_
  refine l_X4_readText_4 hC hSt 1000 _ _ _ hM (h0) (fun c2 => ?_) (fun c2 => ?_)
  · revert c2
    generalize er1 : L_X4_readText_4 1000 S (0 : Int32) (0 : Int32) = r1
    intro c2
    exact FP.qI ((bd_eq er1).trans ((if_pos c2).trans (rfl)))
  · revert c2
    generalize er1 : L_X4_readText_4 1000 S (0 : Int32) (0 : Int32) = r1
    have hM : CS r1.2.2.2.2 := CS.of (by rw [← er1]; exact qL_X4_readText_4 _ _ _ _) hM
    intro c2
    refine aw_iconst (v := 0) hC dX4_readText_165 (by decide) ?_
    refine aw_zret hC dX4_readText_166 (Nat.le_refl _) (Nat.le_refl _) (by decide) ?_
    exact FP.qI ((bd_eq er1).trans ((if_neg c2).trans (rfl)))
theorem q_X4_readText (S : HSt) (_o0 : Nat) : shp ((f_X4_readText S _o0).2) = shp S := by
  unfold f_X4_readText
  repeat' (first | with_reducible refine shpr1 ?_ | with_reducible rfl | with_reducible refine (q_X4_fail _ _ _).trans ?_ | with_reducible refine (q_X4_readThing _ _ _ _).trans ?_ | with_reducible refine (qL_X4_readText_4 _ _ _ _).trans ?_ | with_reducible refine (shp_sI _ _ _ _).trans ?_ | with_reducible refine (shp_sJ _ _ _ _).trans ?_ | with_reducible refine (shp_rI _ _ _).trans ?_ | with_reducible refine shi ?_ ?_ | with_reducible refine shb (fun _ _ => ?_) | with_reducible refine shiP (fun q : Int32 × HSt => q.2) ?_ ?_ | with_reducible refine shbP (fun q : Int32 × HSt => q.2) (fun _ _ => ?_) | (subst_vars; with_reducible rfl) | (subst_vars; with_reducible refine (q_X4_fail _ _ _).trans ?_) | (subst_vars; with_reducible refine (q_X4_readThing _ _ _ _).trans ?_) | (subst_vars; with_reducible refine (qL_X4_readText_4 _ _ _ _).trans ?_) | (subst_vars; with_reducible refine (shp_sI _ _ _ _).trans ?_) | (subst_vars; with_reducible refine (shp_sJ _ _ _ _).trans ?_) | (subst_vars; with_reducible refine (shp_rI _ _ _).trans ?_) | (subst_vars; with_reducible refine shi ?_ ?_) | (subst_vars; with_reducible refine shb (fun _ _ => ?_)))
theorem v_X4_readText (S : HSt) (_o0 : Nat) : Fr [(13, 3), (13, 4), (13, 5), (13, 6), (13, 7), (13, 8), (16, 1000), (17, 1000)] S ((f_X4_readText S _o0).2) := by
  unfold f_X4_readText
  repeat' (first | with_reducible refine frpr1 ?_ | with_reducible exact Fr.refl _ _ | with_reducible refine Fr.lP (fun q : Int32 × HSt => q.2) (fun _ _ => ?_) | with_reducible refine Fr.iteP (fun q : Int32 × HSt => q.2) ?_ ?_ | with_reducible refine Fr.l1 (fun _ _ => ?_) | with_reducible refine Fr.ite ?_ ?_ | with_reducible refine Fr.sE (by assumption) (by first | decide | simp only [List.mem_cons, List.not_mem_nil, or_false, true_or, or_true, eq_self_iff_true]) ?_ | with_reducible refine Fr.jE (by assumption) ?_ | with_reducible refine Fr.rE (by assumption) (by first | decide | simp only [List.mem_cons, List.not_mem_nil, or_false, true_or, or_true, eq_self_iff_true]) ?_ | with_reducible refine Fr.iE (by assumption) ?_ ?_ | with_reducible refine Fr.tr (w_X4_fail _ _ _ _ (by assumption)) (by first | decide | simp only [List.mem_cons, List.not_mem_nil, or_false, forall_eq_or_imp, forall_eq, true_or, or_true, and_self, eq_self_iff_true]) ?_ | with_reducible refine Fr.tr (w_X4_readThing _ _ _ _ _ (by assumption)) (by first | decide | simp only [List.mem_cons, List.not_mem_nil, or_false, forall_eq_or_imp, forall_eq, true_or, or_true, and_self, eq_self_iff_true]) ?_ | with_reducible refine Fr.tr (wL_X4_readText_4 _ _ _ _ _ (by assumption)) (by first | decide | simp only [List.mem_cons, List.not_mem_nil, or_false, forall_eq_or_imp, forall_eq, true_or, or_true, and_self, eq_self_iff_true]) ?_)
theorem w_X4_readText (S : HSt) (_o0 : Nat) (r : Int32 × HSt) (e : f_X4_readText S _o0 = r) : Fr [(13, 3), (13, 4), (13, 5), (13, 6), (13, 7), (13, 8), (16, 1000), (17, 1000)] S r.2 := by
  rw [← e]
  exact v_X4_readText S _o0
noncomputable def f_X4_read (S : HSt) (_o0 : Nat) : Int32 × HSt := bd (f_X10_clear S 15) fun r1 => bd ((sI r1 13 5 (0 : Int32))) fun S2 => bd (f_X4_next S2 13) fun r3 => bd (f_X4_readText r3 13) fun r4 => bd (r4.1) fun x5 => bd ((sI r4.2 13 2 (0 : Int32))) fun S6 => pr (x5) (S6)
def p_X4_read (S : HSt) (_o0 : Nat) : Prop := (p_X10_clear S 15) ∧ (∀ r1, f_X10_clear S 15 = r1 → ∀ S2 : HSt, (sI r1 13 5 (0 : Int32)) = S2 → p_X4_next S2 13) ∧ (∀ r1, f_X10_clear S 15 = r1 → ∀ S2 : HSt, (sI r1 13 5 (0 : Int32)) = S2 → ∀ r3, f_X4_next S2 13 = r3 → p_X4_readText r3 13) ∧ (∀ r1, f_X10_clear S 15 = r1 → ∀ S2 : HSt, (sI r1 13 5 (0 : Int32)) = S2 → ∀ r3, f_X4_next S2 13 = r3 → ∀ r4, f_X4_readText r3 13 = r4 → ∀ x5 : Int32, r4.1 = x5 → ∀ S6 : HSt, (sI r4.2 13 2 (0 : Int32)) = S6 → Bz x5)
set_option maxRecDepth 100000 in
theorem t_X4_read (G : GG) (l : Launch) {S : HSt} (hM : CS S)   (hp : p_X4_read S 13) : AM G l yX4_read cX4_read 2 (some .boolean) (rmD 7 0 0) 0 0 [.ref 13] S (FP (some (.int (f_X4_read S 13).1)) ((f_X4_read S 13).2)) := by
  obtain ⟨h0, h1, h2, h3⟩ := hp
  refine AM.mk (by decide) (Nat.le_of_ble_eq_true rfl) ?_
  intro p e s m below meth c hC hSt _
  refine aw_aload_n hC 0 dX4_read_0 rfl rfl ?_
  refine aw_getP (b := 15) hC hSt 1 (cs_lt 13 4 0 (by decide) hM) (cs_k 13 4 0 (by decide) hM) rfl (by decide) w_325 rfl (cs_p 13 1 15 (by decide) hM) dX4_read_1 ?_
  refine aw_cV0v hC hSt (t_X10_clear G l hM _ (by decide) (h0)) w_336 w_455 w_456 w_457 w_18 rfl rfl (by decide +kernel) ⟨Nat.le_of_ble_eq_true rfl, Nat.le_of_ble_eq_true rfl⟩ (cs_lt 15 10 0 (by decide) hM) (cs_k 15 10 0 (by decide) hM) rfl (Nat.le_of_ble_eq_true rfl) dX4_read_4 ⟨Nat.zero_le _, Nat.zero_le _⟩ ?_
  generalize er1 : f_X10_clear S 15 = r1
  have hM : CS r1 := CS.of (by rw [← er1]; exact q_X10_clear _ _) hM
  refine aw_aload_n hC 0 dX4_read_7 rfl rfl ?_
  refine aw_iconst (v := 0) hC dX4_read_8 (by decide) ?_
  refine aw_putI hC hSt 5 (cs_lt 13 4 0 (by decide) hM) (cs_k 13 4 0 (by decide) hM) rfl (by decide) w_345 rfl rfl rfl rfl dX4_read_9 ?_
  generalize eS2 : (sI r1 13 5 (0 : Int32)) = S2
  have hM : CS S2 := CS.of (by rw [← eS2]; exact shp_sI _ _ _ _) hM
  refine aw_aload_n hC 0 dX4_read_12 rfl rfl ?_
  refine aw_cV0v hC hSt (t_X4_next G l hM  (h1 r1 er1 S2 eS2)) w_352 w_429 w_430 w_431 w_351 rfl rfl (by decide +kernel) ⟨Nat.le_of_ble_eq_true rfl, Nat.le_of_ble_eq_true rfl⟩ (cs_lt 13 4 0 (by decide) hM) (cs_k 13 4 0 (by decide) hM) rfl (Nat.le_of_ble_eq_true rfl) dX4_read_13 ⟨Nat.zero_le _, Nat.zero_le _⟩ ?_
  generalize er3 : f_X4_next S2 13 = r3
  have hM : CS r3 := CS.of (by rw [← er3]; exact q_X4_next _ _) hM
  refine aw_aload_n hC 0 dX4_read_16 rfl rfl ?_
  refine aw_cV0r hC hSt (t_X4_readText G l hM  (h2 r1 er1 S2 eS2 r3 er3)) w_454 w_458 w_459 w_460 w_351 rfl rfl (by decide +kernel) ⟨Nat.le_of_ble_eq_true rfl, Nat.le_of_ble_eq_true rfl⟩ (cs_lt 13 4 0 (by decide) hM) (cs_k 13 4 0 (by decide) hM) rfl (Nat.le_of_ble_eq_true rfl) dX4_read_17 ⟨Nat.zero_le _, Nat.zero_le _⟩ ?_
  generalize er4 : f_X4_readText r3 13 = r4
  have hM : CS r4.2 := CS.of (by rw [← er4]; exact q_X4_readText _ _) hM
  refine aw_istore_n hC [(1, .int _), (0, .ref 13)] dX4_read_20 rfl (by decide) rfl ?_
  generalize ex5 : r4.1 = x5
  refine aw_aload_n hC 1 dX4_read_21 rfl rfl ?_
  refine aw_iconst (v := 0) hC dX4_read_22 (by decide) ?_
  refine aw_putI hC hSt 2 (cs_lt 13 4 0 (by decide) hM) (cs_k 13 4 0 (by decide) hM) rfl (by decide) w_328 rfl rfl rfl rfl dX4_read_23 ?_
  generalize eS6 : (sI r4.2 13 2 (0 : Int32)) = S6
  have hM : CS S6 := CS.of (by rw [← eS6]; exact shp_sI _ _ _ _) hM
  refine aw_iload_n hC 0 dX4_read_26 rfl rfl ?_
  refine aw_zret hC dX4_read_27 (Nat.le_refl _) (Nat.le_refl _) (Bz.n (h3 r1 er1 S2 eS2 r3 er3 r4 er4 x5 ex5 S6 eS6)) ?_
  exact FP.qI ((bd_eq er1).trans ((bd_eq eS2).trans ((bd_eq er3).trans ((bd_eq er4).trans ((bd_eq ex5).trans ((bd_eq eS6).trans (rfl)))))))
theorem q_X4_read (S : HSt) (_o0 : Nat) : shp ((f_X4_read S _o0).2) = shp S := by
  unfold f_X4_read
  repeat' (first | with_reducible refine shpr1 ?_ | with_reducible rfl | with_reducible refine (q_X10_clear _ _).trans ?_ | with_reducible refine (q_X4_next _ _).trans ?_ | with_reducible refine (q_X4_readText _ _).trans ?_ | with_reducible refine (shp_sI _ _ _ _).trans ?_ | with_reducible refine (shp_sJ _ _ _ _).trans ?_ | with_reducible refine (shp_rI _ _ _).trans ?_ | with_reducible refine shi ?_ ?_ | with_reducible refine shb (fun _ _ => ?_) | with_reducible refine shiP (fun q : Int32 × HSt => q.2) ?_ ?_ | with_reducible refine shbP (fun q : Int32 × HSt => q.2) (fun _ _ => ?_) | (subst_vars; with_reducible rfl) | (subst_vars; with_reducible refine (q_X10_clear _ _).trans ?_) | (subst_vars; with_reducible refine (q_X4_next _ _).trans ?_) | (subst_vars; with_reducible refine (q_X4_readText _ _).trans ?_) | (subst_vars; with_reducible refine (shp_sI _ _ _ _).trans ?_) | (subst_vars; with_reducible refine (shp_sJ _ _ _ _).trans ?_) | (subst_vars; with_reducible refine (shp_rI _ _ _).trans ?_) | (subst_vars; with_reducible refine shi ?_ ?_) | (subst_vars; with_reducible refine shb (fun _ _ => ?_)))
theorem v_X4_read (S : HSt) (_o0 : Nat) : Fr [(13, 2), (13, 3), (13, 4), (13, 5), (13, 6), (13, 7), (13, 8), (16, 1000), (17, 1000)] S ((f_X4_read S _o0).2) := by
  unfold f_X4_read
  repeat' (first | with_reducible refine frpr1 ?_ | with_reducible exact Fr.refl _ _ | with_reducible refine Fr.lP (fun q : Int32 × HSt => q.2) (fun _ _ => ?_) | with_reducible refine Fr.iteP (fun q : Int32 × HSt => q.2) ?_ ?_ | with_reducible refine Fr.l1 (fun _ _ => ?_) | with_reducible refine Fr.ite ?_ ?_ | with_reducible refine Fr.sE (by assumption) (by first | decide | simp only [List.mem_cons, List.not_mem_nil, or_false, true_or, or_true, eq_self_iff_true]) ?_ | with_reducible refine Fr.jE (by assumption) ?_ | with_reducible refine Fr.rE (by assumption) (by first | decide | simp only [List.mem_cons, List.not_mem_nil, or_false, true_or, or_true, eq_self_iff_true]) ?_ | with_reducible refine Fr.iE (by assumption) ?_ ?_ | with_reducible refine Fr.tr (w_X10_clear _ _ _ (by assumption)) (by first | decide | simp only [List.mem_cons, List.not_mem_nil, or_false, forall_eq_or_imp, forall_eq, true_or, or_true, and_self, eq_self_iff_true]) ?_ | with_reducible refine Fr.tr (w_X4_next _ _ _ (by assumption)) (by first | decide | simp only [List.mem_cons, List.not_mem_nil, or_false, forall_eq_or_imp, forall_eq, true_or, or_true, and_self, eq_self_iff_true]) ?_ | with_reducible refine Fr.tr (w_X4_readText _ _ _ (by assumption)) (by first | decide | simp only [List.mem_cons, List.not_mem_nil, or_false, forall_eq_or_imp, forall_eq, true_or, or_true, and_self, eq_self_iff_true]) ?_)
theorem w_X4_read (S : HSt) (_o0 : Nat) (r : Int32 × HSt) (e : f_X4_read S _o0 = r) : Fr [(13, 2), (13, 3), (13, 4), (13, 5), (13, 6), (13, 7), (13, 8), (16, 1000), (17, 1000)] S r.2 := by
  rw [← e]
  exact v_X4_read S _o0
noncomputable def F_X8_placeOf (S : HSt) (a1 : Int32) (a2 : Int32) : Int32 × HSt := pr (((a1 * (6 : Int32)) + a2)) (S)
noncomputable def f_X8_placeOf (S : HSt) (a1 : Int32) (a2 : Int32) : Int32 := (F_X8_placeOf S a1 a2).1
set_option maxRecDepth 100000 in
theorem t_X8_placeOf (G : GG) (l : Launch) {S : HSt} (a1 : Int32) (a2 : Int32)   : AM G l yX8_placeOf cX8_placeOf 2 (some .int) (rmD 0 0 0) 0 0 [.int a1, .int a2] S (FP (some (.int (f_X8_placeOf S a1 a2))) (S)) := by
  refine AM.mk (by decide) (Nat.le_of_ble_eq_true rfl) ?_
  intro p e s m below meth c hC hSt _
  refine aw_iload_n hC 0 dX8_placeOf_0 rfl rfl ?_
  refine aw_bipush (v := 6) hC dX8_placeOf_1 (by decide) ?_
  refine aw_imul hC dX8_placeOf_3 ?_
  refine aw_iload_n hC 1 dX8_placeOf_4 rfl rfl ?_
  refine aw_iadd hC dX8_placeOf_5 ?_
  refine aw_iret hC dX8_placeOf_6 (Nat.le_refl _) (Nat.le_refl _) ?_
  exact FP.pI (rfl)
noncomputable def F_X8_showLength (S : HSt) (_o0 : Nat) : Int32 × HSt := pr ((gI S 38 4)) (S)
noncomputable def f_X8_showLength (S : HSt) (_o0 : Nat) : Int32 := (F_X8_showLength S _o0).1
set_option maxRecDepth 100000 in
theorem t_X8_showLength (G : GG) (l : Launch) {S : HSt} (hM : CS S)    : AM G l yX8_showLength cX8_showLength 1 (some .int) (rmD 0 0 0) 0 0 [.ref 38] S (FP (some (.int (f_X8_showLength S 38))) (S)) := by
  refine AM.mk (by decide) (Nat.le_of_ble_eq_true rfl) ?_
  intro p e s m below meth c hC hSt _
  refine aw_aload_n hC 0 dX8_showLength_0 rfl rfl ?_
  refine aw_getI hC hSt 4 (cs_lt 38 8 0 (by decide) hM) (cs_k 38 8 0 (by decide) hM) rfl (by decide) w_633 rfl dX8_showLength_1 ?_
  refine aw_iret hC dX8_showLength_4 (Nat.le_refl _) (Nat.le_refl _) ?_
  exact FP.pI (rfl)
noncomputable def F_X8_formAt (S : HSt) (_o0 : Nat) (a1 : Int32) : Int32 × HSt := bd ((if a1 < 0 then (-1000000 : Int32) else (if (gI S 38 4) ≤ a1 then (-1000000 : Int32) else (gI S 40 a1.toNatClampNeg)))) fun x3 => pr (x3) (S)
noncomputable def f_X8_formAt (S : HSt) (_o0 : Nat) (a1 : Int32) : Int32 := (F_X8_formAt S _o0 a1).1
def p_X8_formAt (S : HSt) (_o0 : Nat) (a1 : Int32) : Prop := ((¬ a1 < 0) → (¬ (gI S 38 4) ≤ a1) → vp_in a1 6)
set_option maxRecDepth 100000 in
theorem t_X8_formAt (G : GG) (l : Launch) {S : HSt} (hM : CS S) (a1 : Int32)  (hp : p_X8_formAt S 38 a1) : AM G l yX8_formAt cX8_formAt 2 (some .int) (rmD 0 0 0) 0 0 [.ref 38, .int a1] S (FP (some (.int (f_X8_formAt S 38 a1))) (S)) := by
  have h0 := hp
  unfold p_X8_formAt at h0
  refine AM.mk (by decide) (Nat.le_of_ble_eq_true rfl) ?_
  intro p e s m below meth c hC hSt _
  refine aw_iload_n hC 1 dX8_formAt_0 rfl rfl ?_
  refine aw_cut (S' := S) (pc' := 23) (lv' := [(0, .ref 38), (1, .int a1)]) (st' := [.int (if a1 < 0 then (-1000000 : Int32) else (if (gI S 38 4) ≤ a1 then (-1000000 : Int32) else (gI S 40 a1.toNatClampNeg)))]) ?_ (fun Jc1 => ?_)
  · generalize ex3 : (if a1 < 0 then (-1000000 : Int32) else (if (gI S 38 4) ≤ a1 then (-1000000 : Int32) else (gI S 40 a1.toNatClampNeg))) = x3
    refine aw_iret hC dX8_formAt_23 (Nat.le_refl _) (Nat.le_refl _) ?_
    exact FP.pI ((bd_eq ex3).trans (rfl))
  · refine aw_if_lt hC 21 dX8_formAt_1 (by decide) (fun c1 => ?_) (fun c1 => ?_)
    · refine aw_ldc (v := -1000000) hC w_626 dX8_formAt_21 ?_
      simp only [bd_def, if_pos c1] at Jc1 ⊢
      exact Jc1
    · refine aw_iload_n hC 1 dX8_formAt_4 rfl rfl ?_
      refine aw_aload_n hC 0 dX8_formAt_5 rfl rfl ?_
      refine aw_getI hC hSt 4 (cs_lt 38 8 0 (by decide) hM) (cs_k 38 8 0 (by decide) hM) rfl (by decide) w_633 rfl dX8_formAt_6 ?_
      refine aw_icmp_ge hC 21 dX8_formAt_9 (by decide) (fun c2 => ?_) (fun c2 => ?_)
      · refine aw_ldc (v := -1000000) hC w_626 dX8_formAt_21 ?_
        simp only [bd_def, if_neg c1, if_pos c2] at Jc1 ⊢
        exact Jc1
      · refine aw_aload_n hC 0 dX8_formAt_12 rfl rfl ?_
        refine aw_getP (b := 40) hC hSt 1 (cs_lt 38 8 0 (by decide) hM) (cs_k 38 8 0 (by decide) hM) rfl (by decide) w_615 rfl (cs_p 38 1 40 (by decide) hM) dX8_formAt_13 ?_
        refine aw_iload_n hC 1 dX8_formAt_16 rfl rfl ?_
        refine aw_iald hC hSt (cs_lt 40 14 6 (by decide) hM) (cs_k 40 14 6 (by decide) hM) (vp_len (n := 6) (cs_l 40 14 6 (by decide) hM) (h0 c1 c2)) dX8_formAt_17 ?_
        refine aw_goto hC 23 dX8_formAt_18 (by decide) ?_
        simp only [bd_def, if_neg c1, if_neg c2] at Jc1 ⊢
        exact Jc1
noncomputable def F_X8_areNear (S : HSt) (w1 : Nat) (a2 : Int32) (a3 : Int32) (a4 : Int32) (a5 : Int32) : Int32 × HSt := bd ((f_X10_value S w1 (3 : Int32) a2 a4)) fun x1 => bd ((f_X10_value S w1 (3 : Int32) a2 (a4 + (1 : Int32)))) fun x2 => bd ((f_X10_value S w1 (3 : Int32) a3 a4)) fun x3 => bd ((f_X10_value S w1 (3 : Int32) a3 (a4 + (1 : Int32)))) fun x4 => bd ((if a5 < (x3 - x2) then (0 : Int32) else (if a5 < (x1 - x4) then (0 : Int32) else (1 : Int32)))) fun x7 => pr (x7) (S)
noncomputable def f_X8_areNear (S : HSt) (w1 : Nat) (a2 : Int32) (a3 : Int32) (a4 : Int32) (a5 : Int32) : Int32 := (F_X8_areNear S w1 a2 a3 a4 a5).1
def p_X8_areNear (S : HSt) (w1 : Nat) (a2 : Int32) (a3 : Int32) (a4 : Int32) (a5 : Int32) : Prop := (p_X10_value S w1 (3 : Int32) a2 a4) ∧ (∀ x1 : Int32, (f_X10_value S w1 (3 : Int32) a2 a4) = x1 → p_X10_value S w1 (3 : Int32) a2 (a4 + (1 : Int32))) ∧ (∀ x1 : Int32, (f_X10_value S w1 (3 : Int32) a2 a4) = x1 → ∀ x2 : Int32, (f_X10_value S w1 (3 : Int32) a2 (a4 + (1 : Int32))) = x2 → p_X10_value S w1 (3 : Int32) a3 a4) ∧ (∀ x1 : Int32, (f_X10_value S w1 (3 : Int32) a2 a4) = x1 → ∀ x2 : Int32, (f_X10_value S w1 (3 : Int32) a2 (a4 + (1 : Int32))) = x2 → ∀ x3 : Int32, (f_X10_value S w1 (3 : Int32) a3 a4) = x3 → p_X10_value S w1 (3 : Int32) a3 (a4 + (1 : Int32)))
set_option maxRecDepth 100000 in
theorem t_X8_areNear (G : GG) (l : Launch) {S : HSt} (hM : CS S) (w1 : Nat) (a2 : Int32) (a3 : Int32) (a4 : Int32) (a5 : Int32) (hw1 : (w1, 10, 0) ∈ cKT) (hp : p_X8_areNear S w1 a2 a3 a4 a5) : AM G l yX8_areNear cX8_areNear 9 (some .boolean) (rmD 1 0 0) 0 0 [.ref w1, .int a2, .int a3, .int a4, .int a5] S (FP (some (.int (f_X8_areNear S w1 a2 a3 a4 a5))) (S)) := by
  obtain ⟨h0, h1, h2, h3⟩ := hp
  refine AM.mk (by decide) (Nat.le_of_ble_eq_true rfl) ?_
  intro p e s m below meth c hC hSt _
  refine aw_aload_n hC 0 dX8_areNear_0 rfl rfl ?_
  refine aw_iconst (v := 3) hC dX8_areNear_1 (by decide) ?_
  refine aw_iload_n hC 1 dX8_areNear_2 rfl rfl ?_
  refine aw_iload_n hC 3 dX8_areNear_3 rfl rfl ?_
  refine aw_cV3r hC hSt (t_X10_value G l hM _ _ _ _ hw1 (h0)) w_10 w_621 w_16 w_17 w_18 rfl rfl (by decide +kernel) ⟨Nat.le_of_ble_eq_true rfl, Nat.le_of_ble_eq_true rfl⟩ (cs_lt w1 10 0 hw1 hM) (cs_k w1 10 0 hw1 hM) rfl (Nat.le_of_ble_eq_true rfl) dX8_areNear_4 ⟨Nat.zero_le _, Nat.zero_le _⟩ ?_
  refine aw_istore hC [(5, .int _), (0, .ref w1), (1, .int _), (2, .int _), (3, .int _), (4, .int _)] dX8_areNear_7 (by decide) rfl ?_
  generalize ex1 : (f_X10_value S w1 (3 : Int32) a2 a4) = x1
  refine aw_aload_n hC 1 dX8_areNear_9 rfl rfl ?_
  refine aw_iconst (v := 3) hC dX8_areNear_10 (by decide) ?_
  refine aw_iload_n hC 2 dX8_areNear_11 rfl rfl ?_
  refine aw_iload_n hC 4 dX8_areNear_12 rfl rfl ?_
  refine aw_iconst (v := 1) hC dX8_areNear_13 (by decide) ?_
  refine aw_iadd hC dX8_areNear_14 ?_
  refine aw_cV3r hC hSt (t_X10_value G l hM _ _ _ _ hw1 (h1 x1 ex1)) w_10 w_621 w_16 w_17 w_18 rfl rfl (by decide +kernel) ⟨Nat.le_of_ble_eq_true rfl, Nat.le_of_ble_eq_true rfl⟩ (cs_lt w1 10 0 hw1 hM) (cs_k w1 10 0 hw1 hM) rfl (Nat.le_of_ble_eq_true rfl) dX8_areNear_15 ⟨Nat.zero_le _, Nat.zero_le _⟩ ?_
  refine aw_istore hC [(6, .int _), (5, .int _), (0, .ref w1), (1, .int _), (2, .int _), (3, .int _), (4, .int _)] dX8_areNear_18 (by decide) rfl ?_
  generalize ex2 : (f_X10_value S w1 (3 : Int32) a2 (a4 + (1 : Int32))) = x2
  refine aw_aload_n hC 2 dX8_areNear_20 rfl rfl ?_
  refine aw_iconst (v := 3) hC dX8_areNear_21 (by decide) ?_
  refine aw_iload_n hC 4 dX8_areNear_22 rfl rfl ?_
  refine aw_iload_n hC 5 dX8_areNear_23 rfl rfl ?_
  refine aw_cV3r hC hSt (t_X10_value G l hM _ _ _ _ hw1 (h2 x1 ex1 x2 ex2)) w_10 w_621 w_16 w_17 w_18 rfl rfl (by decide +kernel) ⟨Nat.le_of_ble_eq_true rfl, Nat.le_of_ble_eq_true rfl⟩ (cs_lt w1 10 0 hw1 hM) (cs_k w1 10 0 hw1 hM) rfl (Nat.le_of_ble_eq_true rfl) dX8_areNear_24 ⟨Nat.zero_le _, Nat.zero_le _⟩ ?_
  refine aw_istore hC [(7, .int _), (6, .int _), (5, .int _), (0, .ref w1), (1, .int _), (2, .int _), (3, .int _), (4, .int _)] dX8_areNear_27 (by decide) rfl ?_
  generalize ex3 : (f_X10_value S w1 (3 : Int32) a3 a4) = x3
  refine aw_aload_n hC 3 dX8_areNear_29 rfl rfl ?_
  refine aw_iconst (v := 3) hC dX8_areNear_30 (by decide) ?_
  refine aw_iload_n hC 5 dX8_areNear_31 rfl rfl ?_
  refine aw_iload_n hC 6 dX8_areNear_32 rfl rfl ?_
  refine aw_iconst (v := 1) hC dX8_areNear_33 (by decide) ?_
  refine aw_iadd hC dX8_areNear_34 ?_
  refine aw_cV3r hC hSt (t_X10_value G l hM _ _ _ _ hw1 (h3 x1 ex1 x2 ex2 x3 ex3)) w_10 w_621 w_16 w_17 w_18 rfl rfl (by decide +kernel) ⟨Nat.le_of_ble_eq_true rfl, Nat.le_of_ble_eq_true rfl⟩ (cs_lt w1 10 0 hw1 hM) (cs_k w1 10 0 hw1 hM) rfl (Nat.le_of_ble_eq_true rfl) dX8_areNear_35 ⟨Nat.zero_le _, Nat.zero_le _⟩ ?_
  refine aw_istore hC [(8, .int _), (7, .int _), (6, .int _), (5, .int _), (0, .ref w1), (1, .int _), (2, .int _), (3, .int _), (4, .int _)] dX8_areNear_38 (by decide) rfl ?_
  generalize ex4 : (f_X10_value S w1 (3 : Int32) a3 (a4 + (1 : Int32))) = x4
  refine aw_iload hC 1 dX8_areNear_40 rfl ?_
  refine aw_iload hC 2 dX8_areNear_42 rfl ?_
  refine aw_isub hC dX8_areNear_44 ?_
  refine aw_iload hC 8 dX8_areNear_45 rfl ?_
  refine aw_cut (S' := S) (pc' := 65) (lv' := [(8, .int x4), (7, .int x3), (6, .int x2), (5, .int x1), (0, .ref w1), (1, .int a2), (2, .int a3), (3, .int a4), (4, .int a5)]) (st' := [.int (if a5 < (x3 - x2) then (0 : Int32) else (if a5 < (x1 - x4) then (0 : Int32) else (1 : Int32)))]) ?_ (fun Jc5 => ?_)
  · generalize ex7 : (if a5 < (x3 - x2) then (0 : Int32) else (if a5 < (x1 - x4) then (0 : Int32) else (1 : Int32))) = x7
    refine aw_zret hC dX8_areNear_65 (Nat.le_refl _) (Nat.le_refl _) (Bz.n (ex7 ▸ (Bz.ite (Or.inl rfl) (Bz.ite (Or.inl rfl) (Or.inr rfl))))) ?_
    exact FP.pI ((bd_eq ex1).trans ((bd_eq ex2).trans ((bd_eq ex3).trans ((bd_eq ex4).trans ((bd_eq ex7).trans (rfl))))))
  · refine aw_icmp_gt hC 64 dX8_areNear_47 (by decide) (fun c5 => ?_) (fun c5 => ?_)
    · refine aw_iconst (v := 0) hC dX8_areNear_64 (by decide) ?_
      simp only [bd_def, if_pos c5] at Jc5 ⊢
      exact Jc5
    · refine aw_iload hC 3 dX8_areNear_50 rfl ?_
      refine aw_iload hC 0 dX8_areNear_52 rfl ?_
      refine aw_isub hC dX8_areNear_54 ?_
      refine aw_iload hC 8 dX8_areNear_55 rfl ?_
      refine aw_icmp_gt hC 64 dX8_areNear_57 (by decide) (fun c6 => ?_) (fun c6 => ?_)
      · refine aw_iconst (v := 0) hC dX8_areNear_64 (by decide) ?_
        simp only [bd_def, if_neg c5, if_pos c6] at Jc5 ⊢
        exact Jc5
      · refine aw_iconst (v := 1) hC dX8_areNear_60 (by decide) ?_
        refine aw_goto hC 65 dX8_areNear_61 (by decide) ?_
        simp only [bd_def, if_neg c5, if_neg c6] at Jc5 ⊢
        exact Jc5
theorem b_X8_areNear (S : HSt) (w1 : Nat) (a2 : Int32) (a3 : Int32) (a4 : Int32) (a5 : Int32) : Bz (f_X8_areNear S w1 a2 a3 a4 a5) := by
  unfold f_X8_areNear F_X8_areNear
  (try dsimp only [bd])
  (repeat' split) <;> first | exact Or.inl rfl | exact Or.inr rfl
noncomputable def F_X8_goes (S : HSt) (w1 : Nat) (a2 : Int32) (a3 : Int32) : Int32 × HSt := bd ((if (f_X8_areNear S w1 a2 a3 (0 : Int32) (2 : Int32)) = 0 then (0 : Int32) else (if (f_X8_areNear S w1 a2 a3 (2 : Int32) (20 : Int32)) = 0 then (0 : Int32) else (1 : Int32)))) fun x3 => pr (x3) (S)
noncomputable def f_X8_goes (S : HSt) (w1 : Nat) (a2 : Int32) (a3 : Int32) : Int32 := (F_X8_goes S w1 a2 a3).1
def p_X8_goes (S : HSt) (w1 : Nat) (a2 : Int32) (a3 : Int32) : Prop := (p_X8_areNear S w1 a2 a3 (0 : Int32) (2 : Int32)) ∧ ((¬ (f_X8_areNear S w1 a2 a3 (0 : Int32) (2 : Int32)) = 0) → p_X8_areNear S w1 a2 a3 (2 : Int32) (20 : Int32))
set_option maxRecDepth 100000 in
theorem t_X8_goes (G : GG) (l : Launch) {S : HSt} (hM : CS S) (w1 : Nat) (a2 : Int32) (a3 : Int32) (hw1 : (w1, 10, 0) ∈ cKT) (hp : p_X8_goes S w1 a2 a3) : AM G l yX8_goes cX8_goes 3 (some .boolean) (rmD 2 0 0) 0 0 [.ref w1, .int a2, .int a3] S (FP (some (.int (f_X8_goes S w1 a2 a3))) (S)) := by
  obtain ⟨h0, h1⟩ := hp
  refine AM.mk (by decide) (Nat.le_of_ble_eq_true rfl) ?_
  intro p e s m below meth c hC hSt _
  refine aw_aload_n hC 0 dX8_goes_0 rfl rfl ?_
  refine aw_iload_n hC 1 dX8_goes_1 rfl rfl ?_
  refine aw_iload_n hC 2 dX8_goes_2 rfl rfl ?_
  refine aw_iconst (v := 0) hC dX8_goes_3 (by decide) ?_
  refine aw_iconst (v := 2) hC dX8_goes_4 (by decide) ?_
  refine aw_cS5r hC hSt (t_X8_areNear G l hM _ _ _ _ _ hw1 (h0)) w_620 w_623 w_624 w_625 rfl rfl (by decide +kernel) ⟨Nat.le_of_ble_eq_true rfl, Nat.le_of_ble_eq_true rfl⟩ (Nat.le_of_ble_eq_true rfl) dX8_goes_5 ⟨Nat.zero_le _, Nat.zero_le _⟩ ?_
  refine aw_cut (S' := S) (pc' := 28) (lv' := [(0, .ref w1), (1, .int a2), (2, .int a3)]) (st' := [.int (if (f_X8_areNear S w1 a2 a3 (0 : Int32) (2 : Int32)) = 0 then (0 : Int32) else (if (f_X8_areNear S w1 a2 a3 (2 : Int32) (20 : Int32)) = 0 then (0 : Int32) else (1 : Int32)))]) ?_ (fun Jc1 => ?_)
  · generalize ex3 : (if (f_X8_areNear S w1 a2 a3 (0 : Int32) (2 : Int32)) = 0 then (0 : Int32) else (if (f_X8_areNear S w1 a2 a3 (2 : Int32) (20 : Int32)) = 0 then (0 : Int32) else (1 : Int32))) = x3
    refine aw_zret hC dX8_goes_28 (Nat.le_refl _) (Nat.le_refl _) (Bz.n (ex3 ▸ (Bz.ite (Or.inl rfl) (Bz.ite (Or.inl rfl) (Or.inr rfl))))) ?_
    exact FP.pI ((bd_eq ex3).trans (rfl))
  · refine aw_if_eq hC 27 dX8_goes_8 (by decide) (fun c1 => ?_) (fun c1 => ?_)
    · refine aw_iconst (v := 0) hC dX8_goes_27 (by decide) ?_
      simp only [bd_def, if_pos c1] at Jc1 ⊢
      exact Jc1
    · refine aw_aload_n hC 0 dX8_goes_11 rfl rfl ?_
      refine aw_iload_n hC 1 dX8_goes_12 rfl rfl ?_
      refine aw_iload_n hC 2 dX8_goes_13 rfl rfl ?_
      refine aw_iconst (v := 2) hC dX8_goes_14 (by decide) ?_
      refine aw_bipush (v := 20) hC dX8_goes_15 (by decide) ?_
      refine aw_cS5r hC hSt (t_X8_areNear G l hM _ _ _ _ _ hw1 (h1 c1)) w_620 w_623 w_624 w_625 rfl rfl (by decide +kernel) ⟨Nat.le_of_ble_eq_true rfl, Nat.le_of_ble_eq_true rfl⟩ (Nat.le_of_ble_eq_true rfl) dX8_goes_17 ⟨Nat.zero_le _, Nat.zero_le _⟩ ?_
      refine aw_if_eq hC 27 dX8_goes_20 (by decide) (fun c2 => ?_) (fun c2 => ?_)
      · refine aw_iconst (v := 0) hC dX8_goes_27 (by decide) ?_
        simp only [bd_def, if_neg c1, if_pos c2] at Jc1 ⊢
        exact Jc1
      · refine aw_iconst (v := 1) hC dX8_goes_23 (by decide) ?_
        refine aw_goto hC 28 dX8_goes_24 (by decide) ?_
        simp only [bd_def, if_neg c1, if_neg c2] at Jc1 ⊢
        exact Jc1
theorem b_X8_goes (S : HSt) (w1 : Nat) (a2 : Int32) (a3 : Int32) : Bz (f_X8_goes S w1 a2 a3) := by
  unfold f_X8_goes F_X8_goes
  (try dsimp only [bd])
  (repeat' split) <;> first | exact Or.inl rfl | exact Or.inr rfl | exact b_X8_areNear _ _ _ _ _ _
noncomputable def L_X8_nextForm_17 (w1 : Nat) : Nat → HSt → Int32 → Int32 → Int32 → Int32 → Int32 → Int32 → Int32 × Int32 × Int32 × Int32 × Int32 × Int32
  | 0, S, v2, v3, v4, v5, v6, v7 => (v2, v3, v4, v5, v6, v7)
  | n + 1, S, v2, v3, v4, v5, v6, v7 =>
    if v4 ≤ v7 then ((pr (v2) (pr (v3) (pr (v4) (pr (v5) (pr (v6) (v7))))))) else (bd ((if (v2 &&& ((1 : Int32) <<< (v7 &&& 31))) = 0 then (1 : Int32) else (0 : Int32))) fun x1004 => bd ((if x1004 = 0 then (0 : Int32) else (gI S 39 (f_X8_placeOf S (v2 ||| ((1 : Int32) <<< (v7 &&& 31))) v7).toNatClampNeg))) fun x1006 => bd ((if x1006 ≤ v5 then v5 else (if v3 = (-1000000 : Int32) then x1006 else (if (f_X8_goes S w1 v3 v7) = 0 then v5 else x1006)))) fun x1010 => bd ((if x1006 ≤ v5 then v6 else (if v3 = (-1000000 : Int32) then v7 else (if (f_X8_goes S w1 v3 v7) = 0 then v6 else v7)))) fun x1011 => L_X8_nextForm_17 w1 n S v2 v3 v4 x1010 x1011 (v7 + (1 : Int32)))
def T_X8_nextForm_17 (w1 : Nat) : Nat → HSt → Int32 → Int32 → Int32 → Int32 → Int32 → Int32 → Prop
  | 0, _, _, _, _, _, _, _ => False
  | n + 1, S, v2, v3, v4, v5, v6, v7 => ((¬ v4 ≤ v7) → ∀ x1004 : Int32, (if (v2 &&& ((1 : Int32) <<< (v7 &&& 31))) = 0 then (1 : Int32) else (0 : Int32)) = x1004 → (¬ x1004 = 0) → vp_in (f_X8_placeOf S (v2 ||| ((1 : Int32) <<< (v7 &&& 31))) v7) 384) ∧ ((¬ v4 ≤ v7) → ∀ x1004 : Int32, (if (v2 &&& ((1 : Int32) <<< (v7 &&& 31))) = 0 then (1 : Int32) else (0 : Int32)) = x1004 → ∀ x1006 : Int32, (if x1004 = 0 then (0 : Int32) else (gI S 39 (f_X8_placeOf S (v2 ||| ((1 : Int32) <<< (v7 &&& 31))) v7).toNatClampNeg)) = x1006 → (¬ x1006 ≤ v5) → (¬ v3 = (-1000000 : Int32)) → p_X8_goes S w1 v3 v7) ∧ ((¬ v4 ≤ v7) → ∀ x1004 : Int32, (if (v2 &&& ((1 : Int32) <<< (v7 &&& 31))) = 0 then (1 : Int32) else (0 : Int32)) = x1004 → ∀ x1006 : Int32, (if x1004 = 0 then (0 : Int32) else (gI S 39 (f_X8_placeOf S (v2 ||| ((1 : Int32) <<< (v7 &&& 31))) v7).toNatClampNeg)) = x1006 → ∀ x1010 : Int32, (if x1006 ≤ v5 then v5 else (if v3 = (-1000000 : Int32) then x1006 else (if (f_X8_goes S w1 v3 v7) = 0 then v5 else x1006))) = x1010 → ∀ x1011 : Int32, (if x1006 ≤ v5 then v6 else (if v3 = (-1000000 : Int32) then v7 else (if (f_X8_goes S w1 v3 v7) = 0 then v6 else v7))) = x1011 → T_X8_nextForm_17 w1 n S v2 v3 v4 x1010 x1011 (v7 + (1 : Int32)))
set_option maxRecDepth 100000 in
theorem l_X8_nextForm_17 {p : Program} {l : Launch} {e : Env} {s : State} {m : MethodId} {args : Array Value} {below : List Frame} {meth : Method} {c : Code} {G : GG} {Q : State → Prop} (hC : ACx p s m args meth c cX8_nextForm RX8 10 (some .int)) (hSt : St G s) {w1 : Nat} (hw1 : (w1, 10, 0) ∈ cKT) : ∀ (n : Nat) (S : HSt) (v2 : Int32) (v3 : Int32) (v4 : Int32) (v5 : Int32) (v6 : Int32) (v7 : Int32), CS S → T_X8_nextForm_17 w1 n S v2 v3 v4 v5 v6 v7 → AW p l e (rmD 3 0 0) s m args below meth c G 10 Q S 0 0 104 [(0, .ref 38), (1, .ref w1), (2, .int (L_X8_nextForm_17 w1 n S v2 v3 v4 v5 v6 v7).1), (3, .int (L_X8_nextForm_17 w1 n S v2 v3 v4 v5 v6 v7).2.1), (4, .int (L_X8_nextForm_17 w1 n S v2 v3 v4 v5 v6 v7).2.2.1), (5, .int (L_X8_nextForm_17 w1 n S v2 v3 v4 v5 v6 v7).2.2.2.1), (6, .int (L_X8_nextForm_17 w1 n S v2 v3 v4 v5 v6 v7).2.2.2.2.1), (7, .int (L_X8_nextForm_17 w1 n S v2 v3 v4 v5 v6 v7).2.2.2.2.2)] [] → AW p l e (rmD 3 0 0) s m args below meth c G 10 Q S 0 0 17 [(0, .ref 38), (1, .ref w1), (2, .int v2), (3, .int v3), (4, .int v4), (5, .int v5), (6, .int v6), (7, .int v7)] [] := by
  intro n
  induction n with
  | zero => intro S v2 v3 v4 v5 v6 v7 _ hT; exact hT.elim
  | succ n ih =>
    intro S v2 v3 v4 v5 v6 v7 hM hT hk
    unfold T_X8_nextForm_17 at hT
    obtain ⟨h0, h1, h2⟩ := hT
    refine aw_iload hC 7 dX8_nextForm_17 rfl ?_
    refine aw_iload hC 4 dX8_nextForm_19 rfl ?_
    refine aw_icmp_ge hC 104 dX8_nextForm_21 (by decide) (fun c1002 => ?_) (fun c1002 => ?_)
    · refine aw_sub [0, 1, 2, 3, 4, 5, 6, 7] rfl ?_
      have E : L_X8_nextForm_17 w1 (n + 1) S v2 v3 v4 v5 v6 v7 = _ := (if_pos c1002).trans (rfl)
      rw [E] at hk
      exact hk
    · refine aw_iload_n hC 2 dX8_nextForm_24 rfl rfl ?_
      refine aw_iconst (v := 1) hC dX8_nextForm_25 (by decide) ?_
      refine aw_iload hC 7 dX8_nextForm_26 rfl ?_
      refine aw_ishl hC dX8_nextForm_28 ?_
      refine aw_iand hC dX8_nextForm_29 ?_
      refine aw_cut (S' := S) (pc' := 38) (lv' := [(0, .ref 38), (1, .ref w1), (2, .int v2), (3, .int v3), (4, .int v4), (5, .int v5), (6, .int v6), (7, .int v7)]) (st' := [.int (if (v2 &&& ((1 : Int32) <<< (v7 &&& 31))) = 0 then (1 : Int32) else (0 : Int32))]) ?_ (fun Jc1003 => ?_)
      · generalize ex1004 : (if (v2 &&& ((1 : Int32) <<< (v7 &&& 31))) = 0 then (1 : Int32) else (0 : Int32)) = x1004
        refine aw_istore hC [(8, .int _), (0, .ref 38), (1, .ref w1), (2, .int _), (3, .int _), (4, .int _), (5, .int _), (6, .int _), (7, .int _)] dX8_nextForm_38 (by decide) rfl ?_
        refine aw_iload hC 0 dX8_nextForm_40 rfl ?_
        refine aw_cut (S' := S) (pc' := 65) (lv' := [(8, .int x1004), (0, .ref 38), (1, .ref w1), (2, .int v2), (3, .int v3), (4, .int v4), (5, .int v5), (6, .int v6), (7, .int v7)]) (st' := [.int (if x1004 = 0 then (0 : Int32) else (gI S 39 (f_X8_placeOf S (v2 ||| ((1 : Int32) <<< (v7 &&& 31))) v7).toNatClampNeg))]) ?_ (fun Jc1005 => ?_)
        · generalize ex1006 : (if x1004 = 0 then (0 : Int32) else (gI S 39 (f_X8_placeOf S (v2 ||| ((1 : Int32) <<< (v7 &&& 31))) v7).toNatClampNeg)) = x1006
          refine aw_istore hC [(9, .int _), (8, .int _), (0, .ref 38), (1, .ref w1), (2, .int _), (3, .int _), (4, .int _), (5, .int _), (6, .int _), (7, .int _)] dX8_nextForm_65 (by decide) rfl ?_
          refine aw_iload hC 0 dX8_nextForm_67 rfl ?_
          refine aw_iload hC 7 dX8_nextForm_69 rfl ?_
          refine aw_cut (S' := S) (pc' := 98) (lv' := [(9, .int x1006), (8, .int x1004), (0, .ref 38), (1, .ref w1), (2, .int v2), (3, .int v3), (4, .int v4), (5, .int (if x1006 ≤ v5 then v5 else (if v3 = (-1000000 : Int32) then x1006 else (if (f_X8_goes S w1 v3 v7) = 0 then v5 else x1006)))), (6, .int (if x1006 ≤ v5 then v6 else (if v3 = (-1000000 : Int32) then v7 else (if (f_X8_goes S w1 v3 v7) = 0 then v6 else v7)))), (7, .int v7)]) (st' := []) ?_ (fun Jc1007 => ?_)
          · generalize ex1010 : (if x1006 ≤ v5 then v5 else (if v3 = (-1000000 : Int32) then x1006 else (if (f_X8_goes S w1 v3 v7) = 0 then v5 else x1006))) = x1010
            generalize ex1011 : (if x1006 ≤ v5 then v6 else (if v3 = (-1000000 : Int32) then v7 else (if (f_X8_goes S w1 v3 v7) = 0 then v6 else v7))) = x1011
            refine aw_iinc (v := (v7 + (1 : Int32))) hC 9 [(7, .int _), (9, .int _), (8, .int _), (0, .ref 38), (1, .ref w1), (2, .int _), (3, .int _), (4, .int _), (5, .int _), (6, .int _)] dX8_nextForm_98 rfl rfl (by decide) rfl ?_
            refine aw_goto hC 17 dX8_nextForm_101 (by decide) ?_
            refine aw_sub [3, 4, 5, 6, 7, 8, 9, 0] rfl ?_
            have hTn := (h2 c1002 x1004 ex1004 x1006 ex1006 x1010 ex1010 x1011 ex1011)
            have hMn : CS S := hM
            have E : L_X8_nextForm_17 w1 (n + 1) S v2 v3 v4 v5 v6 v7 = _ := (if_neg c1002).trans ((bd_eq ex1004).trans ((bd_eq ex1006).trans ((bd_eq ex1010).trans ((bd_eq ex1011).trans (rfl)))))
            rw [E] at hk
            exact ih _ _ _ _ _ _ _ hMn hTn hk
          · refine aw_icmp_le hC 98 dX8_nextForm_71 (by decide) (fun c1007 => ?_) (fun c1007 => ?_)
            · simp only [bd_def, if_pos c1007] at Jc1007 ⊢
              exact Jc1007
            · refine aw_iload_n hC 5 dX8_nextForm_74 rfl rfl ?_
              refine aw_ldc (v := -1000000) hC w_626 dX8_nextForm_75 ?_
              refine aw_icmp_eq hC 90 dX8_nextForm_77 (by decide) (fun c1008 => ?_) (fun c1008 => ?_)
              · refine aw_iload hC 0 dX8_nextForm_90 rfl ?_
                refine aw_istore hC [(5, .int _), (9, .int _), (8, .int _), (0, .ref 38), (1, .ref w1), (2, .int _), (3, .int _), (4, .int _), (6, .int _), (7, .int _)] dX8_nextForm_92 (by decide) rfl ?_
                refine aw_iload hC 9 dX8_nextForm_94 rfl ?_
                refine aw_istore hC [(6, .int _), (5, .int _), (9, .int _), (8, .int _), (0, .ref 38), (1, .ref w1), (2, .int _), (3, .int _), (4, .int _), (7, .int _)] dX8_nextForm_96 (by decide) rfl ?_
                refine aw_sub [2, 3, 4, 5, 6, 7, 8, 1, 0, 9] rfl ?_
                simp only [bd_def, if_neg c1007, if_pos c1008] at Jc1007 ⊢
                exact Jc1007
              · refine aw_aload_n hC 3 dX8_nextForm_80 rfl rfl ?_
                refine aw_iload_n hC 5 dX8_nextForm_81 rfl rfl ?_
                refine aw_iload hC 9 dX8_nextForm_82 rfl ?_
                refine aw_cS3r hC hSt (t_X8_goes G l hM _ _ _ hw1 (h1 c1002 x1004 ex1004 x1006 ex1006 c1007 c1008)) w_622 w_630 w_631 w_625 rfl rfl (by decide +kernel) ⟨Nat.le_of_ble_eq_true rfl, Nat.le_of_ble_eq_true rfl⟩ (Nat.le_of_ble_eq_true rfl) dX8_nextForm_84 ⟨Nat.zero_le _, Nat.zero_le _⟩ ?_
                refine aw_if_eq hC 98 dX8_nextForm_87 (by decide) (fun c1009 => ?_) (fun c1009 => ?_)
                · simp only [bd_def, if_neg c1007, if_neg c1008, if_pos c1009] at Jc1007 ⊢
                  exact Jc1007
                · refine aw_iload hC 0 dX8_nextForm_90 rfl ?_
                  refine aw_istore hC [(5, .int _), (9, .int _), (8, .int _), (0, .ref 38), (1, .ref w1), (2, .int _), (3, .int _), (4, .int _), (6, .int _), (7, .int _)] dX8_nextForm_92 (by decide) rfl ?_
                  refine aw_iload hC 9 dX8_nextForm_94 rfl ?_
                  refine aw_istore hC [(6, .int _), (5, .int _), (9, .int _), (8, .int _), (0, .ref 38), (1, .ref w1), (2, .int _), (3, .int _), (4, .int _), (7, .int _)] dX8_nextForm_96 (by decide) rfl ?_
                  refine aw_sub [2, 3, 4, 5, 6, 7, 8, 1, 0, 9] rfl ?_
                  simp only [bd_def, if_neg c1007, if_neg c1008, if_neg c1009] at Jc1007 ⊢
                  exact Jc1007
        · refine aw_if_eq hC 64 dX8_nextForm_42 (by decide) (fun c1005 => ?_) (fun c1005 => ?_)
          · refine aw_iconst (v := 0) hC dX8_nextForm_64 (by decide) ?_
            simp only [bd_def, if_pos c1005] at Jc1005 ⊢
            exact Jc1005
          · refine aw_aload_n hC 1 dX8_nextForm_45 rfl rfl ?_
            refine aw_getP (b := 39) hC hSt 0 (cs_lt 38 8 0 (by decide) hM) (cs_k 38 8 0 (by decide) hM) rfl (by decide) w_614 rfl (cs_p 38 0 39 (by decide) hM) dX8_nextForm_46 ?_
            refine aw_iload_n hC 3 dX8_nextForm_49 rfl rfl ?_
            refine aw_iconst (v := 1) hC dX8_nextForm_50 (by decide) ?_
            refine aw_iload hC 8 dX8_nextForm_51 rfl ?_
            refine aw_ishl hC dX8_nextForm_53 ?_
            refine aw_ior hC dX8_nextForm_54 ?_
            refine aw_iload hC 8 dX8_nextForm_55 rfl ?_
            refine aw_cS2r hC hSt (t_X8_placeOf G l  _ _) w_619 w_628 w_629 w_625 rfl rfl (by decide +kernel) ⟨Nat.le_of_ble_eq_true rfl, Nat.le_of_ble_eq_true rfl⟩ (Nat.le_of_ble_eq_true rfl) dX8_nextForm_57 ⟨Nat.zero_le _, Nat.zero_le _⟩ ?_
            refine aw_iald hC hSt (cs_lt 39 14 384 (by decide) hM) (cs_k 39 14 384 (by decide) hM) (vp_len (n := 384) (cs_l 39 14 384 (by decide) hM) (h0 c1002 x1004 ex1004 c1005)) dX8_nextForm_60 ?_
            refine aw_goto hC 65 dX8_nextForm_61 (by decide) ?_
            simp only [bd_def, if_neg c1005] at Jc1005 ⊢
            exact Jc1005
      · refine aw_if_ne hC 37 dX8_nextForm_30 (by decide) (fun c1003 => ?_) (fun c1003 => ?_)
        · refine aw_iconst (v := 0) hC dX8_nextForm_37 (by decide) ?_
          simp only [bd_def, if_neg c1003] at Jc1003 ⊢
          exact Jc1003
        · refine aw_iconst (v := 1) hC dX8_nextForm_33 (by decide) ?_
          refine aw_goto hC 38 dX8_nextForm_34 (by decide) ?_
          simp only [bd_def, if_pos c1003] at Jc1003 ⊢
          exact Jc1003
noncomputable def F_X8_nextForm (S : HSt) (_o0 : Nat) (w1 : Nat) (a2 : Int32) (a3 : Int32) : Int32 × HSt := bd ((f_X10_howMany S w1 (3 : Int32))) fun x1 => bd (L_X8_nextForm_17 w1 1000 S a2 a3 x1 (0 : Int32) (-1000000 : Int32) (0 : Int32)) fun r2 => pr (r2.2.2.2.2.1) (S)
noncomputable def f_X8_nextForm (S : HSt) (_o0 : Nat) (w1 : Nat) (a2 : Int32) (a3 : Int32) : Int32 := (F_X8_nextForm S _o0 w1 a2 a3).1
def p_X8_nextForm (S : HSt) (_o0 : Nat) (w1 : Nat) (a2 : Int32) (a3 : Int32) : Prop := (p_X10_howMany S w1 (3 : Int32)) ∧ (∀ x1 : Int32, (f_X10_howMany S w1 (3 : Int32)) = x1 → T_X8_nextForm_17 w1 1000 S a2 a3 x1 (0 : Int32) (-1000000 : Int32) (0 : Int32))
set_option maxRecDepth 100000 in
theorem t_X8_nextForm (G : GG) (l : Launch) {S : HSt} (hM : CS S) (w1 : Nat) (a2 : Int32) (a3 : Int32) (hw1 : (w1, 10, 0) ∈ cKT) (hp : p_X8_nextForm S 38 w1 a2 a3) : AM G l yX8_nextForm cX8_nextForm 10 (some .int) (rmD 3 0 0) 0 0 [.ref 38, .ref w1, .int a2, .int a3] S (FP (some (.int (f_X8_nextForm S 38 w1 a2 a3))) (S)) := by
  obtain ⟨h0, h1⟩ := hp
  refine AM.mk (by decide) (Nat.le_of_ble_eq_true rfl) ?_
  intro p e s m below meth c hC hSt _
  refine aw_aload_n hC 1 dX8_nextForm_0 rfl rfl ?_
  refine aw_iconst (v := 3) hC dX8_nextForm_1 (by decide) ?_
  refine aw_cV1r hC hSt (t_X10_howMany G l hM _ _ hw1 (h0)) w_152 w_627 w_237 w_238 w_18 rfl rfl (by decide +kernel) ⟨Nat.le_of_ble_eq_true rfl, Nat.le_of_ble_eq_true rfl⟩ (cs_lt w1 10 0 hw1 hM) (cs_k w1 10 0 hw1 hM) rfl (Nat.le_of_ble_eq_true rfl) dX8_nextForm_2 ⟨Nat.zero_le _, Nat.zero_le _⟩ ?_
  refine aw_istore hC [(4, .int _), (0, .ref 38), (1, .ref w1), (2, .int _), (3, .int _)] dX8_nextForm_5 (by decide) rfl ?_
  generalize ex1 : (f_X10_howMany S w1 (3 : Int32)) = x1
  refine aw_iconst (v := 0) hC dX8_nextForm_7 (by decide) ?_
  refine aw_istore hC [(5, .int _), (4, .int _), (0, .ref 38), (1, .ref w1), (2, .int _), (3, .int _)] dX8_nextForm_8 (by decide) rfl ?_
  refine aw_ldc (v := -1000000) hC w_626 dX8_nextForm_10 ?_
  refine aw_istore hC [(6, .int _), (5, .int _), (4, .int _), (0, .ref 38), (1, .ref w1), (2, .int _), (3, .int _)] dX8_nextForm_12 (by decide) rfl ?_
  refine aw_iconst (v := 0) hC dX8_nextForm_14 (by decide) ?_
  refine aw_istore hC [(7, .int _), (6, .int _), (5, .int _), (4, .int _), (0, .ref 38), (1, .ref w1), (2, .int _), (3, .int _)] dX8_nextForm_15 (by decide) rfl ?_
  refine aw_sub [4, 5, 6, 7, 3, 2, 1, 0] rfl ?_
  refine l_X8_nextForm_17 hC hSt hw1 1000 _ _ _ _ _ _ _ hM (h1 x1 ex1) ?_
  generalize er2 : L_X8_nextForm_17 w1 1000 S a2 a3 x1 (0 : Int32) (-1000000 : Int32) (0 : Int32) = r2
  refine aw_iload hC 6 dX8_nextForm_104 rfl ?_
  refine aw_iret hC dX8_nextForm_106 (Nat.le_refl _) (Nat.le_refl _) ?_
  exact FP.pI ((bd_eq ex1).trans ((bd_eq er2).trans (rfl)))