noncomputable def L_X8_isHandOf_10 (sc2 : Nat) : Nat → HSt → Int32 → Int32 → Int32 → Int32 → Int32 → Int32 × Int32 × Int32 × Int32 × Int32 × Int32 × Int32 × HSt
  | 0, S, v1, v4, v5, v6, v7 => ((1 : Int32), 0, v1, v4, v5, v6, v7, S)
  | n + 1, S, v1, v4, v5, v6, v7 =>
    if v6 ≤ v7 then ((pr ((0 : Int32)) (pr (0) (pr (v1) (pr (v4) (pr (v5) (pr (v6) (pr (v7) (S))))))))) else (bd ((if (f_X1_hasFallen S 42) = 0 then (bd (((1 : Int32) + (v1 / (3 : Int32)))) fun x1004 => bd (f_X1_advance S 42 sc2 (0 : Int32) x1004 ((4 : Int32) * (v1 - v1 / (3 : Int32) * (3 : Int32))) (f_X1_spinBy S 42 x1004)) fun r1005 => r1005) else S)) fun S1006 => if (gI S1006 42 0) = (f_X5_itemAt S1006 1 v4 (v5 + v7)) then (L_X8_isHandOf_10 sc2 n S1006 v1 v4 v5 v6 (v7 + (1 : Int32))) else ((pr ((1 : Int32)) (pr ((0 : Int32)) (pr (v1) (pr (v4) (pr (v5) (pr (v6) (pr (v7) (S1006))))))))))
def T_X8_isHandOf_10 (sc2 : Nat) : Nat → HSt → Int32 → Int32 → Int32 → Int32 → Int32 → Prop
  | 0, _, _, _, _, _, _ => False
  | n + 1, S, v1, v4, v5, v6, v7 => ((¬ v6 ≤ v7) → ∀ S1006 : HSt, (if (f_X1_hasFallen S 42) = 0 then (bd (((1 : Int32) + (v1 / (3 : Int32)))) fun x1004 => bd (f_X1_advance S 42 sc2 (0 : Int32) x1004 ((4 : Int32) * (v1 - v1 / (3 : Int32) * (3 : Int32))) (f_X1_spinBy S 42 x1004)) fun r1005 => r1005) else S) = S1006 → p_X5_itemAt S1006 1 v4 (v5 + v7)) ∧ ((¬ v6 ≤ v7) → ∀ S1006 : HSt, (if (f_X1_hasFallen S 42) = 0 then (bd (((1 : Int32) + (v1 / (3 : Int32)))) fun x1004 => bd (f_X1_advance S 42 sc2 (0 : Int32) x1004 ((4 : Int32) * (v1 - v1 / (3 : Int32) * (3 : Int32))) (f_X1_spinBy S 42 x1004)) fun r1005 => r1005) else S) = S1006 → ((gI S1006 42 0) = (f_X5_itemAt S1006 1 v4 (v5 + v7))) → T_X8_isHandOf_10 sc2 n S1006 v1 v4 v5 v6 (v7 + (1 : Int32)))
theorem qL_X8_isHandOf_10 (sc2 : Nat) : ∀ (n : Nat) (S : HSt) (v1 : Int32) (v4 : Int32) (v5 : Int32) (v6 : Int32) (v7 : Int32), shp (L_X8_isHandOf_10 sc2 n S v1 v4 v5 v6 v7).2.2.2.2.2.2.2 = shp S := by
  intro n
  induction n with
  | zero => intros; rfl
  | succ n ih =>
    intro S v1 v4 v5 v6 v7
    unfold L_X8_isHandOf_10
    repeat' (first | with_reducible refine shpr7 ?_ | with_reducible rfl | with_reducible refine (ih _ _ _ _ _ _).trans ?_ | with_reducible refine (q_X1_advance _ _ _ _ _ _ _).trans ?_ | with_reducible refine (q_X1_begin _ _).trans ?_ | with_reducible refine (shp_sI _ _ _ _).trans ?_ | with_reducible refine (shp_sJ _ _ _ _).trans ?_ | with_reducible refine (shp_rI _ _ _).trans ?_ | with_reducible refine shi ?_ ?_ | with_reducible refine shb (fun _ _ => ?_) | with_reducible refine shiP (fun q : Int32 × Int32 × Int32 × Int32 × Int32 × Int32 × Int32 × HSt => q.2.2.2.2.2.2.2) ?_ ?_ | with_reducible refine shbP (fun q : Int32 × Int32 × Int32 × Int32 × Int32 × Int32 × Int32 × HSt => q.2.2.2.2.2.2.2) (fun _ _ => ?_) | (subst_vars; with_reducible rfl) | (subst_vars; with_reducible refine (ih _ _ _ _ _ _).trans ?_) | (subst_vars; with_reducible refine (q_X1_advance _ _ _ _ _ _ _).trans ?_) | (subst_vars; with_reducible refine (q_X1_begin _ _).trans ?_) | (subst_vars; with_reducible refine (shp_sI _ _ _ _).trans ?_) | (subst_vars; with_reducible refine (shp_sJ _ _ _ _).trans ?_) | (subst_vars; with_reducible refine (shp_rI _ _ _).trans ?_) | (subst_vars; with_reducible refine shi ?_ ?_) | (subst_vars; with_reducible refine shb (fun _ _ => ?_)))
set_option maxRecDepth 100000 in
theorem l_X8_isHandOf_10 {p : Program} {l : Launch} {e : Env} {s : State} {m : MethodId} {args : Array Value} {below : List Frame} {meth : Method} {c : Code} {G : GG} {Post : Option Value → HSt → Prop} (hC : ACx p s m args meth c cX8_isHandOf RX8 9 (some .boolean)) (hSt : St G s) {sc2 : Nat} (hsc2 : (sc2, 7, 0) ∈ cKT) : ∀ (n : Nat) (S : HSt) (v1 : Int32) (v4 : Int32) (v5 : Int32) (v6 : Int32) (v7 : Int32), CS S → T_X8_isHandOf_10 sc2 n S v1 v4 v5 v6 v7 → ((L_X8_isHandOf_10 sc2 n S v1 v4 v5 v6 v7).1 = 1 → Post (some (.int (L_X8_isHandOf_10 sc2 n S v1 v4 v5 v6 v7).2.1)) (L_X8_isHandOf_10 sc2 n S v1 v4 v5 v6 v7).2.2.2.2.2.2.2) → ((L_X8_isHandOf_10 sc2 n S v1 v4 v5 v6 v7).1 ≠ 1 → AW p l e (rmD 4 0 0) s m args below meth c G 9 (AQ G below args s 0 0 Post) (L_X8_isHandOf_10 sc2 n S v1 v4 v5 v6 v7).2.2.2.2.2.2.2 0 0 88 [(0, .ref 38), (1, .int (L_X8_isHandOf_10 sc2 n S v1 v4 v5 v6 v7).2.2.1), (2, .ref sc2), (3, .ref 1), (4, .int (L_X8_isHandOf_10 sc2 n S v1 v4 v5 v6 v7).2.2.2.1), (5, .int (L_X8_isHandOf_10 sc2 n S v1 v4 v5 v6 v7).2.2.2.2.1), (6, .int (L_X8_isHandOf_10 sc2 n S v1 v4 v5 v6 v7).2.2.2.2.2.1), (7, .int (L_X8_isHandOf_10 sc2 n S v1 v4 v5 v6 v7).2.2.2.2.2.2.1)] []) → AW p l e (rmD 4 0 0) s m args below meth c G 9 (AQ G below args s 0 0 Post) S 0 0 10 [(0, .ref 38), (1, .int v1), (2, .ref sc2), (3, .ref 1), (4, .int v4), (5, .int v5), (6, .int v6), (7, .int v7)] [] := by
  intro n
  induction n with
  | zero => intro S v1 v4 v5 v6 v7 _ hT; exact hT.elim
  | succ n ih =>
    intro S v1 v4 v5 v6 v7 hM hT hr hk
    unfold T_X8_isHandOf_10 at hT
    obtain ⟨h0, h1⟩ := hT
    refine aw_iload hC 7 dX8_isHandOf_10 rfl ?_
    refine aw_iload hC 6 dX8_isHandOf_12 rfl ?_
    refine aw_icmp_ge hC 88 dX8_isHandOf_14 (by decide) (fun c1002 => ?_) (fun c1002 => ?_)
    · refine aw_sub [0, 1, 2, 3, 4, 5, 6, 7] rfl ?_
      have E : L_X8_isHandOf_10 sc2 (n + 1) S v1 v4 v5 v6 v7 = _ := (if_pos c1002).trans (rfl)
      rw [E] at hk hr
      exact hk (by show ¬ (0 : Int32) = 1; decide)
    · refine aw_aload_n hC 0 dX8_isHandOf_17 rfl rfl ?_
      refine aw_getP (b := 42) hC hSt 3 (cs_lt 38 8 0 (by decide) hM) (cs_k 38 8 0 (by decide) hM) rfl (by decide) w_618 rfl (cs_p 38 3 42 (by decide) hM) dX8_isHandOf_18 ?_
      refine aw_cV0r hC hSt (t_X1_hasFallen G l hM _ (by decide)) w_88 w_658 w_204 w_205 w_84 rfl rfl (by decide +kernel) ⟨Nat.le_of_ble_eq_true rfl, Nat.le_of_ble_eq_true rfl⟩ (cs_lt 42 1 0 (by decide) hM) (cs_k 42 1 0 (by decide) hM) rfl (Nat.le_of_ble_eq_true rfl) dX8_isHandOf_21 ⟨Nat.zero_le _, Nat.zero_le _⟩ ?_
      refine aw_cut (S' := (if (f_X1_hasFallen S 42) = 0 then (bd (((1 : Int32) + (v1 / (3 : Int32)))) fun x1004 => bd (f_X1_advance S 42 sc2 (0 : Int32) x1004 ((4 : Int32) * (v1 - v1 / (3 : Int32) * (3 : Int32))) (f_X1_spinBy S 42 x1004)) fun r1005 => r1005) else S)) (pc' := 59) (lv' := [(0, .ref 38), (1, .int v1), (2, .ref sc2), (3, .ref 1), (4, .int v4), (5, .int v5), (6, .int v6), (7, .int v7)]) (st' := []) ?_ (fun Jc1003 => ?_)
      · generalize eS1006 : (if (f_X1_hasFallen S 42) = 0 then (bd (((1 : Int32) + (v1 / (3 : Int32)))) fun x1004 => bd (f_X1_advance S 42 sc2 (0 : Int32) x1004 ((4 : Int32) * (v1 - v1 / (3 : Int32) * (3 : Int32))) (f_X1_spinBy S 42 x1004)) fun r1005 => r1005) else S) = S1006
        have hM : CS S1006 := CS.of (by rw [← eS1006]; repeat' (first | with_reducible rfl | with_reducible refine (q_X1_advance _ _ _ _ _ _ _).trans ?_ | with_reducible refine (shp_sI _ _ _ _).trans ?_ | with_reducible refine (shp_sJ _ _ _ _).trans ?_ | with_reducible refine (shp_rI _ _ _).trans ?_ | with_reducible refine shi ?_ ?_ | with_reducible refine shb (fun _ _ => ?_) | (subst_vars; with_reducible rfl) | (subst_vars; with_reducible refine (q_X1_advance _ _ _ _ _ _ _).trans ?_) | (subst_vars; with_reducible refine (shp_sI _ _ _ _).trans ?_) | (subst_vars; with_reducible refine (shp_sJ _ _ _ _).trans ?_) | (subst_vars; with_reducible refine (shp_rI _ _ _).trans ?_) | (subst_vars; with_reducible refine shi ?_ ?_) | (subst_vars; with_reducible refine shb (fun _ _ => ?_)))) hM
        refine aw_aload_n hC 0 dX8_isHandOf_59 rfl rfl ?_
        refine aw_getP (b := 42) hC hSt 3 (cs_lt 38 8 0 (by decide) hM) (cs_k 38 8 0 (by decide) hM) rfl (by decide) w_618 rfl (cs_p 38 3 42 (by decide) hM) dX8_isHandOf_60 ?_
        refine aw_getI hC hSt 0 (cs_lt 42 1 0 (by decide) hM) (cs_k 42 1 0 (by decide) hM) rfl (by decide) w_656 rfl dX8_isHandOf_63 ?_
        refine aw_aload_n hC 3 dX8_isHandOf_66 rfl rfl ?_
        refine aw_iload hC 4 dX8_isHandOf_67 rfl ?_
        refine aw_iload hC 5 dX8_isHandOf_69 rfl ?_
        refine aw_iload hC 7 dX8_isHandOf_71 rfl ?_
        refine aw_iadd hC dX8_isHandOf_73 ?_
        refine aw_cV2r hC hSt (t_X5_itemAt G l hM _ _ (h0 c1002 S1006 eS1006)) w_485 w_661 w_662 w_663 w_473 rfl rfl (by decide +kernel) ⟨Nat.le_of_ble_eq_true rfl, Nat.le_of_ble_eq_true rfl⟩ (cs_lt 1 5 0 (by decide) hM) (cs_k 1 5 0 (by decide) hM) rfl (Nat.le_of_ble_eq_true rfl) dX8_isHandOf_74 ⟨Nat.zero_le _, Nat.zero_le _⟩ ?_
        refine aw_icmp_eq hC 82 dX8_isHandOf_77 (by decide) (fun c1007 => ?_) (fun c1007 => ?_)
        · refine aw_iinc (v := (v7 + (1 : Int32))) hC 7 [(7, .int _), (0, .ref 38), (1, .int _), (2, .ref sc2), (3, .ref 1), (4, .int _), (5, .int _), (6, .int _)] dX8_isHandOf_82 rfl rfl (by decide) rfl ?_
          refine aw_goto hC 10 dX8_isHandOf_85 (by decide) ?_
          refine aw_sub [1, 2, 3, 4, 5, 6, 7, 0] rfl ?_
          have hTn := (h1 c1002 S1006 eS1006 c1007)
          have hMn : CS S1006 := hM
          have E : L_X8_isHandOf_10 sc2 (n + 1) S v1 v4 v5 v6 v7 = _ := (if_neg c1002).trans ((bd_eq eS1006).trans ((if_pos c1007).trans (rfl)))
          rw [E] at hk hr
          exact ih _ _ _ _ _ _ hMn hTn hr hk
        · refine aw_iconst (v := 0) hC dX8_isHandOf_80 (by decide) ?_
          refine aw_zret hC dX8_isHandOf_81 (Nat.le_refl _) (Nat.le_refl _) (by decide) ?_
          have E : L_X8_isHandOf_10 sc2 (n + 1) S v1 v4 v5 v6 v7 = _ := (if_neg c1002).trans ((bd_eq eS1006).trans ((if_neg c1007).trans (rfl)))
          rw [E] at hr
          exact hr rfl
      · refine aw_if_ne hC 59 dX8_isHandOf_24 (by decide) (fun c1003 => ?_) (fun c1003 => ?_)
        · simp only [bd_def, if_neg c1003] at Jc1003 ⊢
          exact Jc1003
        · refine aw_iconst (v := 1) hC dX8_isHandOf_27 (by decide) ?_
          refine aw_iload_n hC 1 dX8_isHandOf_28 rfl rfl ?_
          refine aw_iconst (v := 3) hC dX8_isHandOf_29 (by decide) ?_
          refine aw_idiv hC dX8_isHandOf_30 (by decide) ?_
          refine aw_iadd hC dX8_isHandOf_31 ?_
          refine aw_istore hC [(8, .int _), (0, .ref 38), (1, .int _), (2, .ref sc2), (3, .ref 1), (4, .int _), (5, .int _), (6, .int _), (7, .int _)] dX8_isHandOf_32 (by decide) rfl ?_
          generalize ex1004 : ((1 : Int32) + (v1 / (3 : Int32))) = x1004
          refine aw_aload_n hC 1 dX8_isHandOf_34 rfl rfl ?_
          refine aw_getP (b := 42) hC hSt 3 (cs_lt 38 8 0 (by decide) hM) (cs_k 38 8 0 (by decide) hM) rfl (by decide) w_618 rfl (cs_p 38 3 42 (by decide) hM) dX8_isHandOf_35 ?_
          refine aw_aload_n hC 3 dX8_isHandOf_38 rfl rfl ?_
          refine aw_iconst (v := 0) hC dX8_isHandOf_39 (by decide) ?_
          refine aw_iload hC 0 dX8_isHandOf_40 rfl ?_
          refine aw_iconst (v := 4) hC dX8_isHandOf_42 (by decide) ?_
          refine aw_iload_n hC 2 dX8_isHandOf_43 rfl rfl ?_
          refine aw_iconst (v := 3) hC dX8_isHandOf_44 (by decide) ?_
          refine aw_irem hC dX8_isHandOf_45 (by decide) ?_
          refine aw_imul hC dX8_isHandOf_46 ?_
          refine aw_aload_n hC 1 dX8_isHandOf_47 rfl rfl ?_
          refine aw_getP (b := 42) hC hSt 3 (cs_lt 38 8 0 (by decide) hM) (cs_k 38 8 0 (by decide) hM) rfl (by decide) w_618 rfl (cs_p 38 3 42 (by decide) hM) dX8_isHandOf_48 ?_
          refine aw_iload hC 0 dX8_isHandOf_51 rfl ?_
          refine aw_cV1r hC hSt (t_X1_spinBy G l hM _ _ (by decide)) w_97 w_659 w_247 w_248 w_84 rfl rfl (by decide +kernel) ⟨Nat.le_of_ble_eq_true rfl, Nat.le_of_ble_eq_true rfl⟩ (cs_lt 42 1 0 (by decide) hM) (cs_k 42 1 0 (by decide) hM) rfl (Nat.le_of_ble_eq_true rfl) dX8_isHandOf_53 ⟨Nat.zero_le _, Nat.zero_le _⟩ ?_
          refine aw_cV5v hC hSt (t_X1_advance G l hM _ _ _ _ _ _ (by decide) hsc2) w_124 w_660 w_229 w_230 w_84 rfl rfl (by decide +kernel) ⟨Nat.le_of_ble_eq_true rfl, Nat.le_of_ble_eq_true rfl⟩ (cs_lt 42 1 0 (by decide) hM) (cs_k 42 1 0 (by decide) hM) rfl (Nat.le_of_ble_eq_true rfl) dX8_isHandOf_56 ⟨Nat.zero_le _, Nat.zero_le _⟩ ?_
          generalize er1005 : f_X1_advance S 42 sc2 (0 : Int32) x1004 ((4 : Int32) * (v1 - v1 / (3 : Int32) * (3 : Int32))) (f_X1_spinBy S 42 x1004) = r1005
          have hM : CS r1005 := CS.of (by rw [← er1005]; exact q_X1_advance _ _ _ _ _ _ _) hM
          refine aw_sub [1, 2, 3, 4, 5, 6, 7, 8] rfl ?_
          subst er1005
          subst ex1004
          simp only [bd_def, if_pos c1003] at Jc1003 ⊢
          exact Jc1003
noncomputable def f_X8_isHandOf (S : HSt) (_o0 : Nat) (a1 : Int32) (sc2 : Nat) (_o3 : Nat) (a4 : Int32) (a5 : Int32) (a6 : Int32) : Int32 × HSt := bd (f_X1_begin S 42) fun r1 => bd (L_X8_isHandOf_10 sc2 1000 r1 a1 a4 a5 a6 (0 : Int32)) fun r2 => if r2.1 = 1 then (pr (r2.2.1) (r2.2.2.2.2.2.2.2)) else (pr ((1 : Int32)) (r2.2.2.2.2.2.2.2))
def p_X8_isHandOf (S : HSt) (_o0 : Nat) (a1 : Int32) (sc2 : Nat) (_o3 : Nat) (a4 : Int32) (a5 : Int32) (a6 : Int32) : Prop := (∀ r1, f_X1_begin S 42 = r1 → T_X8_isHandOf_10 sc2 1000 r1 a1 a4 a5 a6 (0 : Int32))
set_option maxRecDepth 100000 in
theorem t_X8_isHandOf (G : GG) (l : Launch) {S : HSt} (hM : CS S) (a1 : Int32) (sc2 : Nat) (a4 : Int32) (a5 : Int32) (a6 : Int32) (hsc2 : (sc2, 7, 0) ∈ cKT) (hp : p_X8_isHandOf S 38 a1 sc2 1 a4 a5 a6) : AM G l yX8_isHandOf cX8_isHandOf 9 (some .boolean) (rmD 4 0 0) 0 0 [.ref 38, .int a1, .ref sc2, .ref 1, .int a4, .int a5, .int a6] S (FP (some (.int (f_X8_isHandOf S 38 a1 sc2 1 a4 a5 a6).1)) ((f_X8_isHandOf S 38 a1 sc2 1 a4 a5 a6).2)) := by
  have h0 := hp
  unfold p_X8_isHandOf at h0
  refine AM.mk (by decide) (Nat.le_of_ble_eq_true rfl) ?_
  intro p e s m below meth c hC hSt _
  refine aw_aload_n hC 0 dX8_isHandOf_0 rfl rfl ?_
  refine aw_getP (b := 42) hC hSt 3 (cs_lt 38 8 0 (by decide) hM) (cs_k 38 8 0 (by decide) hM) rfl (by decide) w_618 rfl (cs_p 38 3 42 (by decide) hM) dX8_isHandOf_1 ?_
  refine aw_cV0v hC hSt (t_X1_begin G l hM _ (by decide)) w_79 w_657 w_562 w_563 w_84 rfl rfl (by decide +kernel) ⟨Nat.le_of_ble_eq_true rfl, Nat.le_of_ble_eq_true rfl⟩ (cs_lt 42 1 0 (by decide) hM) (cs_k 42 1 0 (by decide) hM) rfl (Nat.le_of_ble_eq_true rfl) dX8_isHandOf_4 ⟨Nat.zero_le _, Nat.zero_le _⟩ ?_
  generalize er1 : f_X1_begin S 42 = r1
  have hM : CS r1 := CS.of (by rw [← er1]; exact q_X1_begin _ _) hM
  refine aw_iconst (v := 0) hC dX8_isHandOf_7 (by decide) ?_
  refine aw_istore hC [(7, .int _), (0, .ref 38), (1, .int _), (2, .ref sc2), (3, .ref 1), (4, .int _), (5, .int _), (6, .int _)] dX8_isHandOf_8 (by decide) rfl ?_
  refine aw_sub [1, 2, 3, 4, 5, 6, 7, 0] rfl ?_
  refine l_X8_isHandOf_10 hC hSt hsc2 1000 _ _ _ _ _ _ hM (h0 r1 er1) (fun c3 => ?_) (fun c3 => ?_)
  · revert c3
    generalize er2 : L_X8_isHandOf_10 sc2 1000 r1 a1 a4 a5 a6 (0 : Int32) = r2
    intro c3
    exact FP.qI ((bd_eq er1).trans ((bd_eq er2).trans ((if_pos c3).trans (rfl))))
  · revert c3
    generalize er2 : L_X8_isHandOf_10 sc2 1000 r1 a1 a4 a5 a6 (0 : Int32) = r2
    have hM : CS r2.2.2.2.2.2.2.2 := CS.of (by rw [← er2]; exact qL_X8_isHandOf_10 sc2 _ _ _ _ _ _ _) hM
    intro c3
    refine aw_iconst (v := 1) hC dX8_isHandOf_88 (by decide) ?_
    refine aw_zret hC dX8_isHandOf_89 (Nat.le_refl _) (Nat.le_refl _) (by decide) ?_
    exact FP.qI ((bd_eq er1).trans ((bd_eq er2).trans ((if_neg c3).trans (rfl))))
theorem q_X8_isHandOf (S : HSt) (_o0 : Nat) (a1 : Int32) (sc2 : Nat) (_o3 : Nat) (a4 : Int32) (a5 : Int32) (a6 : Int32) : shp ((f_X8_isHandOf S _o0 a1 sc2 _o3 a4 a5 a6).2) = shp S := by
  unfold f_X8_isHandOf
  repeat' (first | with_reducible refine shpr1 ?_ | with_reducible rfl | with_reducible refine (q_X1_advance _ _ _ _ _ _ _).trans ?_ | with_reducible refine (q_X1_begin _ _).trans ?_ | with_reducible refine (qL_X8_isHandOf_10 sc2 _ _ _ _ _ _ _).trans ?_ | with_reducible refine (shp_sI _ _ _ _).trans ?_ | with_reducible refine (shp_sJ _ _ _ _).trans ?_ | with_reducible refine (shp_rI _ _ _).trans ?_ | with_reducible refine shi ?_ ?_ | with_reducible refine shb (fun _ _ => ?_) | with_reducible refine shiP (fun q : Int32 × HSt => q.2) ?_ ?_ | with_reducible refine shbP (fun q : Int32 × HSt => q.2) (fun _ _ => ?_) | (subst_vars; with_reducible rfl) | (subst_vars; with_reducible refine (q_X1_advance _ _ _ _ _ _ _).trans ?_) | (subst_vars; with_reducible refine (q_X1_begin _ _).trans ?_) | (subst_vars; with_reducible refine (qL_X8_isHandOf_10 sc2 _ _ _ _ _ _ _).trans ?_) | (subst_vars; with_reducible refine (shp_sI _ _ _ _).trans ?_) | (subst_vars; with_reducible refine (shp_sJ _ _ _ _).trans ?_) | (subst_vars; with_reducible refine (shp_rI _ _ _).trans ?_) | (subst_vars; with_reducible refine shi ?_ ?_) | (subst_vars; with_reducible refine shb (fun _ _ => ?_)))
noncomputable def F_X2_moveAt (S : HSt) (_o0 : Nat) (a1 : Int32) : Int32 × HSt := bd ((if a1 < 0 then (-1000000 : Int32) else (if (gI S 52 (0 : Int32).toNatClampNeg) ≤ a1 then (-1000000 : Int32) else (gI S (46 + (0 : Int32).toNatClampNeg) a1.toNatClampNeg)))) fun x3 => pr (x3) (S)
noncomputable def f_X2_moveAt (S : HSt) (_o0 : Nat) (a1 : Int32) : Int32 := (F_X2_moveAt S _o0 a1).1
def p_X2_moveAt (S : HSt) (_o0 : Nat) (a1 : Int32) : Prop := ((¬ a1 < 0) → (¬ (gI S 52 (0 : Int32).toNatClampNeg) ≤ a1) → vp_in a1 5)
set_option maxRecDepth 100000 in
theorem t_X2_moveAt (G : GG) (l : Launch) {S : HSt} (hM : CS S) (a1 : Int32)  (hp : p_X2_moveAt S 43 a1) : AM G l yX2_moveAt cX2_moveAt 2 (some .int) (rmD 0 0 0) 0 0 [.ref 43, .int a1] S (FP (some (.int (f_X2_moveAt S 43 a1))) (S)) := by
  have h0 := hp
  unfold p_X2_moveAt at h0
  refine AM.mk (by decide) (Nat.le_of_ble_eq_true rfl) ?_
  intro p e s m below meth c hC hSt _
  refine aw_iload_n hC 1 dX2_moveAt_0 rfl rfl ?_
  refine aw_cut (S' := S) (pc' := 27) (lv' := [(0, .ref 43), (1, .int a1)]) (st' := [.int (if a1 < 0 then (-1000000 : Int32) else (if (gI S 52 (0 : Int32).toNatClampNeg) ≤ a1 then (-1000000 : Int32) else (gI S (46 + (0 : Int32).toNatClampNeg) a1.toNatClampNeg)))]) ?_ (fun Jc1 => ?_)
  · generalize ex3 : (if a1 < 0 then (-1000000 : Int32) else (if (gI S 52 (0 : Int32).toNatClampNeg) ≤ a1 then (-1000000 : Int32) else (gI S (46 + (0 : Int32).toNatClampNeg) a1.toNatClampNeg))) = x3
    refine aw_iret hC dX2_moveAt_27 (Nat.le_refl _) (Nat.le_refl _) ?_
    exact FP.pI ((bd_eq ex3).trans (rfl))
  · refine aw_if_lt hC 25 dX2_moveAt_1 (by decide) (fun c1 => ?_) (fun c1 => ?_)
    · refine aw_ldc (v := -1000000) hC w_264 dX2_moveAt_25 ?_
      simp only [bd_def, if_pos c1] at Jc1 ⊢
      exact Jc1
    · refine aw_iload_n hC 1 dX2_moveAt_4 rfl rfl ?_
      refine aw_aload_n hC 0 dX2_moveAt_5 rfl rfl ?_
      refine aw_getP (b := 52) hC hSt 2 (cs_lt 43 2 0 (by decide) hM) (cs_k 43 2 0 (by decide) hM) rfl (by decide) w_135 rfl (cs_p 43 2 52 (by decide) hM) dX2_moveAt_6 ?_
      refine aw_iconst (v := 0) hC dX2_moveAt_9 (by decide) ?_
      refine aw_iald hC hSt (cs_lt 52 14 6 (by decide) hM) (cs_k 52 14 6 (by decide) hM) (vp_len (n := 6) (cs_l 52 14 6 (by decide) hM) (by unfold vp_in; decide)) dX2_moveAt_10 ?_
      refine aw_icmp_ge hC 25 dX2_moveAt_11 (by decide) (fun c2 => ?_) (fun c2 => ?_)
      · refine aw_ldc (v := -1000000) hC w_264 dX2_moveAt_25 ?_
        simp only [bd_def, if_neg c1, if_pos c2] at Jc1 ⊢
        exact Jc1
      · refine aw_aload_n hC 0 dX2_moveAt_14 rfl rfl ?_
        refine aw_getP (b := 45) hC hSt 1 (cs_lt 43 2 0 (by decide) hM) (cs_k 43 2 0 (by decide) hM) rfl (by decide) w_134 rfl (cs_p 43 1 45 (by decide) hM) dX2_moveAt_15 ?_
        refine aw_iconst (v := 0) hC dX2_moveAt_18 (by decide) ?_
        refine aw_aaldI hC hSt (cs_lt 45 19 6 (by decide) hM) (cs_k 45 19 6 (by decide) hM) (vp_len (n := 6) (cs_l 45 19 6 (by decide) hM) (by unfold vp_in; decide)) (cs_p 45 (0 : Int32).toNatClampNeg (46 + (0 : Int32).toNatClampNeg) (ar_p45 (by unfold vp_in; decide)) hM) dX2_moveAt_19 ?_
        refine aw_iload_n hC 1 dX2_moveAt_20 rfl rfl ?_
        refine aw_iald hC hSt (cs_lt (46 + (0 : Int32).toNatClampNeg) 14 5 (ar_m45 (by unfold vp_in; decide)) hM) (cs_k (46 + (0 : Int32).toNatClampNeg) 14 5 (ar_m45 (by unfold vp_in; decide)) hM) (vp_len (n := 5) (cs_l (46 + (0 : Int32).toNatClampNeg) 14 5 (ar_m45 (by unfold vp_in; decide)) hM) (h0 c1 c2)) dX2_moveAt_21 ?_
        refine aw_goto hC 27 dX2_moveAt_22 (by decide) ?_
        simp only [bd_def, if_neg c1, if_neg c2] at Jc1 ⊢
        exact Jc1
noncomputable def f_X2_worthOf (S : HSt) (_o0 : Nat) (sc1 : Nat) (a2 : Int32) (a3 : Int32) (a4 : Int32) : Int32 × HSt := bd (((((((a2 * (4 : Int32)) + a4) * (2 : Int32)) + a3) * (16 : Int32)) + (gI S (56 + a2.toNatClampNeg) 1))) fun x1 => bd ((if x1 < 0 then (0 : Int32) else (if (nI (gL S 54)) ≤ x1 then (0 : Int32) else (1 : Int32)))) fun x4 => bd ((if x4 = 0 then S else (if (gI S 54 x1.toNatClampNeg) = (-1 : Int32) then (bd (f_X9_likelyFrom S 55 sc1 (gI S (56 + a2.toNatClampNeg) 4) (gI S (56 + a2.toNatClampNeg) 1) a3 a4) fun r7 => bd ((sI r7.2 54 x1.toNatClampNeg r7.1)) fun S8 => S8) else S))) fun S9 => bd ((if x4 = 0 then (0 : Int32) else (if (f_X1_hasFallen S9 (56 + a2.toNatClampNeg)) = 0 then (if (gI S9 (56 + a2.toNatClampNeg) 0) < (gI S9 54 x1.toNatClampNeg) then (0 : Int32) else (1 : Int32)) else (0 : Int32)))) fun x13 => pr ((f_X10_pointsFor S9 (sc1 + 1) a3 (gI S9 (56 + a2.toNatClampNeg) 4) x13)) (S9)
def p_X2_worthOf (S : HSt) (_o0 : Nat) (sc1 : Nat) (a2 : Int32) (a3 : Int32) (a4 : Int32) : Prop := (vp_in a2 6) ∧ (∀ x1 : Int32, ((((((a2 * (4 : Int32)) + a4) * (2 : Int32)) + a3) * (16 : Int32)) + (gI S (56 + a2.toNatClampNeg) 1)) = x1 → ∀ x4 : Int32, (if x1 < 0 then (0 : Int32) else (if (nI (gL S 54)) ≤ x1 then (0 : Int32) else (1 : Int32))) = x4 → (¬ x4 = 0) → vp_in x1 640) ∧ (∀ x1 : Int32, ((((((a2 * (4 : Int32)) + a4) * (2 : Int32)) + a3) * (16 : Int32)) + (gI S (56 + a2.toNatClampNeg) 1)) = x1 → ∀ x4 : Int32, (if x1 < 0 then (0 : Int32) else (if (nI (gL S 54)) ≤ x1 then (0 : Int32) else (1 : Int32))) = x4 → (¬ x4 = 0) → ((gI S 54 x1.toNatClampNeg) = (-1 : Int32)) → p_X9_likelyFrom S 55 sc1 (gI S (56 + a2.toNatClampNeg) 4) (gI S (56 + a2.toNatClampNeg) 1) a3 a4) ∧ (∀ x1 : Int32, ((((((a2 * (4 : Int32)) + a4) * (2 : Int32)) + a3) * (16 : Int32)) + (gI S (56 + a2.toNatClampNeg) 1)) = x1 → ∀ x4 : Int32, (if x1 < 0 then (0 : Int32) else (if (nI (gL S 54)) ≤ x1 then (0 : Int32) else (1 : Int32))) = x4 → (¬ x4 = 0) → ((gI S 54 x1.toNatClampNeg) = (-1 : Int32)) → ∀ r7, f_X9_likelyFrom S 55 sc1 (gI S (56 + a2.toNatClampNeg) 4) (gI S (56 + a2.toNatClampNeg) 1) a3 a4 = r7 → vp_in x1 640) ∧ (∀ x1 : Int32, ((((((a2 * (4 : Int32)) + a4) * (2 : Int32)) + a3) * (16 : Int32)) + (gI S (56 + a2.toNatClampNeg) 1)) = x1 → ∀ x4 : Int32, (if x1 < 0 then (0 : Int32) else (if (nI (gL S 54)) ≤ x1 then (0 : Int32) else (1 : Int32))) = x4 → ∀ S9 : HSt, (if x4 = 0 then S else (if (gI S 54 x1.toNatClampNeg) = (-1 : Int32) then (bd (f_X9_likelyFrom S 55 sc1 (gI S (56 + a2.toNatClampNeg) 4) (gI S (56 + a2.toNatClampNeg) 1) a3 a4) fun r7 => bd ((sI r7.2 54 x1.toNatClampNeg r7.1)) fun S8 => S8) else S)) = S9 → (¬ x4 = 0) → ((f_X1_hasFallen S9 (56 + a2.toNatClampNeg)) = 0) → vp_in x1 640) ∧ (∀ x1 : Int32, ((((((a2 * (4 : Int32)) + a4) * (2 : Int32)) + a3) * (16 : Int32)) + (gI S (56 + a2.toNatClampNeg) 1)) = x1 → ∀ x4 : Int32, (if x1 < 0 then (0 : Int32) else (if (nI (gL S 54)) ≤ x1 then (0 : Int32) else (1 : Int32))) = x4 → ∀ S9 : HSt, (if x4 = 0 then S else (if (gI S 54 x1.toNatClampNeg) = (-1 : Int32) then (bd (f_X9_likelyFrom S 55 sc1 (gI S (56 + a2.toNatClampNeg) 4) (gI S (56 + a2.toNatClampNeg) 1) a3 a4) fun r7 => bd ((sI r7.2 54 x1.toNatClampNeg r7.1)) fun S8 => S8) else S)) = S9 → ∀ x13 : Int32, (if x4 = 0 then (0 : Int32) else (if (f_X1_hasFallen S9 (56 + a2.toNatClampNeg)) = 0 then (if (gI S9 (56 + a2.toNatClampNeg) 0) < (gI S9 54 x1.toNatClampNeg) then (0 : Int32) else (1 : Int32)) else (0 : Int32))) = x13 → p_X10_pointsFor S9 (sc1 + 1) a3 (gI S9 (56 + a2.toNatClampNeg) 4) x13)
set_option maxRecDepth 100000 in
theorem t_X2_worthOf (G : GG) (l : Launch) {S : HSt} (hM : CS S) (sc1 : Nat) (a2 : Int32) (a3 : Int32) (a4 : Int32) (hsc1 : (sc1, 7, 0) ∈ cKT) (hp : p_X2_worthOf S 43 sc1 a2 a3 a4) : AM G l yX2_worthOf cX2_worthOf 9 (some .int) (rmD 4 0 0) 0 0 [.ref 43, .ref sc1, .int a2, .int a3, .int a4] S (FP (some (.int (f_X2_worthOf S 43 sc1 a2 a3 a4).1)) ((f_X2_worthOf S 43 sc1 a2 a3 a4).2)) := by
  obtain ⟨h0, h1, h2, h3, h4, h5⟩ := hp
  refine AM.mk (by decide) (Nat.le_of_ble_eq_true rfl) ?_
  intro p e s m below meth c hC hSt _
  refine aw_aload_n hC 0 dX2_worthOf_0 rfl rfl ?_
  refine aw_getP (b := 44) hC hSt 0 (cs_lt 43 2 0 (by decide) hM) (cs_k 43 2 0 (by decide) hM) rfl (by decide) w_132 rfl (cs_p 43 0 44 (by decide) hM) dX2_worthOf_1 ?_
  refine aw_iload_n hC 2 dX2_worthOf_4 rfl rfl ?_
  refine aw_aaldL hC hSt (cs_lt 44 17 6 (by decide) hM) (cs_k 44 17 6 (by decide) hM) (vp_len (n := 6) (cs_l 44 17 6 (by decide) hM) (h0)) (cs_p 44 a2.toNatClampNeg (56 + a2.toNatClampNeg) (ar_p44 (h0)) hM) dX2_worthOf_5 ?_
  refine aw_astore hC [(5, .ref (56 + a2.toNatClampNeg)), (0, .ref 43), (1, .ref sc1), (2, .int _), (3, .int _), (4, .int _)] dX2_worthOf_6 (by decide) rfl ?_
  refine aw_iload_n hC 3 dX2_worthOf_8 rfl rfl ?_
  refine aw_iconst (v := 4) hC dX2_worthOf_9 (by decide) ?_
  refine aw_imul hC dX2_worthOf_10 ?_
  refine aw_iload hC 5 dX2_worthOf_11 rfl ?_
  refine aw_iadd hC dX2_worthOf_13 ?_
  refine aw_iconst (v := 2) hC dX2_worthOf_14 (by decide) ?_
  refine aw_imul hC dX2_worthOf_15 ?_
  refine aw_iload_n hC 4 dX2_worthOf_16 rfl rfl ?_
  refine aw_iadd hC dX2_worthOf_17 ?_
  refine aw_bipush (v := 16) hC dX2_worthOf_18 (by decide) ?_
  refine aw_imul hC dX2_worthOf_20 ?_
  refine aw_aload hC 0 dX2_worthOf_21 rfl ?_
  refine aw_getI hC hSt 1 (cs_lt (56 + a2.toNatClampNeg) 1 0 (ar_m44 (h0)) hM) (cs_k (56 + a2.toNatClampNeg) 1 0 (ar_m44 (h0)) hM) rfl (by decide) w_196 rfl dX2_worthOf_23 ?_
  refine aw_iadd hC dX2_worthOf_26 ?_
  refine aw_istore hC [(6, .int _), (5, .ref (56 + a2.toNatClampNeg)), (0, .ref 43), (1, .ref sc1), (2, .int _), (3, .int _), (4, .int _)] dX2_worthOf_27 (by decide) rfl ?_
  generalize ex1 : ((((((a2 * (4 : Int32)) + a4) * (2 : Int32)) + a3) * (16 : Int32)) + (gI S (56 + a2.toNatClampNeg) 1)) = x1
  refine aw_iload hC 0 dX2_worthOf_29 rfl ?_
  refine aw_cut (S' := S) (pc' := 49) (lv' := [(6, .int x1), (5, .ref (56 + a2.toNatClampNeg)), (0, .ref 43), (1, .ref sc1), (2, .int a2), (3, .int a3), (4, .int a4)]) (st' := [.int (if x1 < 0 then (0 : Int32) else (if (nI (gL S 54)) ≤ x1 then (0 : Int32) else (1 : Int32)))]) ?_ (fun Jc2 => ?_)
  · generalize ex4 : (if x1 < 0 then (0 : Int32) else (if (nI (gL S 54)) ≤ x1 then (0 : Int32) else (1 : Int32))) = x4
    refine aw_istore hC [(7, .int _), (6, .int _), (5, .ref (56 + a2.toNatClampNeg)), (0, .ref 43), (1, .ref sc1), (2, .int _), (3, .int _), (4, .int _)] dX2_worthOf_49 (by decide) rfl ?_
    refine aw_iload hC 0 dX2_worthOf_51 rfl ?_
    refine aw_cut (S' := (if x4 = 0 then S else (if (gI S 54 x1.toNatClampNeg) = (-1 : Int32) then (bd (f_X9_likelyFrom S 55 sc1 (gI S (56 + a2.toNatClampNeg) 4) (gI S (56 + a2.toNatClampNeg) 1) a3 a4) fun r7 => bd ((sI r7.2 54 x1.toNatClampNeg r7.1)) fun S8 => S8) else S))) (pc' := 95) (lv' := [(7, .int x4), (6, .int x1), (5, .ref (56 + a2.toNatClampNeg)), (0, .ref 43), (1, .ref sc1), (2, .int a2), (3, .int a3), (4, .int a4)]) (st' := []) ?_ (fun Jc5 => ?_)
    · generalize eS9 : (if x4 = 0 then S else (if (gI S 54 x1.toNatClampNeg) = (-1 : Int32) then (bd (f_X9_likelyFrom S 55 sc1 (gI S (56 + a2.toNatClampNeg) 4) (gI S (56 + a2.toNatClampNeg) 1) a3 a4) fun r7 => bd ((sI r7.2 54 x1.toNatClampNeg r7.1)) fun S8 => S8) else S)) = S9
      have hM : CS S9 := CS.of (by rw [← eS9]; repeat' (first | with_reducible rfl | with_reducible refine (q_X9_likelyFrom _ _ _ _ _ _ _).trans ?_ | with_reducible refine (shp_sI _ _ _ _).trans ?_ | with_reducible refine (shp_sJ _ _ _ _).trans ?_ | with_reducible refine (shp_rI _ _ _).trans ?_ | with_reducible refine shi ?_ ?_ | with_reducible refine shb (fun _ _ => ?_) | (subst_vars; with_reducible rfl) | (subst_vars; with_reducible refine (q_X9_likelyFrom _ _ _ _ _ _ _).trans ?_) | (subst_vars; with_reducible refine (shp_sI _ _ _ _).trans ?_) | (subst_vars; with_reducible refine (shp_sJ _ _ _ _).trans ?_) | (subst_vars; with_reducible refine (shp_rI _ _ _).trans ?_) | (subst_vars; with_reducible refine shi ?_ ?_) | (subst_vars; with_reducible refine shb (fun _ _ => ?_)))) hM
      refine aw_iload hC 0 dX2_worthOf_95 rfl ?_
      refine aw_cut (S' := S9) (pc' := 128) (lv' := [(7, .int x4), (6, .int x1), (5, .ref (56 + a2.toNatClampNeg)), (0, .ref 43), (1, .ref sc1), (2, .int a2), (3, .int a3), (4, .int a4)]) (st' := [.int (if x4 = 0 then (0 : Int32) else (if (f_X1_hasFallen S9 (56 + a2.toNatClampNeg)) = 0 then (if (gI S9 (56 + a2.toNatClampNeg) 0) < (gI S9 54 x1.toNatClampNeg) then (0 : Int32) else (1 : Int32)) else (0 : Int32)))]) ?_ (fun Jc10 => ?_)
      · generalize ex13 : (if x4 = 0 then (0 : Int32) else (if (f_X1_hasFallen S9 (56 + a2.toNatClampNeg)) = 0 then (if (gI S9 (56 + a2.toNatClampNeg) 0) < (gI S9 54 x1.toNatClampNeg) then (0 : Int32) else (1 : Int32)) else (0 : Int32))) = x13
        refine aw_istore hC [(8, .int _), (7, .int _), (6, .int _), (5, .ref (56 + a2.toNatClampNeg)), (0, .ref 43), (1, .ref sc1), (2, .int _), (3, .int _), (4, .int _)] dX2_worthOf_128 (by decide) rfl ?_
        refine aw_aload_n hC 5 dX2_worthOf_130 rfl rfl ?_
        refine aw_getP (b := (sc1 + 1)) hC hSt 0 (cs_lt sc1 7 0 hsc1 hM) (cs_k sc1 7 0 hsc1 hM) rfl (by decide) w_199 rfl (cs_p sc1 0 (sc1 + 1) (sc_pway hsc1) hM) dX2_worthOf_131 ?_
        refine aw_iload_n hC 7 dX2_worthOf_134 rfl rfl ?_
        refine aw_aload hC 3 dX2_worthOf_135 rfl ?_
        refine aw_getI hC hSt 4 (cs_lt (56 + a2.toNatClampNeg) 1 0 (ar_m44 (h0)) hM) (cs_k (56 + a2.toNatClampNeg) 1 0 (ar_m44 (h0)) hM) rfl (by decide) w_197 rfl dX2_worthOf_137 ?_
        refine aw_iload hC 0 dX2_worthOf_140 rfl ?_
        refine aw_cV3r hC hSt (t_X10_pointsFor G l hM _ _ _ _ (sc_way hsc1) (h5 x1 ex1 x4 ex4 S9 eS9 x13 ex13)) w_195 w_206 w_207 w_208 w_18 rfl rfl (by decide +kernel) ⟨Nat.le_of_ble_eq_true rfl, Nat.le_of_ble_eq_true rfl⟩ (cs_lt (sc1 + 1) 10 0 (sc_way hsc1) hM) (cs_k (sc1 + 1) 10 0 (sc_way hsc1) hM) rfl (Nat.le_of_ble_eq_true rfl) dX2_worthOf_142 ⟨Nat.zero_le _, Nat.zero_le _⟩ ?_
        refine aw_iret hC dX2_worthOf_145 (Nat.le_refl _) (Nat.le_refl _) ?_
        exact FP.qI ((bd_eq ex1).trans ((bd_eq ex4).trans ((bd_eq eS9).trans ((bd_eq ex13).trans (rfl)))))
      · refine aw_if_eq hC 127 dX2_worthOf_97 (by decide) (fun c10 => ?_) (fun c10 => ?_)
        · refine aw_iconst (v := 0) hC dX2_worthOf_127 (by decide) ?_
          simp only [bd_def, if_pos c10] at Jc10 ⊢
          exact Jc10
        · refine aw_aload hC 2 dX2_worthOf_100 rfl ?_
          refine aw_cV0r hC hSt (t_X1_hasFallen G l hM _ (ar_m44 (h0))) w_88 w_203 w_204 w_205 w_84 rfl rfl (by decide +kernel) ⟨Nat.le_of_ble_eq_true rfl, Nat.le_of_ble_eq_true rfl⟩ (cs_lt (56 + a2.toNatClampNeg) 1 0 (ar_m44 (h0)) hM) (cs_k (56 + a2.toNatClampNeg) 1 0 (ar_m44 (h0)) hM) rfl (Nat.le_of_ble_eq_true rfl) dX2_worthOf_102 ⟨Nat.zero_le _, Nat.zero_le _⟩ ?_
          refine aw_if_ne hC 127 dX2_worthOf_105 (by decide) (fun c11 => ?_) (fun c11 => ?_)
          · refine aw_iconst (v := 0) hC dX2_worthOf_127 (by decide) ?_
            simp only [bd_def, if_neg c10, if_neg c11] at Jc10 ⊢
            exact Jc10
          · refine aw_aload hC 2 dX2_worthOf_108 rfl ?_
            refine aw_getI hC hSt 0 (cs_lt (56 + a2.toNatClampNeg) 1 0 (ar_m44 (h0)) hM) (cs_k (56 + a2.toNatClampNeg) 1 0 (ar_m44 (h0)) hM) rfl (by decide) w_198 rfl dX2_worthOf_110 ?_
            refine aw_aload_n hC 3 dX2_worthOf_113 rfl rfl ?_
            refine aw_getP (b := 54) hC hSt 4 (cs_lt 43 2 0 (by decide) hM) (cs_k 43 2 0 (by decide) hM) rfl (by decide) w_137 rfl (cs_p 43 4 54 (by decide) hM) dX2_worthOf_114 ?_
            refine aw_iload hC 1 dX2_worthOf_117 rfl ?_
            refine aw_iald hC hSt (cs_lt 54 14 640 (by decide) hM) (cs_k 54 14 640 (by decide) hM) (vp_len (n := 640) (cs_l 54 14 640 (by decide) hM) (h4 x1 ex1 x4 ex4 S9 eS9 c10 c11)) dX2_worthOf_119 ?_
            refine aw_icmp_lt hC 127 dX2_worthOf_120 (by decide) (fun c12 => ?_) (fun c12 => ?_)
            · refine aw_iconst (v := 0) hC dX2_worthOf_127 (by decide) ?_
              simp only [bd_def, if_neg c10, if_pos c11, if_pos c12] at Jc10 ⊢
              exact Jc10
            · refine aw_iconst (v := 1) hC dX2_worthOf_123 (by decide) ?_
              refine aw_goto hC 128 dX2_worthOf_124 (by decide) ?_
              simp only [bd_def, if_neg c10, if_pos c11, if_neg c12] at Jc10 ⊢
              exact Jc10
    · refine aw_if_eq hC 95 dX2_worthOf_53 (by decide) (fun c5 => ?_) (fun c5 => ?_)
      · simp only [bd_def, if_pos c5] at Jc5 ⊢
        exact Jc5
      · refine aw_aload_n hC 3 dX2_worthOf_56 rfl rfl ?_
        refine aw_getP (b := 54) hC hSt 4 (cs_lt 43 2 0 (by decide) hM) (cs_k 43 2 0 (by decide) hM) rfl (by decide) w_137 rfl (cs_p 43 4 54 (by decide) hM) dX2_worthOf_57 ?_
        refine aw_iload hC 1 dX2_worthOf_60 rfl ?_
        refine aw_iald hC hSt (cs_lt 54 14 640 (by decide) hM) (cs_k 54 14 640 (by decide) hM) (vp_len (n := 640) (cs_l 54 14 640 (by decide) hM) (h1 x1 ex1 x4 ex4 c5)) dX2_worthOf_62 ?_
        refine aw_iconst (v := -1) hC dX2_worthOf_63 (by decide) ?_
        refine aw_icmp_ne hC 95 dX2_worthOf_64 (by decide) (fun c6 => ?_) (fun c6 => ?_)
        · simp only [bd_def, if_neg c5, if_neg c6] at Jc5 ⊢
          exact Jc5
        · refine aw_aload_n hC 3 dX2_worthOf_67 rfl rfl ?_
          refine aw_getP (b := 54) hC hSt 4 (cs_lt 43 2 0 (by decide) hM) (cs_k 43 2 0 (by decide) hM) rfl (by decide) w_137 rfl (cs_p 43 4 54 (by decide) hM) dX2_worthOf_68 ?_
          refine aw_iload hC 1 dX2_worthOf_71 rfl ?_
          refine aw_aload_n hC 3 dX2_worthOf_73 rfl rfl ?_
          refine aw_getP (b := 55) hC hSt 5 (cs_lt 43 2 0 (by decide) hM) (cs_k 43 2 0 (by decide) hM) rfl (by decide) w_141 rfl (cs_p 43 5 55 (by decide) hM) dX2_worthOf_74 ?_
          refine aw_aload_n hC 4 dX2_worthOf_77 rfl rfl ?_
          refine aw_aload hC 2 dX2_worthOf_78 rfl ?_
          refine aw_getI hC hSt 4 (cs_lt (56 + a2.toNatClampNeg) 1 0 (ar_m44 (h0)) hM) (cs_k (56 + a2.toNatClampNeg) 1 0 (ar_m44 (h0)) hM) rfl (by decide) w_197 rfl dX2_worthOf_80 ?_
          refine aw_aload hC 2 dX2_worthOf_83 rfl ?_
          refine aw_getI hC hSt 1 (cs_lt (56 + a2.toNatClampNeg) 1 0 (ar_m44 (h0)) hM) (cs_k (56 + a2.toNatClampNeg) 1 0 (ar_m44 (h0)) hM) rfl (by decide) w_196 rfl dX2_worthOf_85 ?_
          refine aw_iload_n hC 6 dX2_worthOf_88 rfl rfl ?_
          refine aw_iload hC 7 dX2_worthOf_89 rfl ?_
          refine aw_cV5r hC hSt (t_X9_likelyFrom G l hM _ _ _ _ _ _ (by decide) hsc1 (h2 x1 ex1 x4 ex4 c5 c6)) w_194 w_200 w_201 w_202 w_140 rfl rfl (by decide +kernel) ⟨Nat.le_of_ble_eq_true rfl, Nat.le_of_ble_eq_true rfl⟩ (cs_lt 55 9 0 (by decide) hM) (cs_k 55 9 0 (by decide) hM) rfl (Nat.le_of_ble_eq_true rfl) dX2_worthOf_91 ⟨Nat.zero_le _, Nat.zero_le _⟩ ?_
          generalize er7 : f_X9_likelyFrom S 55 sc1 (gI S (56 + a2.toNatClampNeg) 4) (gI S (56 + a2.toNatClampNeg) 1) a3 a4 = r7
          have hM : CS r7.2 := CS.of (by rw [← er7]; exact q_X9_likelyFrom _ _ _ _ _ _ _) hM
          refine aw_iast hC hSt (cs_lt 54 14 640 (by decide) hM) (cs_k 54 14 640 (by decide) hM) (vp_len (n := 640) (cs_l 54 14 640 (by decide) hM) (h3 x1 ex1 x4 ex4 c5 c6 r7 er7)) dX2_worthOf_94 ?_
          generalize eS8 : (sI r7.2 54 x1.toNatClampNeg r7.1) = S8
          have hM : CS S8 := CS.of (by rw [← eS8]; exact shp_sI _ _ _ _) hM
          subst eS8
          subst er7
          simp only [bd_def, if_neg c5, if_pos c6] at Jc5 ⊢
          exact Jc5
  · refine aw_if_lt hC 48 dX2_worthOf_31 (by decide) (fun c2 => ?_) (fun c2 => ?_)
    · refine aw_iconst (v := 0) hC dX2_worthOf_48 (by decide) ?_
      simp only [bd_def, if_pos c2] at Jc2 ⊢
      exact Jc2
    · refine aw_iload hC 0 dX2_worthOf_34 rfl ?_
      refine aw_aload_n hC 2 dX2_worthOf_36 rfl rfl ?_
      refine aw_getP (b := 54) hC hSt 4 (cs_lt 43 2 0 (by decide) hM) (cs_k 43 2 0 (by decide) hM) rfl (by decide) w_137 rfl (cs_p 43 4 54 (by decide) hM) dX2_worthOf_37 ?_
      refine aw_alen hC hSt (cs_lt 54 14 640 (by decide) hM) (cs_k 54 14 640 (by decide) hM) (by decide) (by decide) dX2_worthOf_40 ?_
      refine aw_icmp_ge hC 48 dX2_worthOf_41 (by decide) (fun c3 => ?_) (fun c3 => ?_)
      · refine aw_iconst (v := 0) hC dX2_worthOf_48 (by decide) ?_
        simp only [bd_def, if_neg c2, if_pos c3] at Jc2 ⊢
        exact Jc2
      · refine aw_iconst (v := 1) hC dX2_worthOf_44 (by decide) ?_
        refine aw_goto hC 49 dX2_worthOf_45 (by decide) ?_
        simp only [bd_def, if_neg c2, if_neg c3] at Jc2 ⊢
        exact Jc2
theorem q_X2_worthOf (S : HSt) (_o0 : Nat) (sc1 : Nat) (a2 : Int32) (a3 : Int32) (a4 : Int32) : shp ((f_X2_worthOf S _o0 sc1 a2 a3 a4).2) = shp S := by
  unfold f_X2_worthOf
  repeat' (first | with_reducible refine shpr1 ?_ | with_reducible rfl | with_reducible refine (q_X9_likelyFrom _ _ _ _ _ _ _).trans ?_ | with_reducible refine (shp_sI _ _ _ _).trans ?_ | with_reducible refine (shp_sJ _ _ _ _).trans ?_ | with_reducible refine (shp_rI _ _ _).trans ?_ | with_reducible refine shi ?_ ?_ | with_reducible refine shb (fun _ _ => ?_) | with_reducible refine shiP (fun q : Int32 × HSt => q.2) ?_ ?_ | with_reducible refine shbP (fun q : Int32 × HSt => q.2) (fun _ _ => ?_) | (subst_vars; with_reducible rfl) | (subst_vars; with_reducible refine (q_X9_likelyFrom _ _ _ _ _ _ _).trans ?_) | (subst_vars; with_reducible refine (shp_sI _ _ _ _).trans ?_) | (subst_vars; with_reducible refine (shp_sJ _ _ _ _).trans ?_) | (subst_vars; with_reducible refine (shp_rI _ _ _).trans ?_) | (subst_vars; with_reducible refine shi ?_ ?_) | (subst_vars; with_reducible refine shb (fun _ _ => ?_)))
noncomputable def f_X11_found (S : HSt) (_o0 : Nat) (a1 : Int32) : Int64 × HSt := bd ((sI S 0 10 a1)) fun S1 => pr (((-9000000000000000010 : Int64) - a1.toInt64)) (S1)
set_option maxRecDepth 100000 in
theorem t_X11_found (G : GG) (l : Launch) {S : HSt} (hM : CS S) (a1 : Int32)   : AM G l yX11_found cX11_found 2 (some .long) (rmD 0 0 0) 0 0 [.ref 0, .int a1] S (FP (some (.long (f_X11_found S 0 a1).1)) ((f_X11_found S 0 a1).2)) := by
  refine AM.mk (by decide) (Nat.le_of_ble_eq_true rfl) ?_
  intro p e s m below meth c hC hSt _
  refine aw_aload_n hC 0 dX11_found_0 rfl rfl ?_
  refine aw_iload_n hC 1 dX11_found_1 rfl rfl ?_
  refine aw_putI hC hSt 10 (cs_lt 0 11 0 (by decide) hM) (cs_k 0 11 0 (by decide) hM) rfl (by decide) w_695 rfl rfl rfl rfl dX11_found_2 ?_
  generalize eS1 : (sI S 0 10 a1) = S1
  have hM : CS S1 := CS.of (by rw [← eS1]; exact shp_sI _ _ _ _) hM
  refine aw_ldc2 (v := -9000000000000000010) hC w_708 dX11_found_5 ?_
  refine aw_iload_n hC 1 dX11_found_8 rfl rfl ?_
  refine aw_i2l hC dX11_found_9 ?_
  refine aw_lsub hC dX11_found_10 ?_
  refine aw_lret hC dX11_found_11 (Nat.le_refl _) (Nat.le_refl _) ?_
  exact FP.qJ ((bd_eq eS1).trans (rfl))
theorem q_X11_found (S : HSt) (_o0 : Nat) (a1 : Int32) : shp ((f_X11_found S _o0 a1).2) = shp S := by
  unfold f_X11_found
  repeat' (first | with_reducible refine shpr1 ?_ | with_reducible rfl | with_reducible refine (shp_sI _ _ _ _).trans ?_ | with_reducible refine (shp_sJ _ _ _ _).trans ?_ | with_reducible refine (shp_rI _ _ _).trans ?_ | with_reducible refine shi ?_ ?_ | with_reducible refine shb (fun _ _ => ?_) | with_reducible refine shiP (fun q : Int64 × HSt => q.2) ?_ ?_ | with_reducible refine shbP (fun q : Int64 × HSt => q.2) (fun _ _ => ?_) | (subst_vars; with_reducible rfl) | (subst_vars; with_reducible refine (shp_sI _ _ _ _).trans ?_) | (subst_vars; with_reducible refine (shp_sJ _ _ _ _).trans ?_) | (subst_vars; with_reducible refine (shp_rI _ _ _).trans ?_) | (subst_vars; with_reducible refine shi ?_ ?_) | (subst_vars; with_reducible refine shb (fun _ _ => ?_)))
noncomputable def f_X11_fine (S : HSt) (_o0 : Nat) (a1 : Int64) : Int64 × HSt := bd ((sI S 0 10 (0 : Int32))) fun S1 => pr (a1) (S1)
set_option maxRecDepth 100000 in
theorem t_X11_fine (G : GG) (l : Launch) {S : HSt} (hM : CS S) (a1 : Int64)   : AM G l yX11_fine cX11_fine 3 (some .long) (rmD 0 0 0) 0 0 [.ref 0, .long a1] S (FP (some (.long (f_X11_fine S 0 a1).1)) ((f_X11_fine S 0 a1).2)) := by
  refine AM.mk (by decide) (Nat.le_of_ble_eq_true rfl) ?_
  intro p e s m below meth c hC hSt _
  refine aw_aload_n hC 0 dX11_fine_0 rfl rfl ?_
  refine aw_iconst (v := 0) hC dX11_fine_1 (by decide) ?_
  refine aw_putI hC hSt 10 (cs_lt 0 11 0 (by decide) hM) (cs_k 0 11 0 (by decide) hM) rfl (by decide) w_695 rfl rfl rfl rfl dX11_fine_2 ?_
  generalize eS1 : (sI S 0 10 (0 : Int32)) = S1
  have hM : CS S1 := CS.of (by rw [← eS1]; exact shp_sI _ _ _ _) hM
  refine aw_lload_n hC 1 dX11_fine_5 rfl rfl ?_
  refine aw_lret hC dX11_fine_6 (Nat.le_refl _) (Nat.le_refl _) ?_
  exact FP.qJ ((bd_eq eS1).trans (rfl))
theorem q_X11_fine (S : HSt) (_o0 : Nat) (a1 : Int64) : shp ((f_X11_fine S _o0 a1).2) = shp S := by
  unfold f_X11_fine
  repeat' (first | with_reducible refine shpr1 ?_ | with_reducible rfl | with_reducible refine (shp_sI _ _ _ _).trans ?_ | with_reducible refine (shp_sJ _ _ _ _).trans ?_ | with_reducible refine (shp_rI _ _ _).trans ?_ | with_reducible refine shi ?_ ?_ | with_reducible refine shb (fun _ _ => ?_) | with_reducible refine shiP (fun q : Int64 × HSt => q.2) ?_ ?_ | with_reducible refine shbP (fun q : Int64 × HSt => q.2) (fun _ _ => ?_) | (subst_vars; with_reducible rfl) | (subst_vars; with_reducible refine (shp_sI _ _ _ _).trans ?_) | (subst_vars; with_reducible refine (shp_sJ _ _ _ _).trans ?_) | (subst_vars; with_reducible refine (shp_rI _ _ _).trans ?_) | (subst_vars; with_reducible refine shi ?_ ?_) | (subst_vars; with_reducible refine shb (fun _ _ => ?_)))
noncomputable def F_X11_hasAct (S : HSt) (_o0 : Nat) (a1 : Int32) : Int32 × HSt := pr ((f_X10_has S 19 (5 : Int32) a1)) (S)
noncomputable def f_X11_hasAct (S : HSt) (_o0 : Nat) (a1 : Int32) : Int32 := (F_X11_hasAct S _o0 a1).1
def p_X11_hasAct (S : HSt) (_o0 : Nat) (a1 : Int32) : Prop := (p_X10_has S 19 (5 : Int32) a1)
set_option maxRecDepth 100000 in
theorem t_X11_hasAct (G : GG) (l : Launch) {S : HSt} (hM : CS S) (a1 : Int32)  (hp : p_X11_hasAct S 0 a1) : AM G l yX11_hasAct cX11_hasAct 2 (some .boolean) (rmD 2 0 0) 0 0 [.ref 0, .int a1] S (FP (some (.int (f_X11_hasAct S 0 a1))) (S)) := by
  have h0 := hp
  unfold p_X11_hasAct at h0
  refine AM.mk (by decide) (Nat.le_of_ble_eq_true rfl) ?_
  intro p e s m below meth c hC hSt _
  refine aw_aload_n hC 0 dX11_hasAct_0 rfl rfl ?_
  refine aw_getP (b := 18) hC hSt 2 (cs_lt 0 11 0 (by decide) hM) (cs_k 0 11 0 (by decide) hM) rfl (by decide) w_678 rfl (cs_p 0 2 18 (by decide) hM) dX11_hasAct_1 ?_
  refine aw_getP (b := 19) hC hSt 0 (cs_lt 18 7 0 (by decide) hM) (cs_k 18 7 0 (by decide) hM) rfl (by decide) w_750 rfl (cs_p 18 0 19 (by decide) hM) dX11_hasAct_4 ?_
  refine aw_iconst (v := 5) hC dX11_hasAct_7 (by decide) ?_
  refine aw_iload_n hC 1 dX11_hasAct_8 rfl rfl ?_
  refine aw_cV2r hC hSt (t_X10_has G l hM _ _ _ (by decide) (h0)) w_665 w_770 w_771 w_772 w_18 rfl rfl (by decide +kernel) ⟨Nat.le_of_ble_eq_true rfl, Nat.le_of_ble_eq_true rfl⟩ (cs_lt 19 10 0 (by decide) hM) (cs_k 19 10 0 (by decide) hM) rfl (Nat.le_of_ble_eq_true rfl) dX11_hasAct_9 ⟨Nat.zero_le _, Nat.zero_le _⟩ ?_
  refine aw_zret hC dX11_hasAct_12 (Nat.le_refl _) (Nat.le_refl _) (Bz.n (b_X10_has _ _ _ _)) ?_
  exact FP.pI (rfl)
theorem b_X11_hasAct (S : HSt) (_o0 : Nat) (a1 : Int32) : Bz (f_X11_hasAct S _o0 a1) := by
  unfold f_X11_hasAct F_X11_hasAct
  (try dsimp only [bd])
  (repeat' split) <;> first | exact Or.inl rfl | exact Or.inr rfl | exact b_X10_has _ _ _ _
noncomputable def F_X11_canThrow (S : HSt) (_o0 : Nat) (a1 : Int32) (a2 : Int32) : Int32 × HSt := bd ((if (f_X11_within S a1 (0 : Int32) (1 : Int32)) = 0 then (0 : Int32) else (if (f_X10_has S 19 (2 : Int32) a2) = 0 then (0 : Int32) else (1 : Int32)))) fun x3 => pr (x3) (S)
noncomputable def f_X11_canThrow (S : HSt) (_o0 : Nat) (a1 : Int32) (a2 : Int32) : Int32 := (F_X11_canThrow S _o0 a1 a2).1
def p_X11_canThrow (S : HSt) (_o0 : Nat) (a1 : Int32) (a2 : Int32) : Prop := ((¬ (f_X11_within S a1 (0 : Int32) (1 : Int32)) = 0) → p_X10_has S 19 (2 : Int32) a2)
set_option maxRecDepth 100000 in
theorem t_X11_canThrow (G : GG) (l : Launch) {S : HSt} (hM : CS S) (a1 : Int32) (a2 : Int32)  (hp : p_X11_canThrow S 0 a1 a2) : AM G l yX11_canThrow cX11_canThrow 3 (some .boolean) (rmD 2 0 0) 0 0 [.ref 0, .int a1, .int a2] S (FP (some (.int (f_X11_canThrow S 0 a1 a2))) (S)) := by
  have h0 := hp
  unfold p_X11_canThrow at h0
  refine AM.mk (by decide) (Nat.le_of_ble_eq_true rfl) ?_
  intro p e s m below meth c hC hSt _
  refine aw_iload_n hC 1 dX11_canThrow_0 rfl rfl ?_
  refine aw_iconst (v := 0) hC dX11_canThrow_1 (by decide) ?_
  refine aw_iconst (v := 1) hC dX11_canThrow_2 (by decide) ?_
  refine aw_cS3r hC hSt (t_X11_within G l  _ _ _) w_706 w_712 w_713 w_517 rfl rfl (by decide +kernel) ⟨Nat.le_of_ble_eq_true rfl, Nat.le_of_ble_eq_true rfl⟩ (Nat.le_of_ble_eq_true rfl) dX11_canThrow_3 ⟨Nat.zero_le _, Nat.zero_le _⟩ ?_
  refine aw_cut (S' := S) (pc' := 29) (lv' := [(0, .ref 0), (1, .int a1), (2, .int a2)]) (st' := [.int (if (f_X11_within S a1 (0 : Int32) (1 : Int32)) = 0 then (0 : Int32) else (if (f_X10_has S 19 (2 : Int32) a2) = 0 then (0 : Int32) else (1 : Int32)))]) ?_ (fun Jc1 => ?_)
  · generalize ex3 : (if (f_X11_within S a1 (0 : Int32) (1 : Int32)) = 0 then (0 : Int32) else (if (f_X10_has S 19 (2 : Int32) a2) = 0 then (0 : Int32) else (1 : Int32))) = x3
    refine aw_zret hC dX11_canThrow_29 (Nat.le_refl _) (Nat.le_refl _) (Bz.n (ex3 ▸ (Bz.ite (Or.inl rfl) (Bz.ite (Or.inl rfl) (Or.inr rfl))))) ?_
    exact FP.pI ((bd_eq ex3).trans (rfl))
  · refine aw_if_eq hC 28 dX11_canThrow_6 (by decide) (fun c1 => ?_) (fun c1 => ?_)
    · refine aw_iconst (v := 0) hC dX11_canThrow_28 (by decide) ?_
      simp only [bd_def, if_pos c1] at Jc1 ⊢
      exact Jc1
    · refine aw_aload_n hC 0 dX11_canThrow_9 rfl rfl ?_
      refine aw_getP (b := 18) hC hSt 2 (cs_lt 0 11 0 (by decide) hM) (cs_k 0 11 0 (by decide) hM) rfl (by decide) w_678 rfl (cs_p 0 2 18 (by decide) hM) dX11_canThrow_10 ?_
      refine aw_getP (b := 19) hC hSt 0 (cs_lt 18 7 0 (by decide) hM) (cs_k 18 7 0 (by decide) hM) rfl (by decide) w_750 rfl (cs_p 18 0 19 (by decide) hM) dX11_canThrow_13 ?_
      refine aw_iconst (v := 2) hC dX11_canThrow_16 (by decide) ?_
      refine aw_iload_n hC 2 dX11_canThrow_17 rfl rfl ?_
      refine aw_cV2r hC hSt (t_X10_has G l hM _ _ _ (by decide) (h0 c1)) w_665 w_770 w_771 w_772 w_18 rfl rfl (by decide +kernel) ⟨Nat.le_of_ble_eq_true rfl, Nat.le_of_ble_eq_true rfl⟩ (cs_lt 19 10 0 (by decide) hM) (cs_k 19 10 0 (by decide) hM) rfl (Nat.le_of_ble_eq_true rfl) dX11_canThrow_18 ⟨Nat.zero_le _, Nat.zero_le _⟩ ?_
      refine aw_if_eq hC 28 dX11_canThrow_21 (by decide) (fun c2 => ?_) (fun c2 => ?_)
      · refine aw_iconst (v := 0) hC dX11_canThrow_28 (by decide) ?_
        simp only [bd_def, if_neg c1, if_pos c2] at Jc1 ⊢
        exact Jc1
      · refine aw_iconst (v := 1) hC dX11_canThrow_24 (by decide) ?_
        refine aw_goto hC 29 dX11_canThrow_25 (by decide) ?_
        simp only [bd_def, if_neg c1, if_neg c2] at Jc1 ⊢
        exact Jc1
theorem b_X11_canThrow (S : HSt) (_o0 : Nat) (a1 : Int32) (a2 : Int32) : Bz (f_X11_canThrow S _o0 a1 a2) := by
  unfold f_X11_canThrow F_X11_canThrow
  (try dsimp only [bd])
  (repeat' split) <;> first | exact Or.inl rfl | exact Or.inr rfl | exact b_X10_has _ _ _ _ | exact b_X11_within _ _ _ _
noncomputable def L_X11_imagesKept_4 : Nat → HSt → Int32 → Int32 → Int32 × Int32
  | 0, S, v1, v2 => (v1, v2)
  | n + 1, S, v1, v2 =>
    if (2 : Int32) ≤ v2 then ((pr (v1) (v2))) else (bd ((if (gI S (24 + 5 * v2.toNatClampNeg) 2) = 0 then v1 else (v1 + (1 : Int32)))) fun x1003 => L_X11_imagesKept_4 n S x1003 (v2 + (1 : Int32)))
def T_X11_imagesKept_4 : Nat → HSt → Int32 → Int32 → Prop
  | 0, _, _, _ => False
  | n + 1, S, v1, v2 => ((¬ (2 : Int32) ≤ v2) → vp_in v2 2) ∧ ((¬ (2 : Int32) ≤ v2) → ∀ x1003 : Int32, (if (gI S (24 + 5 * v2.toNatClampNeg) 2) = 0 then v1 else (v1 + (1 : Int32))) = x1003 → T_X11_imagesKept_4 n S x1003 (v2 + (1 : Int32)))
set_option maxRecDepth 100000 in
theorem l_X11_imagesKept_4 {p : Program} {l : Launch} {e : Env} {s : State} {m : MethodId} {args : Array Value} {below : List Frame} {meth : Method} {c : Code} {G : GG} {Q : State → Prop} (hC : ACx p s m args meth c cX11_imagesKept RX11 3 (some .int)) (hSt : St G s)   : ∀ (n : Nat) (S : HSt) (v1 : Int32) (v2 : Int32), CS S → T_X11_imagesKept_4 n S v1 v2 → AW p l e (rmD 0 0 0) s m args below meth c G 3 Q S 0 0 30 [(0, .ref 0), (1, .int (L_X11_imagesKept_4 n S v1 v2).1), (2, .int (L_X11_imagesKept_4 n S v1 v2).2)] [] → AW p l e (rmD 0 0 0) s m args below meth c G 3 Q S 0 0 4 [(0, .ref 0), (1, .int v1), (2, .int v2)] [] := by
  intro n
  induction n with
  | zero => intro S v1 v2 _ hT; exact hT.elim
  | succ n ih =>
    intro S v1 v2 hM hT hk
    unfold T_X11_imagesKept_4 at hT
    obtain ⟨h0, h1⟩ := hT
    refine aw_iload_n hC 2 dX11_imagesKept_4 rfl rfl ?_
    refine aw_iconst (v := 2) hC dX11_imagesKept_5 (by decide) ?_
    refine aw_icmp_ge hC 30 dX11_imagesKept_6 (by decide) (fun c1001 => ?_) (fun c1001 => ?_)
    · refine aw_sub [0, 1, 2] rfl ?_
      have E : L_X11_imagesKept_4 (n + 1) S v1 v2 = _ := (if_pos c1001).trans (rfl)
      rw [E] at hk
      exact hk
    · refine aw_aload_n hC 0 dX11_imagesKept_9 rfl rfl ?_
      refine aw_getP (b := 23) hC hSt 3 (cs_lt 0 11 0 (by decide) hM) (cs_k 0 11 0 (by decide) hM) rfl (by decide) w_679 rfl (cs_p 0 3 23 (by decide) hM) dX11_imagesKept_10 ?_
      refine aw_iload_n hC 2 dX11_imagesKept_13 rfl rfl ?_
      refine aw_aaldS hC hSt (cs_lt 23 18 2 (by decide) hM) (cs_k 23 18 2 (by decide) hM) (vp_len (n := 2) (cs_l 23 18 2 (by decide) hM) (h0 c1001)) (cs_p 23 v2.toNatClampNeg (24 + 5 * v2.toNatClampNeg) (ar_p23 (h0 c1001)) hM) dX11_imagesKept_14 ?_
      refine aw_getI hC hSt 2 (cs_lt (24 + 5 * v2.toNatClampNeg) 7 0 (ar_m23 (h0 c1001)) hM) (cs_k (24 + 5 * v2.toNatClampNeg) 7 0 (ar_m23 (h0 c1001)) hM) rfl (by decide) w_783 rfl dX11_imagesKept_15 ?_
      refine aw_cut (S' := S) (pc' := 24) (lv' := [(0, .ref 0), (1, .int (if (gI S (24 + 5 * v2.toNatClampNeg) 2) = 0 then v1 else (v1 + (1 : Int32)))), (2, .int v2)]) (st' := []) ?_ (fun Jc1002 => ?_)
      · generalize ex1003 : (if (gI S (24 + 5 * v2.toNatClampNeg) 2) = 0 then v1 else (v1 + (1 : Int32))) = x1003
        refine aw_iinc (v := (v2 + (1 : Int32))) hC 2 [(2, .int _), (0, .ref 0), (1, .int _)] dX11_imagesKept_24 rfl rfl (by decide) rfl ?_
        refine aw_goto hC 4 dX11_imagesKept_27 (by decide) ?_
        refine aw_sub [1, 2, 0] rfl ?_
        have hTn := (h1 c1001 x1003 ex1003)
        have hMn : CS S := hM
        have E : L_X11_imagesKept_4 (n + 1) S v1 v2 = _ := (if_neg c1001).trans ((bd_eq ex1003).trans (rfl))
        rw [E] at hk
        exact ih _ _ _ hMn hTn hk
      · refine aw_if_eq hC 24 dX11_imagesKept_18 (by decide) (fun c1002 => ?_) (fun c1002 => ?_)
        · simp only [bd_def, if_pos c1002] at Jc1002 ⊢
          exact Jc1002
        · refine aw_iinc (v := (v1 + (1 : Int32))) hC 1 [(1, .int _), (0, .ref 0), (2, .int _)] dX11_imagesKept_21 rfl rfl (by decide) rfl ?_
          refine aw_sub [1, 0, 2] rfl ?_
          simp only [bd_def, if_neg c1002] at Jc1002 ⊢
          exact Jc1002
noncomputable def F_X11_imagesKept (S : HSt) (_o0 : Nat) : Int32 × HSt := bd (L_X11_imagesKept_4 1000 S (0 : Int32) (0 : Int32)) fun r1 => pr (r1.1) (S)
noncomputable def f_X11_imagesKept (S : HSt) (_o0 : Nat) : Int32 := (F_X11_imagesKept S _o0).1
def p_X11_imagesKept (S : HSt) (_o0 : Nat) : Prop := (T_X11_imagesKept_4 1000 S (0 : Int32) (0 : Int32))
set_option maxRecDepth 100000 in
theorem t_X11_imagesKept (G : GG) (l : Launch) {S : HSt} (hM : CS S)   (hp : p_X11_imagesKept S 0) : AM G l yX11_imagesKept cX11_imagesKept 3 (some .int) (rmD 0 0 0) 0 0 [.ref 0] S (FP (some (.int (f_X11_imagesKept S 0))) (S)) := by
  have h0 := hp
  unfold p_X11_imagesKept at h0
  refine AM.mk (by decide) (Nat.le_of_ble_eq_true rfl) ?_
  intro p e s m below meth c hC hSt _
  refine aw_iconst (v := 0) hC dX11_imagesKept_0 (by decide) ?_
  refine aw_istore_n hC [(1, .int _), (0, .ref 0)] dX11_imagesKept_1 rfl (by decide) rfl ?_
  refine aw_iconst (v := 0) hC dX11_imagesKept_2 (by decide) ?_
  refine aw_istore_n hC [(2, .int _), (1, .int _), (0, .ref 0)] dX11_imagesKept_3 rfl (by decide) rfl ?_
  refine aw_sub [2, 1, 0] rfl ?_
  refine l_X11_imagesKept_4 hC hSt 1000 _ _ _ hM (h0) ?_
  generalize er1 : L_X11_imagesKept_4 1000 S (0 : Int32) (0 : Int32) = r1
  refine aw_iload_n hC 1 dX11_imagesKept_30 rfl rfl ?_
  refine aw_iret hC dX11_imagesKept_31 (Nat.le_refl _) (Nat.le_refl _) ?_
  exact FP.pI ((bd_eq er1).trans (rfl))
noncomputable def f_X11_row (S : HSt) (_o0 : Nat) (a1 : Int32) (a2 : Int32) (a3 : Int32) : Int64 × HSt := if (f_X5_isRow S a1) = 0 then (pr ((-9000000000000000001 : Int64)) (S)) else (if (f_X11_within S a2 (0 : Int32) (2 : Int32)) = 0 then (pr ((-9000000000000000001 : Int64)) (S)) else (if a3 ≤ (40 : Int32) then (if 0 ≤ a3 then (bd (f_X5_make S 1 a1 a2 a3) fun r5 => bd (f_X11_fine r5 0 a3.toInt64) fun r6 => pr (r6.1) (r6.2)) else (bd (f_X11_found S 0 (4 : Int32)) fun r7 => pr (r7.1) (r7.2))) else (pr ((-9000000000000000001 : Int64)) (S))))
def p_X11_row (S : HSt) (_o0 : Nat) (a1 : Int32) (a2 : Int32) (a3 : Int32) : Prop := ((¬ (f_X5_isRow S a1) = 0) → (¬ (f_X11_within S a2 (0 : Int32) (2 : Int32)) = 0) → (a3 ≤ (40 : Int32)) → (0 ≤ a3) → p_X5_make S 1 a1 a2 a3)
set_option maxRecDepth 100000 in
theorem t_X11_row (G : GG) (l : Launch) {S : HSt} (hM : CS S) (a1 : Int32) (a2 : Int32) (a3 : Int32)  (hp : p_X11_row S 0 a1 a2 a3) : AM G l yX11_row cX11_row 4 (some .long) (rmD 2 0 0) 0 0 [.ref 0, .int a1, .int a2, .int a3] S (FP (some (.long (f_X11_row S 0 a1 a2 a3).1)) ((f_X11_row S 0 a1 a2 a3).2)) := by
  have h0 := hp
  unfold p_X11_row at h0
  refine AM.mk (by decide) (Nat.le_of_ble_eq_true rfl) ?_
  intro p e s m below meth c hC hSt _
  refine aw_iload_n hC 1 dX11_row_0 rfl rfl ?_
  refine aw_cS1r hC hSt (t_X5_isRow G l  _) w_469 w_711 w_472 w_473 rfl rfl (by decide +kernel) ⟨Nat.le_of_ble_eq_true rfl, Nat.le_of_ble_eq_true rfl⟩ (Nat.le_of_ble_eq_true rfl) dX11_row_1 ⟨Nat.zero_le _, Nat.zero_le _⟩ ?_
  refine aw_if_eq hC 22 dX11_row_4 (by decide) (fun c1 => ?_) (fun c1 => ?_)
  · refine aw_ldc2 (v := -9000000000000000001) hC w_710 dX11_row_22 ?_
    refine aw_lret hC dX11_row_25 (Nat.le_refl _) (Nat.le_refl _) ?_
    exact FP.qJ ((if_pos c1).trans (rfl))
  · refine aw_iload_n hC 2 dX11_row_7 rfl rfl ?_
    refine aw_iconst (v := 0) hC dX11_row_8 (by decide) ?_
    refine aw_iconst (v := 2) hC dX11_row_9 (by decide) ?_
    refine aw_cS3r hC hSt (t_X11_within G l  _ _ _) w_706 w_712 w_713 w_517 rfl rfl (by decide +kernel) ⟨Nat.le_of_ble_eq_true rfl, Nat.le_of_ble_eq_true rfl⟩ (Nat.le_of_ble_eq_true rfl) dX11_row_10 ⟨Nat.zero_le _, Nat.zero_le _⟩ ?_
    refine aw_if_eq hC 22 dX11_row_13 (by decide) (fun c2 => ?_) (fun c2 => ?_)
    · refine aw_ldc2 (v := -9000000000000000001) hC w_710 dX11_row_22 ?_
      refine aw_lret hC dX11_row_25 (Nat.le_refl _) (Nat.le_refl _) ?_
      exact FP.qJ ((if_neg c1).trans ((if_pos c2).trans (rfl)))
    · refine aw_iload_n hC 3 dX11_row_16 rfl rfl ?_
      refine aw_bipush (v := 40) hC dX11_row_17 (by decide) ?_
      refine aw_icmp_le hC 26 dX11_row_19 (by decide) (fun c3 => ?_) (fun c3 => ?_)
      · refine aw_iload_n hC 3 dX11_row_26 rfl rfl ?_
        refine aw_if_ge hC 36 dX11_row_27 (by decide) (fun c4 => ?_) (fun c4 => ?_)
        · refine aw_aload_n hC 0 dX11_row_36 rfl rfl ?_
          refine aw_getP (b := 1) hC hSt 0 (cs_lt 0 11 0 (by decide) hM) (cs_k 0 11 0 (by decide) hM) rfl (by decide) w_672 rfl (cs_p 0 0 1 (by decide) hM) dX11_row_37 ?_
          refine aw_iload_n hC 1 dX11_row_40 rfl rfl ?_
          refine aw_iload_n hC 2 dX11_row_41 rfl rfl ?_
          refine aw_iload_n hC 3 dX11_row_42 rfl rfl ?_
          refine aw_cV3v hC hSt (t_X5_make G l hM _ _ _ (h0 c1 c2 c3 c4)) w_480 w_717 w_718 w_719 w_473 rfl rfl (by decide +kernel) ⟨Nat.le_of_ble_eq_true rfl, Nat.le_of_ble_eq_true rfl⟩ (cs_lt 1 5 0 (by decide) hM) (cs_k 1 5 0 (by decide) hM) rfl (Nat.le_of_ble_eq_true rfl) dX11_row_43 ⟨Nat.zero_le _, Nat.zero_le _⟩ ?_
          generalize er5 : f_X5_make S 1 a1 a2 a3 = r5
          have hM : CS r5 := CS.of (by rw [← er5]; exact q_X5_make _ _ _ _ _) hM
          refine aw_aload_n hC 0 dX11_row_46 rfl rfl ?_
          refine aw_iload_n hC 3 dX11_row_47 rfl rfl ?_
          refine aw_i2l hC dX11_row_48 ?_
          refine aw_cV1r hC hSt (t_X11_fine G l hM _) w_709 w_720 w_721 w_722 w_517 rfl rfl (by decide +kernel) ⟨Nat.le_of_ble_eq_true rfl, Nat.le_of_ble_eq_true rfl⟩ (cs_lt 0 11 0 (by decide) hM) (cs_k 0 11 0 (by decide) hM) rfl (Nat.le_of_ble_eq_true rfl) dX11_row_49 ⟨Nat.zero_le _, Nat.zero_le _⟩ ?_
          generalize er6 : f_X11_fine r5 0 a3.toInt64 = r6
          have hM : CS r6.2 := CS.of (by rw [← er6]; exact q_X11_fine _ _ _) hM
          refine aw_lret hC dX11_row_52 (Nat.le_refl _) (Nat.le_refl _) ?_
          exact FP.qJ ((if_neg c1).trans ((if_neg c2).trans ((if_pos c3).trans ((if_pos c4).trans ((bd_eq er5).trans ((bd_eq er6).trans (rfl)))))))
        · refine aw_aload_n hC 0 dX11_row_30 rfl rfl ?_
          refine aw_iconst (v := 4) hC dX11_row_31 (by decide) ?_
          refine aw_cV1r hC hSt (t_X11_found G l hM _) w_707 w_714 w_715 w_716 w_517 rfl rfl (by decide +kernel) ⟨Nat.le_of_ble_eq_true rfl, Nat.le_of_ble_eq_true rfl⟩ (cs_lt 0 11 0 (by decide) hM) (cs_k 0 11 0 (by decide) hM) rfl (Nat.le_of_ble_eq_true rfl) dX11_row_32 ⟨Nat.zero_le _, Nat.zero_le _⟩ ?_
          generalize er7 : f_X11_found S 0 (4 : Int32) = r7
          have hM : CS r7.2 := CS.of (by rw [← er7]; exact q_X11_found _ _ _) hM
          refine aw_lret hC dX11_row_35 (Nat.le_refl _) (Nat.le_refl _) ?_
          exact FP.qJ ((if_neg c1).trans ((if_neg c2).trans ((if_pos c3).trans ((if_neg c4).trans ((bd_eq er7).trans (rfl))))))
      · refine aw_ldc2 (v := -9000000000000000001) hC w_710 dX11_row_22 ?_
        refine aw_lret hC dX11_row_25 (Nat.le_refl _) (Nat.le_refl _) ?_
        exact FP.qJ ((if_neg c1).trans ((if_neg c2).trans ((if_neg c3).trans (rfl))))
theorem q_X11_row (S : HSt) (_o0 : Nat) (a1 : Int32) (a2 : Int32) (a3 : Int32) : shp ((f_X11_row S _o0 a1 a2 a3).2) = shp S := by
  unfold f_X11_row
  repeat' (first | with_reducible refine shpr1 ?_ | with_reducible rfl | with_reducible refine (q_X11_fine _ _ _).trans ?_ | with_reducible refine (q_X11_found _ _ _).trans ?_ | with_reducible refine (q_X5_make _ _ _ _ _).trans ?_ | with_reducible refine (shp_sI _ _ _ _).trans ?_ | with_reducible refine (shp_sJ _ _ _ _).trans ?_ | with_reducible refine (shp_rI _ _ _).trans ?_ | with_reducible refine shi ?_ ?_ | with_reducible refine shb (fun _ _ => ?_) | with_reducible refine shiP (fun q : Int64 × HSt => q.2) ?_ ?_ | with_reducible refine shbP (fun q : Int64 × HSt => q.2) (fun _ _ => ?_) | (subst_vars; with_reducible rfl) | (subst_vars; with_reducible refine (q_X11_fine _ _ _).trans ?_) | (subst_vars; with_reducible refine (q_X11_found _ _ _).trans ?_) | (subst_vars; with_reducible refine (q_X5_make _ _ _ _ _).trans ?_) | (subst_vars; with_reducible refine (shp_sI _ _ _ _).trans ?_) | (subst_vars; with_reducible refine (shp_sJ _ _ _ _).trans ?_) | (subst_vars; with_reducible refine (shp_rI _ _ _).trans ?_) | (subst_vars; with_reducible refine shi ?_ ?_) | (subst_vars; with_reducible refine shb (fun _ _ => ?_)))
noncomputable def f_X11_copy (S : HSt) (_o0 : Nat) (a1 : Int32) (a2 : Int32) (a3 : Int32) (a4 : Int32) (a5 : Int32) : Int64 × HSt := if (f_X5_isRow S a1) = 0 then (pr ((-9000000000000000001 : Int64)) (S)) else (if (f_X5_isRow S a3) = 0 then (pr ((-9000000000000000001 : Int64)) (S)) else (if (f_X5_isMissing S 1 a1) = 0 then (if (f_X5_isMissing S 1 a3) = 0 then (if (f_X5_laneOf S 1 a1) = (f_X5_laneOf S 1 a3) then (if (f_X5_hasPlaces S 1 a1 a2 a5) = 0 then (bd (f_X11_found S 0 (2 : Int32)) fun r8 => pr (r8.1) (r8.2)) else (if (f_X5_hasPlaces S 1 a3 a4 a5) = 0 then (bd (f_X11_found S 0 (2 : Int32)) fun r12 => pr (r12.1) (r12.2)) else (bd (f_X5_carry S 1 a1 a2 a3 a4 a5) fun r10 => bd (f_X11_fine r10 0 a5.toInt64) fun r11 => pr (r11.1) (r11.2)))) else (bd (f_X11_found S 0 (5 : Int32)) fun r13 => pr (r13.1) (r13.2))) else (bd (f_X11_found S 0 (1 : Int32)) fun r14 => pr (r14.1) (r14.2))) else (bd (f_X11_found S 0 (1 : Int32)) fun r4 => pr (r4.1) (r4.2))))
def p_X11_copy (S : HSt) (_o0 : Nat) (a1 : Int32) (a2 : Int32) (a3 : Int32) (a4 : Int32) (a5 : Int32) : Prop := ((¬ (f_X5_isRow S a1) = 0) → (¬ (f_X5_isRow S a3) = 0) → p_X5_isMissing S 1 a1) ∧ ((¬ (f_X5_isRow S a1) = 0) → (¬ (f_X5_isRow S a3) = 0) → ((f_X5_isMissing S 1 a1) = 0) → p_X5_isMissing S 1 a3) ∧ ((¬ (f_X5_isRow S a1) = 0) → (¬ (f_X5_isRow S a3) = 0) → ((f_X5_isMissing S 1 a1) = 0) → ((f_X5_isMissing S 1 a3) = 0) → p_X5_laneOf S 1 a1) ∧ ((¬ (f_X5_isRow S a1) = 0) → (¬ (f_X5_isRow S a3) = 0) → ((f_X5_isMissing S 1 a1) = 0) → ((f_X5_isMissing S 1 a3) = 0) → p_X5_laneOf S 1 a3) ∧ ((¬ (f_X5_isRow S a1) = 0) → (¬ (f_X5_isRow S a3) = 0) → ((f_X5_isMissing S 1 a1) = 0) → ((f_X5_isMissing S 1 a3) = 0) → ((f_X5_laneOf S 1 a1) = (f_X5_laneOf S 1 a3)) → p_X5_hasPlaces S 1 a1 a2 a5) ∧ ((¬ (f_X5_isRow S a1) = 0) → (¬ (f_X5_isRow S a3) = 0) → ((f_X5_isMissing S 1 a1) = 0) → ((f_X5_isMissing S 1 a3) = 0) → ((f_X5_laneOf S 1 a1) = (f_X5_laneOf S 1 a3)) → (¬ (f_X5_hasPlaces S 1 a1 a2 a5) = 0) → p_X5_hasPlaces S 1 a3 a4 a5) ∧ ((¬ (f_X5_isRow S a1) = 0) → (¬ (f_X5_isRow S a3) = 0) → ((f_X5_isMissing S 1 a1) = 0) → ((f_X5_isMissing S 1 a3) = 0) → ((f_X5_laneOf S 1 a1) = (f_X5_laneOf S 1 a3)) → (¬ (f_X5_hasPlaces S 1 a1 a2 a5) = 0) → (¬ (f_X5_hasPlaces S 1 a3 a4 a5) = 0) → p_X5_carry S 1 a1 a2 a3 a4 a5)
set_option maxRecDepth 100000 in
theorem t_X11_copy (G : GG) (l : Launch) {S : HSt} (hM : CS S) (a1 : Int32) (a2 : Int32) (a3 : Int32) (a4 : Int32) (a5 : Int32)  (hp : p_X11_copy S 0 a1 a2 a3 a4 a5) : AM G l yX11_copy cX11_copy 6 (some .long) (rmD 4 0 0) 0 0 [.ref 0, .int a1, .int a2, .int a3, .int a4, .int a5] S (FP (some (.long (f_X11_copy S 0 a1 a2 a3 a4 a5).1)) ((f_X11_copy S 0 a1 a2 a3 a4 a5).2)) := by
  obtain ⟨h0, h1, h2, h3, h4, h5, h6⟩ := hp
  refine AM.mk (by decide) (Nat.le_of_ble_eq_true rfl) ?_
  intro p e s m below meth c hC hSt _
  refine aw_iload_n hC 1 dX11_copy_0 rfl rfl ?_
  refine aw_cS1r hC hSt (t_X5_isRow G l  _) w_469 w_711 w_472 w_473 rfl rfl (by decide +kernel) ⟨Nat.le_of_ble_eq_true rfl, Nat.le_of_ble_eq_true rfl⟩ (Nat.le_of_ble_eq_true rfl) dX11_copy_1 ⟨Nat.zero_le _, Nat.zero_le _⟩ ?_
  refine aw_if_eq hC 14 dX11_copy_4 (by decide) (fun c1 => ?_) (fun c1 => ?_)
  · refine aw_ldc2 (v := -9000000000000000001) hC w_710 dX11_copy_14 ?_
    refine aw_lret hC dX11_copy_17 (Nat.le_refl _) (Nat.le_refl _) ?_
    exact FP.qJ ((if_pos c1).trans (rfl))
  · refine aw_iload_n hC 3 dX11_copy_7 rfl rfl ?_
    refine aw_cS1r hC hSt (t_X5_isRow G l  _) w_469 w_711 w_472 w_473 rfl rfl (by decide +kernel) ⟨Nat.le_of_ble_eq_true rfl, Nat.le_of_ble_eq_true rfl⟩ (Nat.le_of_ble_eq_true rfl) dX11_copy_8 ⟨Nat.zero_le _, Nat.zero_le _⟩ ?_
    refine aw_if_ne hC 18 dX11_copy_11 (by decide) (fun c2 => ?_) (fun c2 => ?_)
    · refine aw_aload_n hC 0 dX11_copy_18 rfl rfl ?_
      refine aw_getP (b := 1) hC hSt 0 (cs_lt 0 11 0 (by decide) hM) (cs_k 0 11 0 (by decide) hM) rfl (by decide) w_672 rfl (cs_p 0 0 1 (by decide) hM) dX11_copy_19 ?_
      refine aw_iload_n hC 1 dX11_copy_22 rfl rfl ?_
      refine aw_cV1r hC hSt (t_X5_isMissing G l hM _ (h0 c1 c2)) w_470 w_724 w_478 w_479 w_473 rfl rfl (by decide +kernel) ⟨Nat.le_of_ble_eq_true rfl, Nat.le_of_ble_eq_true rfl⟩ (cs_lt 1 5 0 (by decide) hM) (cs_k 1 5 0 (by decide) hM) rfl (Nat.le_of_ble_eq_true rfl) dX11_copy_23 ⟨Nat.zero_le _, Nat.zero_le _⟩ ?_
      refine aw_if_ne hC 40 dX11_copy_26 (by decide) (fun c3 => ?_) (fun c3 => ?_)
      · refine aw_aload_n hC 0 dX11_copy_40 rfl rfl ?_
        refine aw_iconst (v := 1) hC dX11_copy_41 (by decide) ?_
        refine aw_cV1r hC hSt (t_X11_found G l hM _) w_707 w_714 w_715 w_716 w_517 rfl rfl (by decide +kernel) ⟨Nat.le_of_ble_eq_true rfl, Nat.le_of_ble_eq_true rfl⟩ (cs_lt 0 11 0 (by decide) hM) (cs_k 0 11 0 (by decide) hM) rfl (Nat.le_of_ble_eq_true rfl) dX11_copy_42 ⟨Nat.zero_le _, Nat.zero_le _⟩ ?_
        generalize er4 : f_X11_found S 0 (1 : Int32) = r4
        have hM : CS r4.2 := CS.of (by rw [← er4]; exact q_X11_found _ _ _) hM
        refine aw_lret hC dX11_copy_45 (Nat.le_refl _) (Nat.le_refl _) ?_
        exact FP.qJ ((if_neg c1).trans ((if_neg c2).trans ((if_neg c3).trans ((bd_eq er4).trans (rfl)))))
      · refine aw_aload_n hC 0 dX11_copy_29 rfl rfl ?_
        refine aw_getP (b := 1) hC hSt 0 (cs_lt 0 11 0 (by decide) hM) (cs_k 0 11 0 (by decide) hM) rfl (by decide) w_672 rfl (cs_p 0 0 1 (by decide) hM) dX11_copy_30 ?_
        refine aw_iload_n hC 3 dX11_copy_33 rfl rfl ?_
        refine aw_cV1r hC hSt (t_X5_isMissing G l hM _ (h1 c1 c2 c3)) w_470 w_724 w_478 w_479 w_473 rfl rfl (by decide +kernel) ⟨Nat.le_of_ble_eq_true rfl, Nat.le_of_ble_eq_true rfl⟩ (cs_lt 1 5 0 (by decide) hM) (cs_k 1 5 0 (by decide) hM) rfl (Nat.le_of_ble_eq_true rfl) dX11_copy_34 ⟨Nat.zero_le _, Nat.zero_le _⟩ ?_
        refine aw_if_eq hC 46 dX11_copy_37 (by decide) (fun c5 => ?_) (fun c5 => ?_)
        · refine aw_aload_n hC 0 dX11_copy_46 rfl rfl ?_
          refine aw_getP (b := 1) hC hSt 0 (cs_lt 0 11 0 (by decide) hM) (cs_k 0 11 0 (by decide) hM) rfl (by decide) w_672 rfl (cs_p 0 0 1 (by decide) hM) dX11_copy_47 ?_
          refine aw_iload_n hC 1 dX11_copy_50 rfl rfl ?_
          refine aw_cV1r hC hSt (t_X5_laneOf G l hM _ (h2 c1 c2 c3 c5)) w_474 w_730 w_731 w_732 w_473 rfl rfl (by decide +kernel) ⟨Nat.le_of_ble_eq_true rfl, Nat.le_of_ble_eq_true rfl⟩ (cs_lt 1 5 0 (by decide) hM) (cs_k 1 5 0 (by decide) hM) rfl (Nat.le_of_ble_eq_true rfl) dX11_copy_51 ⟨Nat.zero_le _, Nat.zero_le _⟩ ?_
          refine aw_aload_n hC 0 dX11_copy_54 rfl rfl ?_
          refine aw_getP (b := 1) hC hSt 0 (cs_lt 0 11 0 (by decide) hM) (cs_k 0 11 0 (by decide) hM) rfl (by decide) w_672 rfl (cs_p 0 0 1 (by decide) hM) dX11_copy_55 ?_
          refine aw_iload_n hC 3 dX11_copy_58 rfl rfl ?_
          refine aw_cV1r hC hSt (t_X5_laneOf G l hM _ (h3 c1 c2 c3 c5)) w_474 w_730 w_731 w_732 w_473 rfl rfl (by decide +kernel) ⟨Nat.le_of_ble_eq_true rfl, Nat.le_of_ble_eq_true rfl⟩ (cs_lt 1 5 0 (by decide) hM) (cs_k 1 5 0 (by decide) hM) rfl (Nat.le_of_ble_eq_true rfl) dX11_copy_59 ⟨Nat.zero_le _, Nat.zero_le _⟩ ?_
          refine aw_icmp_eq hC 71 dX11_copy_62 (by decide) (fun c6 => ?_) (fun c6 => ?_)
          · refine aw_aload_n hC 0 dX11_copy_71 rfl rfl ?_
            refine aw_getP (b := 1) hC hSt 0 (cs_lt 0 11 0 (by decide) hM) (cs_k 0 11 0 (by decide) hM) rfl (by decide) w_672 rfl (cs_p 0 0 1 (by decide) hM) dX11_copy_72 ?_
            refine aw_iload_n hC 1 dX11_copy_75 rfl rfl ?_
            refine aw_iload_n hC 2 dX11_copy_76 rfl rfl ?_
            refine aw_iload hC 5 dX11_copy_77 rfl ?_
            refine aw_cV3r hC hSt (t_X5_hasPlaces G l hM _ _ _ (h4 c1 c2 c3 c5 c6)) w_476 w_725 w_483 w_484 w_473 rfl rfl (by decide +kernel) ⟨Nat.le_of_ble_eq_true rfl, Nat.le_of_ble_eq_true rfl⟩ (cs_lt 1 5 0 (by decide) hM) (cs_k 1 5 0 (by decide) hM) rfl (Nat.le_of_ble_eq_true rfl) dX11_copy_79 ⟨Nat.zero_le _, Nat.zero_le _⟩ ?_
            refine aw_if_eq hC 100 dX11_copy_82 (by decide) (fun c7 => ?_) (fun c7 => ?_)
            · refine aw_aload_n hC 0 dX11_copy_100 rfl rfl ?_
              refine aw_iconst (v := 2) hC dX11_copy_101 (by decide) ?_
              refine aw_cV1r hC hSt (t_X11_found G l hM _) w_707 w_714 w_715 w_716 w_517 rfl rfl (by decide +kernel) ⟨Nat.le_of_ble_eq_true rfl, Nat.le_of_ble_eq_true rfl⟩ (cs_lt 0 11 0 (by decide) hM) (cs_k 0 11 0 (by decide) hM) rfl (Nat.le_of_ble_eq_true rfl) dX11_copy_102 ⟨Nat.zero_le _, Nat.zero_le _⟩ ?_
              generalize er8 : f_X11_found S 0 (2 : Int32) = r8
              have hM : CS r8.2 := CS.of (by rw [← er8]; exact q_X11_found _ _ _) hM
              refine aw_lret hC dX11_copy_105 (Nat.le_refl _) (Nat.le_refl _) ?_
              exact FP.qJ ((if_neg c1).trans ((if_neg c2).trans ((if_pos c3).trans ((if_pos c5).trans ((if_pos c6).trans ((if_pos c7).trans ((bd_eq er8).trans (rfl))))))))
            · refine aw_aload_n hC 0 dX11_copy_85 rfl rfl ?_
              refine aw_getP (b := 1) hC hSt 0 (cs_lt 0 11 0 (by decide) hM) (cs_k 0 11 0 (by decide) hM) rfl (by decide) w_672 rfl (cs_p 0 0 1 (by decide) hM) dX11_copy_86 ?_
              refine aw_iload_n hC 3 dX11_copy_89 rfl rfl ?_
              refine aw_iload hC 4 dX11_copy_90 rfl ?_
              refine aw_iload hC 5 dX11_copy_92 rfl ?_
              refine aw_cV3r hC hSt (t_X5_hasPlaces G l hM _ _ _ (h5 c1 c2 c3 c5 c6 c7)) w_476 w_725 w_483 w_484 w_473 rfl rfl (by decide +kernel) ⟨Nat.le_of_ble_eq_true rfl, Nat.le_of_ble_eq_true rfl⟩ (cs_lt 1 5 0 (by decide) hM) (cs_k 1 5 0 (by decide) hM) rfl (Nat.le_of_ble_eq_true rfl) dX11_copy_94 ⟨Nat.zero_le _, Nat.zero_le _⟩ ?_
              refine aw_if_ne hC 106 dX11_copy_97 (by decide) (fun c9 => ?_) (fun c9 => ?_)
              · refine aw_aload_n hC 0 dX11_copy_106 rfl rfl ?_
                refine aw_getP (b := 1) hC hSt 0 (cs_lt 0 11 0 (by decide) hM) (cs_k 0 11 0 (by decide) hM) rfl (by decide) w_672 rfl (cs_p 0 0 1 (by decide) hM) dX11_copy_107 ?_
                refine aw_iload_n hC 1 dX11_copy_110 rfl rfl ?_
                refine aw_iload_n hC 2 dX11_copy_111 rfl rfl ?_
                refine aw_iload_n hC 3 dX11_copy_112 rfl rfl ?_
                refine aw_iload hC 4 dX11_copy_113 rfl ?_
                refine aw_iload hC 5 dX11_copy_115 rfl ?_
                refine aw_cV5v hC hSt (t_X5_carry G l hM _ _ _ _ _ (h6 c1 c2 c3 c5 c6 c7 c9)) w_486 w_733 w_734 w_735 w_473 rfl rfl (by decide +kernel) ⟨Nat.le_of_ble_eq_true rfl, Nat.le_of_ble_eq_true rfl⟩ (cs_lt 1 5 0 (by decide) hM) (cs_k 1 5 0 (by decide) hM) rfl (Nat.le_of_ble_eq_true rfl) dX11_copy_117 ⟨Nat.zero_le _, Nat.zero_le _⟩ ?_
                generalize er10 : f_X5_carry S 1 a1 a2 a3 a4 a5 = r10
                have hM : CS r10 := CS.of (by rw [← er10]; exact q_X5_carry _ _ _ _ _ _ _) hM
                refine aw_aload_n hC 0 dX11_copy_120 rfl rfl ?_
                refine aw_iload hC 5 dX11_copy_121 rfl ?_
                refine aw_i2l hC dX11_copy_123 ?_
                refine aw_cV1r hC hSt (t_X11_fine G l hM _) w_709 w_720 w_721 w_722 w_517 rfl rfl (by decide +kernel) ⟨Nat.le_of_ble_eq_true rfl, Nat.le_of_ble_eq_true rfl⟩ (cs_lt 0 11 0 (by decide) hM) (cs_k 0 11 0 (by decide) hM) rfl (Nat.le_of_ble_eq_true rfl) dX11_copy_124 ⟨Nat.zero_le _, Nat.zero_le _⟩ ?_
                generalize er11 : f_X11_fine r10 0 a5.toInt64 = r11
                have hM : CS r11.2 := CS.of (by rw [← er11]; exact q_X11_fine _ _ _) hM
                refine aw_lret hC dX11_copy_127 (Nat.le_refl _) (Nat.le_refl _) ?_
                exact FP.qJ ((if_neg c1).trans ((if_neg c2).trans ((if_pos c3).trans ((if_pos c5).trans ((if_pos c6).trans ((if_neg c7).trans ((if_neg c9).trans ((bd_eq er10).trans ((bd_eq er11).trans (rfl))))))))))
              · refine aw_aload_n hC 0 dX11_copy_100 rfl rfl ?_
                refine aw_iconst (v := 2) hC dX11_copy_101 (by decide) ?_
                refine aw_cV1r hC hSt (t_X11_found G l hM _) w_707 w_714 w_715 w_716 w_517 rfl rfl (by decide +kernel) ⟨Nat.le_of_ble_eq_true rfl, Nat.le_of_ble_eq_true rfl⟩ (cs_lt 0 11 0 (by decide) hM) (cs_k 0 11 0 (by decide) hM) rfl (Nat.le_of_ble_eq_true rfl) dX11_copy_102 ⟨Nat.zero_le _, Nat.zero_le _⟩ ?_
                generalize er12 : f_X11_found S 0 (2 : Int32) = r12
                have hM : CS r12.2 := CS.of (by rw [← er12]; exact q_X11_found _ _ _) hM
                refine aw_lret hC dX11_copy_105 (Nat.le_refl _) (Nat.le_refl _) ?_
                exact FP.qJ ((if_neg c1).trans ((if_neg c2).trans ((if_pos c3).trans ((if_pos c5).trans ((if_pos c6).trans ((if_neg c7).trans ((if_pos c9).trans ((bd_eq er12).trans (rfl)))))))))
          · refine aw_aload_n hC 0 dX11_copy_65 rfl rfl ?_
            refine aw_iconst (v := 5) hC dX11_copy_66 (by decide) ?_
            refine aw_cV1r hC hSt (t_X11_found G l hM _) w_707 w_714 w_715 w_716 w_517 rfl rfl (by decide +kernel) ⟨Nat.le_of_ble_eq_true rfl, Nat.le_of_ble_eq_true rfl⟩ (cs_lt 0 11 0 (by decide) hM) (cs_k 0 11 0 (by decide) hM) rfl (Nat.le_of_ble_eq_true rfl) dX11_copy_67 ⟨Nat.zero_le _, Nat.zero_le _⟩ ?_
            generalize er13 : f_X11_found S 0 (5 : Int32) = r13
            have hM : CS r13.2 := CS.of (by rw [← er13]; exact q_X11_found _ _ _) hM
            refine aw_lret hC dX11_copy_70 (Nat.le_refl _) (Nat.le_refl _) ?_
            exact FP.qJ ((if_neg c1).trans ((if_neg c2).trans ((if_pos c3).trans ((if_pos c5).trans ((if_neg c6).trans ((bd_eq er13).trans (rfl)))))))
        · refine aw_aload_n hC 0 dX11_copy_40 rfl rfl ?_
          refine aw_iconst (v := 1) hC dX11_copy_41 (by decide) ?_
          refine aw_cV1r hC hSt (t_X11_found G l hM _) w_707 w_714 w_715 w_716 w_517 rfl rfl (by decide +kernel) ⟨Nat.le_of_ble_eq_true rfl, Nat.le_of_ble_eq_true rfl⟩ (cs_lt 0 11 0 (by decide) hM) (cs_k 0 11 0 (by decide) hM) rfl (Nat.le_of_ble_eq_true rfl) dX11_copy_42 ⟨Nat.zero_le _, Nat.zero_le _⟩ ?_
          generalize er14 : f_X11_found S 0 (1 : Int32) = r14
          have hM : CS r14.2 := CS.of (by rw [← er14]; exact q_X11_found _ _ _) hM
          refine aw_lret hC dX11_copy_45 (Nat.le_refl _) (Nat.le_refl _) ?_
          exact FP.qJ ((if_neg c1).trans ((if_neg c2).trans ((if_pos c3).trans ((if_neg c5).trans ((bd_eq er14).trans (rfl))))))
    · refine aw_ldc2 (v := -9000000000000000001) hC w_710 dX11_copy_14 ?_
      refine aw_lret hC dX11_copy_17 (Nat.le_refl _) (Nat.le_refl _) ?_
      exact FP.qJ ((if_neg c1).trans ((if_pos c2).trans (rfl)))
theorem q_X11_copy (S : HSt) (_o0 : Nat) (a1 : Int32) (a2 : Int32) (a3 : Int32) (a4 : Int32) (a5 : Int32) : shp ((f_X11_copy S _o0 a1 a2 a3 a4 a5).2) = shp S := by
  unfold f_X11_copy
  repeat' (first | with_reducible refine shpr1 ?_ | with_reducible rfl | with_reducible refine (q_X11_fine _ _ _).trans ?_ | with_reducible refine (q_X11_found _ _ _).trans ?_ | with_reducible refine (q_X5_carry _ _ _ _ _ _ _).trans ?_ | with_reducible refine (shp_sI _ _ _ _).trans ?_ | with_reducible refine (shp_sJ _ _ _ _).trans ?_ | with_reducible refine (shp_rI _ _ _).trans ?_ | with_reducible refine shi ?_ ?_ | with_reducible refine shb (fun _ _ => ?_) | with_reducible refine shiP (fun q : Int64 × HSt => q.2) ?_ ?_ | with_reducible refine shbP (fun q : Int64 × HSt => q.2) (fun _ _ => ?_) | (subst_vars; with_reducible rfl) | (subst_vars; with_reducible refine (q_X11_fine _ _ _).trans ?_) | (subst_vars; with_reducible refine (q_X11_found _ _ _).trans ?_) | (subst_vars; with_reducible refine (q_X5_carry _ _ _ _ _ _ _).trans ?_) | (subst_vars; with_reducible refine (shp_sI _ _ _ _).trans ?_) | (subst_vars; with_reducible refine (shp_sJ _ _ _ _).trans ?_) | (subst_vars; with_reducible refine (shp_rI _ _ _).trans ?_) | (subst_vars; with_reducible refine shi ?_ ?_) | (subst_vars; with_reducible refine shb (fun _ _ => ?_)))
noncomputable def f_X11_image (S : HSt) (_o0 : Nat) (a1 : Int32) : Int64 × HSt := if (f_X11_within S a1 (0 : Int32) (1 : Int32)) = 0 then (pr ((-9000000000000000001 : Int64)) (S)) else (if (gI S 18 2) = 0 then (pr ((-9000000000000000002 : Int64)) (S)) else (bd (f_X7_copyFrom S (24 + 5 * a1.toNatClampNeg) 18) fun r3 => pr ((1 : Int64)) (r3)))
def p_X11_image (S : HSt) (_o0 : Nat) (a1 : Int32) : Prop := ((¬ (f_X11_within S a1 (0 : Int32) (1 : Int32)) = 0) → (¬ (gI S 18 2) = 0) → vp_in a1 2) ∧ ((¬ (f_X11_within S a1 (0 : Int32) (1 : Int32)) = 0) → (¬ (gI S 18 2) = 0) → p_X7_copyFrom S (24 + 5 * a1.toNatClampNeg) 18)
set_option maxRecDepth 100000 in
theorem t_X11_image (G : GG) (l : Launch) {S : HSt} (hM : CS S) (a1 : Int32)  (hp : p_X11_image S 0 a1) : AM G l yX11_image cX11_image 2 (some .long) (rmD 3 0 0) 0 0 [.ref 0, .int a1] S (FP (some (.long (f_X11_image S 0 a1).1)) ((f_X11_image S 0 a1).2)) := by
  obtain ⟨h0, h1⟩ := hp
  refine AM.mk (by decide) (Nat.le_of_ble_eq_true rfl) ?_
  intro p e s m below meth c hC hSt _
  refine aw_iload_n hC 1 dX11_image_0 rfl rfl ?_
  refine aw_iconst (v := 0) hC dX11_image_1 (by decide) ?_
  refine aw_iconst (v := 1) hC dX11_image_2 (by decide) ?_
  refine aw_cS3r hC hSt (t_X11_within G l  _ _ _) w_706 w_712 w_713 w_517 rfl rfl (by decide +kernel) ⟨Nat.le_of_ble_eq_true rfl, Nat.le_of_ble_eq_true rfl⟩ (Nat.le_of_ble_eq_true rfl) dX11_image_3 ⟨Nat.zero_le _, Nat.zero_le _⟩ ?_
  refine aw_if_ne hC 13 dX11_image_6 (by decide) (fun c1 => ?_) (fun c1 => ?_)
  · refine aw_aload_n hC 0 dX11_image_13 rfl rfl ?_
    refine aw_getP (b := 18) hC hSt 2 (cs_lt 0 11 0 (by decide) hM) (cs_k 0 11 0 (by decide) hM) rfl (by decide) w_678 rfl (cs_p 0 2 18 (by decide) hM) dX11_image_14 ?_
    refine aw_getI hC hSt 2 (cs_lt 18 7 0 (by decide) hM) (cs_k 18 7 0 (by decide) hM) rfl (by decide) w_783 rfl dX11_image_17 ?_
    refine aw_if_ne hC 27 dX11_image_20 (by decide) (fun c2 => ?_) (fun c2 => ?_)
    · refine aw_aload_n hC 0 dX11_image_27 rfl rfl ?_
      refine aw_getP (b := 23) hC hSt 3 (cs_lt 0 11 0 (by decide) hM) (cs_k 0 11 0 (by decide) hM) rfl (by decide) w_679 rfl (cs_p 0 3 23 (by decide) hM) dX11_image_28 ?_
      refine aw_iload_n hC 1 dX11_image_31 rfl rfl ?_
      refine aw_aaldS hC hSt (cs_lt 23 18 2 (by decide) hM) (cs_k 23 18 2 (by decide) hM) (vp_len (n := 2) (cs_l 23 18 2 (by decide) hM) (h0 c1 c2)) (cs_p 23 a1.toNatClampNeg (24 + 5 * a1.toNatClampNeg) (ar_p23 (h0 c1 c2)) hM) dX11_image_32 ?_
      refine aw_aload_n hC 0 dX11_image_33 rfl rfl ?_
      refine aw_getP (b := 18) hC hSt 2 (cs_lt 0 11 0 (by decide) hM) (cs_k 0 11 0 (by decide) hM) rfl (by decide) w_678 rfl (cs_p 0 2 18 (by decide) hM) dX11_image_34 ?_
      refine aw_cV1v hC hSt (t_X7_copyFrom G l hM _ _ (ar_m23 (h0 c1 c2)) (by decide) (h1 c1 c2)) w_599 w_885 w_886 w_887 w_114 rfl rfl (by decide +kernel) ⟨Nat.le_of_ble_eq_true rfl, Nat.le_of_ble_eq_true rfl⟩ (cs_lt (24 + 5 * a1.toNatClampNeg) 7 0 (ar_m23 (h0 c1 c2)) hM) (cs_k (24 + 5 * a1.toNatClampNeg) 7 0 (ar_m23 (h0 c1 c2)) hM) rfl (Nat.le_of_ble_eq_true rfl) dX11_image_37 ⟨Nat.zero_le _, Nat.zero_le _⟩ ?_
      generalize er3 : f_X7_copyFrom S (24 + 5 * a1.toNatClampNeg) 18 = r3
      have hM : CS r3 := CS.of (by rw [← er3]; exact q_X7_copyFrom _ _ _) hM
      refine aw_lconst (v := 1) hC dX11_image_40 (by decide) ?_
      refine aw_lret hC dX11_image_41 (Nat.le_refl _) (Nat.le_refl _) ?_
      exact FP.qJ ((if_neg c1).trans ((if_neg c2).trans ((bd_eq er3).trans (rfl))))
    · refine aw_ldc2 (v := -9000000000000000002) hC w_785 dX11_image_23 ?_
      refine aw_lret hC dX11_image_26 (Nat.le_refl _) (Nat.le_refl _) ?_
      exact FP.qJ ((if_neg c1).trans ((if_pos c2).trans (rfl)))
  · refine aw_ldc2 (v := -9000000000000000001) hC w_710 dX11_image_9 ?_
    refine aw_lret hC dX11_image_12 (Nat.le_refl _) (Nat.le_refl _) ?_
    exact FP.qJ ((if_pos c1).trans (rfl))
theorem q_X11_image (S : HSt) (_o0 : Nat) (a1 : Int32) : shp ((f_X11_image S _o0 a1).2) = shp S := by
  unfold f_X11_image
  repeat' (first | with_reducible refine shpr1 ?_ | with_reducible rfl | with_reducible refine (q_X7_copyFrom _ _ _).trans ?_ | with_reducible refine (shp_sI _ _ _ _).trans ?_ | with_reducible refine (shp_sJ _ _ _ _).trans ?_ | with_reducible refine (shp_rI _ _ _).trans ?_ | with_reducible refine shi ?_ ?_ | with_reducible refine shb (fun _ _ => ?_) | with_reducible refine shiP (fun q : Int64 × HSt => q.2) ?_ ?_ | with_reducible refine shbP (fun q : Int64 × HSt => q.2) (fun _ _ => ?_) | (subst_vars; with_reducible rfl) | (subst_vars; with_reducible refine (q_X7_copyFrom _ _ _).trans ?_) | (subst_vars; with_reducible refine (shp_sI _ _ _ _).trans ?_) | (subst_vars; with_reducible refine (shp_sJ _ _ _ _).trans ?_) | (subst_vars; with_reducible refine (shp_rI _ _ _).trans ?_) | (subst_vars; with_reducible refine shi ?_ ?_) | (subst_vars; with_reducible refine shb (fun _ _ => ?_)))
noncomputable def f_X11_restore (S : HSt) (_o0 : Nat) (a1 : Int32) : Int64 × HSt := if (f_X11_within S a1 (0 : Int32) (1 : Int32)) = 0 then (pr ((-9000000000000000001 : Int64)) (S)) else (if (gI S (24 + 5 * a1.toNatClampNeg) 2) = 0 then (pr ((-9000000000000000002 : Int64)) (S)) else (bd (f_X7_copyFrom S 18 (24 + 5 * a1.toNatClampNeg)) fun r3 => pr ((1 : Int64)) (r3)))
def p_X11_restore (S : HSt) (_o0 : Nat) (a1 : Int32) : Prop := ((¬ (f_X11_within S a1 (0 : Int32) (1 : Int32)) = 0) → vp_in a1 2) ∧ ((¬ (f_X11_within S a1 (0 : Int32) (1 : Int32)) = 0) → (¬ (gI S (24 + 5 * a1.toNatClampNeg) 2) = 0) → vp_in a1 2) ∧ ((¬ (f_X11_within S a1 (0 : Int32) (1 : Int32)) = 0) → (¬ (gI S (24 + 5 * a1.toNatClampNeg) 2) = 0) → p_X7_copyFrom S 18 (24 + 5 * a1.toNatClampNeg))
set_option maxRecDepth 100000 in
theorem t_X11_restore (G : GG) (l : Launch) {S : HSt} (hM : CS S) (a1 : Int32)  (hp : p_X11_restore S 0 a1) : AM G l yX11_restore cX11_restore 2 (some .long) (rmD 3 0 0) 0 0 [.ref 0, .int a1] S (FP (some (.long (f_X11_restore S 0 a1).1)) ((f_X11_restore S 0 a1).2)) := by
  obtain ⟨h0, h1, h2⟩ := hp
  refine AM.mk (by decide) (Nat.le_of_ble_eq_true rfl) ?_
  intro p e s m below meth c hC hSt _
  refine aw_iload_n hC 1 dX11_restore_0 rfl rfl ?_
  refine aw_iconst (v := 0) hC dX11_restore_1 (by decide) ?_
  refine aw_iconst (v := 1) hC dX11_restore_2 (by decide) ?_
  refine aw_cS3r hC hSt (t_X11_within G l  _ _ _) w_706 w_712 w_713 w_517 rfl rfl (by decide +kernel) ⟨Nat.le_of_ble_eq_true rfl, Nat.le_of_ble_eq_true rfl⟩ (Nat.le_of_ble_eq_true rfl) dX11_restore_3 ⟨Nat.zero_le _, Nat.zero_le _⟩ ?_
  refine aw_if_ne hC 13 dX11_restore_6 (by decide) (fun c1 => ?_) (fun c1 => ?_)
  · refine aw_aload_n hC 0 dX11_restore_13 rfl rfl ?_
    refine aw_getP (b := 23) hC hSt 3 (cs_lt 0 11 0 (by decide) hM) (cs_k 0 11 0 (by decide) hM) rfl (by decide) w_679 rfl (cs_p 0 3 23 (by decide) hM) dX11_restore_14 ?_
    refine aw_iload_n hC 1 dX11_restore_17 rfl rfl ?_
    refine aw_aaldS hC hSt (cs_lt 23 18 2 (by decide) hM) (cs_k 23 18 2 (by decide) hM) (vp_len (n := 2) (cs_l 23 18 2 (by decide) hM) (h0 c1)) (cs_p 23 a1.toNatClampNeg (24 + 5 * a1.toNatClampNeg) (ar_p23 (h0 c1)) hM) dX11_restore_18 ?_
    refine aw_getI hC hSt 2 (cs_lt (24 + 5 * a1.toNatClampNeg) 7 0 (ar_m23 (h0 c1)) hM) (cs_k (24 + 5 * a1.toNatClampNeg) 7 0 (ar_m23 (h0 c1)) hM) rfl (by decide) w_783 rfl dX11_restore_19 ?_
    refine aw_if_ne hC 29 dX11_restore_22 (by decide) (fun c2 => ?_) (fun c2 => ?_)
    · refine aw_aload_n hC 0 dX11_restore_29 rfl rfl ?_
      refine aw_getP (b := 18) hC hSt 2 (cs_lt 0 11 0 (by decide) hM) (cs_k 0 11 0 (by decide) hM) rfl (by decide) w_678 rfl (cs_p 0 2 18 (by decide) hM) dX11_restore_30 ?_
      refine aw_aload_n hC 0 dX11_restore_33 rfl rfl ?_
      refine aw_getP (b := 23) hC hSt 3 (cs_lt 0 11 0 (by decide) hM) (cs_k 0 11 0 (by decide) hM) rfl (by decide) w_679 rfl (cs_p 0 3 23 (by decide) hM) dX11_restore_34 ?_
      refine aw_iload_n hC 1 dX11_restore_37 rfl rfl ?_
      refine aw_aaldS hC hSt (cs_lt 23 18 2 (by decide) hM) (cs_k 23 18 2 (by decide) hM) (vp_len (n := 2) (cs_l 23 18 2 (by decide) hM) (h1 c1 c2)) (cs_p 23 a1.toNatClampNeg (24 + 5 * a1.toNatClampNeg) (ar_p23 (h1 c1 c2)) hM) dX11_restore_38 ?_
      refine aw_cV1v hC hSt (t_X7_copyFrom G l hM _ _ (by decide) (ar_m23 (h1 c1 c2)) (h2 c1 c2)) w_599 w_885 w_886 w_887 w_114 rfl rfl (by decide +kernel) ⟨Nat.le_of_ble_eq_true rfl, Nat.le_of_ble_eq_true rfl⟩ (cs_lt 18 7 0 (by decide) hM) (cs_k 18 7 0 (by decide) hM) rfl (Nat.le_of_ble_eq_true rfl) dX11_restore_39 ⟨Nat.zero_le _, Nat.zero_le _⟩ ?_
      generalize er3 : f_X7_copyFrom S 18 (24 + 5 * a1.toNatClampNeg) = r3
      have hM : CS r3 := CS.of (by rw [← er3]; exact q_X7_copyFrom _ _ _) hM
      refine aw_lconst (v := 1) hC dX11_restore_42 (by decide) ?_
      refine aw_lret hC dX11_restore_43 (Nat.le_refl _) (Nat.le_refl _) ?_
      exact FP.qJ ((if_neg c1).trans ((if_neg c2).trans ((bd_eq er3).trans (rfl))))
    · refine aw_ldc2 (v := -9000000000000000002) hC w_785 dX11_restore_25 ?_
      refine aw_lret hC dX11_restore_28 (Nat.le_refl _) (Nat.le_refl _) ?_
      exact FP.qJ ((if_neg c1).trans ((if_pos c2).trans (rfl)))
  · refine aw_ldc2 (v := -9000000000000000001) hC w_710 dX11_restore_9 ?_
    refine aw_lret hC dX11_restore_12 (Nat.le_refl _) (Nat.le_refl _) ?_
    exact FP.qJ ((if_pos c1).trans (rfl))
theorem q_X11_restore (S : HSt) (_o0 : Nat) (a1 : Int32) : shp ((f_X11_restore S _o0 a1).2) = shp S := by
  unfold f_X11_restore
  repeat' (first | with_reducible refine shpr1 ?_ | with_reducible rfl | with_reducible refine (q_X7_copyFrom _ _ _).trans ?_ | with_reducible refine (shp_sI _ _ _ _).trans ?_ | with_reducible refine (shp_sJ _ _ _ _).trans ?_ | with_reducible refine (shp_rI _ _ _).trans ?_ | with_reducible refine shi ?_ ?_ | with_reducible refine shb (fun _ _ => ?_) | with_reducible refine shiP (fun q : Int64 × HSt => q.2) ?_ ?_ | with_reducible refine shbP (fun q : Int64 × HSt => q.2) (fun _ _ => ?_) | (subst_vars; with_reducible rfl) | (subst_vars; with_reducible refine (q_X7_copyFrom _ _ _).trans ?_) | (subst_vars; with_reducible refine (shp_sI _ _ _ _).trans ?_) | (subst_vars; with_reducible refine (shp_sJ _ _ _ _).trans ?_) | (subst_vars; with_reducible refine (shp_rI _ _ _).trans ?_) | (subst_vars; with_reducible refine shi ?_ ?_) | (subst_vars; with_reducible refine shb (fun _ _ => ?_)))
noncomputable def f_X11_set (S : HSt) (_o0 : Nat) (a1 : Int32) (a2 : Int32) (a3 : Int32) : Int64 × HSt := if (f_X5_isRow S a1) = 0 then (pr ((-9000000000000000001 : Int64)) (S)) else (if (f_X5_isMissing S 1 a1) = 0 then (if (f_X5_hasPlaces S 1 a1 a2 (1 : Int32)) = 0 then (bd (f_X11_found S 0 (2 : Int32)) fun r6 => pr (r6.1) (r6.2)) else (bd (f_X5_put S 1 a1 a2 a3) fun r4 => bd (f_X11_fine r4.2 0 r4.1.toInt64) fun r5 => pr (r5.1) (r5.2))) else (bd (f_X11_found S 0 (1 : Int32)) fun r7 => pr (r7.1) (r7.2)))
def p_X11_set (S : HSt) (_o0 : Nat) (a1 : Int32) (a2 : Int32) (a3 : Int32) : Prop := ((¬ (f_X5_isRow S a1) = 0) → p_X5_isMissing S 1 a1) ∧ ((¬ (f_X5_isRow S a1) = 0) → ((f_X5_isMissing S 1 a1) = 0) → p_X5_hasPlaces S 1 a1 a2 (1 : Int32)) ∧ ((¬ (f_X5_isRow S a1) = 0) → ((f_X5_isMissing S 1 a1) = 0) → (¬ (f_X5_hasPlaces S 1 a1 a2 (1 : Int32)) = 0) → p_X5_put S 1 a1 a2 a3)
set_option maxRecDepth 100000 in
theorem t_X11_set (G : GG) (l : Launch) {S : HSt} (hM : CS S) (a1 : Int32) (a2 : Int32) (a3 : Int32)  (hp : p_X11_set S 0 a1 a2 a3) : AM G l yX11_set cX11_set 4 (some .long) (rmD 4 0 0) 0 0 [.ref 0, .int a1, .int a2, .int a3] S (FP (some (.long (f_X11_set S 0 a1 a2 a3).1)) ((f_X11_set S 0 a1 a2 a3).2)) := by
  obtain ⟨h0, h1, h2⟩ := hp
  refine AM.mk (by decide) (Nat.le_of_ble_eq_true rfl) ?_
  intro p e s m below meth c hC hSt _
  refine aw_iload_n hC 1 dX11_set_0 rfl rfl ?_
  refine aw_cS1r hC hSt (t_X5_isRow G l  _) w_469 w_711 w_472 w_473 rfl rfl (by decide +kernel) ⟨Nat.le_of_ble_eq_true rfl, Nat.le_of_ble_eq_true rfl⟩ (Nat.le_of_ble_eq_true rfl) dX11_set_1 ⟨Nat.zero_le _, Nat.zero_le _⟩ ?_
  refine aw_if_ne hC 11 dX11_set_4 (by decide) (fun c1 => ?_) (fun c1 => ?_)
  · refine aw_aload_n hC 0 dX11_set_11 rfl rfl ?_
    refine aw_getP (b := 1) hC hSt 0 (cs_lt 0 11 0 (by decide) hM) (cs_k 0 11 0 (by decide) hM) rfl (by decide) w_672 rfl (cs_p 0 0 1 (by decide) hM) dX11_set_12 ?_
    refine aw_iload_n hC 1 dX11_set_15 rfl rfl ?_
    refine aw_cV1r hC hSt (t_X5_isMissing G l hM _ (h0 c1)) w_470 w_724 w_478 w_479 w_473 rfl rfl (by decide +kernel) ⟨Nat.le_of_ble_eq_true rfl, Nat.le_of_ble_eq_true rfl⟩ (cs_lt 1 5 0 (by decide) hM) (cs_k 1 5 0 (by decide) hM) rfl (Nat.le_of_ble_eq_true rfl) dX11_set_16 ⟨Nat.zero_le _, Nat.zero_le _⟩ ?_
    refine aw_if_eq hC 28 dX11_set_19 (by decide) (fun c2 => ?_) (fun c2 => ?_)
    · refine aw_aload_n hC 0 dX11_set_28 rfl rfl ?_
      refine aw_getP (b := 1) hC hSt 0 (cs_lt 0 11 0 (by decide) hM) (cs_k 0 11 0 (by decide) hM) rfl (by decide) w_672 rfl (cs_p 0 0 1 (by decide) hM) dX11_set_29 ?_
      refine aw_iload_n hC 1 dX11_set_32 rfl rfl ?_
      refine aw_iload_n hC 2 dX11_set_33 rfl rfl ?_
      refine aw_iconst (v := 1) hC dX11_set_34 (by decide) ?_
      refine aw_cV3r hC hSt (t_X5_hasPlaces G l hM _ _ _ (h1 c1 c2)) w_476 w_725 w_483 w_484 w_473 rfl rfl (by decide +kernel) ⟨Nat.le_of_ble_eq_true rfl, Nat.le_of_ble_eq_true rfl⟩ (cs_lt 1 5 0 (by decide) hM) (cs_k 1 5 0 (by decide) hM) rfl (Nat.le_of_ble_eq_true rfl) dX11_set_35 ⟨Nat.zero_le _, Nat.zero_le _⟩ ?_
      refine aw_if_ne hC 47 dX11_set_38 (by decide) (fun c3 => ?_) (fun c3 => ?_)
      · refine aw_aload_n hC 0 dX11_set_47 rfl rfl ?_
        refine aw_aload_n hC 0 dX11_set_48 rfl rfl ?_
        refine aw_getP (b := 1) hC hSt 0 (cs_lt 0 11 0 (by decide) hM) (cs_k 0 11 0 (by decide) hM) rfl (by decide) w_672 rfl (cs_p 0 0 1 (by decide) hM) dX11_set_49 ?_
        refine aw_iload_n hC 1 dX11_set_52 rfl rfl ?_
        refine aw_iload_n hC 2 dX11_set_53 rfl rfl ?_
        refine aw_iload_n hC 3 dX11_set_54 rfl rfl ?_
        refine aw_cV3r hC hSt (t_X5_put G l hM _ _ _ (h2 c1 c2 c3)) w_481 w_726 w_727 w_728 w_473 rfl rfl (by decide +kernel) ⟨Nat.le_of_ble_eq_true rfl, Nat.le_of_ble_eq_true rfl⟩ (cs_lt 1 5 0 (by decide) hM) (cs_k 1 5 0 (by decide) hM) rfl (Nat.le_of_ble_eq_true rfl) dX11_set_55 ⟨Nat.zero_le _, Nat.zero_le _⟩ ?_
        generalize er4 : f_X5_put S 1 a1 a2 a3 = r4
        have hM : CS r4.2 := CS.of (by rw [← er4]; exact q_X5_put _ _ _ _ _) hM
        refine aw_i2l hC dX11_set_58 ?_
        refine aw_cV1r hC hSt (t_X11_fine G l hM _) w_709 w_720 w_721 w_722 w_517 rfl rfl (by decide +kernel) ⟨Nat.le_of_ble_eq_true rfl, Nat.le_of_ble_eq_true rfl⟩ (cs_lt 0 11 0 (by decide) hM) (cs_k 0 11 0 (by decide) hM) rfl (Nat.le_of_ble_eq_true rfl) dX11_set_59 ⟨Nat.zero_le _, Nat.zero_le _⟩ ?_
        generalize er5 : f_X11_fine r4.2 0 r4.1.toInt64 = r5
        have hM : CS r5.2 := CS.of (by rw [← er5]; exact q_X11_fine _ _ _) hM
        refine aw_lret hC dX11_set_62 (Nat.le_refl _) (Nat.le_refl _) ?_
        exact FP.qJ ((if_neg c1).trans ((if_pos c2).trans ((if_neg c3).trans ((bd_eq er4).trans ((bd_eq er5).trans (rfl))))))
      · refine aw_aload_n hC 0 dX11_set_41 rfl rfl ?_
        refine aw_iconst (v := 2) hC dX11_set_42 (by decide) ?_
        refine aw_cV1r hC hSt (t_X11_found G l hM _) w_707 w_714 w_715 w_716 w_517 rfl rfl (by decide +kernel) ⟨Nat.le_of_ble_eq_true rfl, Nat.le_of_ble_eq_true rfl⟩ (cs_lt 0 11 0 (by decide) hM) (cs_k 0 11 0 (by decide) hM) rfl (Nat.le_of_ble_eq_true rfl) dX11_set_43 ⟨Nat.zero_le _, Nat.zero_le _⟩ ?_
        generalize er6 : f_X11_found S 0 (2 : Int32) = r6
        have hM : CS r6.2 := CS.of (by rw [← er6]; exact q_X11_found _ _ _) hM
        refine aw_lret hC dX11_set_46 (Nat.le_refl _) (Nat.le_refl _) ?_
        exact FP.qJ ((if_neg c1).trans ((if_pos c2).trans ((if_pos c3).trans ((bd_eq er6).trans (rfl)))))
    · refine aw_aload_n hC 0 dX11_set_22 rfl rfl ?_
      refine aw_iconst (v := 1) hC dX11_set_23 (by decide) ?_
      refine aw_cV1r hC hSt (t_X11_found G l hM _) w_707 w_714 w_715 w_716 w_517 rfl rfl (by decide +kernel) ⟨Nat.le_of_ble_eq_true rfl, Nat.le_of_ble_eq_true rfl⟩ (cs_lt 0 11 0 (by decide) hM) (cs_k 0 11 0 (by decide) hM) rfl (Nat.le_of_ble_eq_true rfl) dX11_set_24 ⟨Nat.zero_le _, Nat.zero_le _⟩ ?_
      generalize er7 : f_X11_found S 0 (1 : Int32) = r7
      have hM : CS r7.2 := CS.of (by rw [← er7]; exact q_X11_found _ _ _) hM
      refine aw_lret hC dX11_set_27 (Nat.le_refl _) (Nat.le_refl _) ?_
      exact FP.qJ ((if_neg c1).trans ((if_neg c2).trans ((bd_eq er7).trans (rfl))))
  · refine aw_ldc2 (v := -9000000000000000001) hC w_710 dX11_set_7 ?_
    refine aw_lret hC dX11_set_10 (Nat.le_refl _) (Nat.le_refl _) ?_
    exact FP.qJ ((if_pos c1).trans (rfl))
theorem q_X11_set (S : HSt) (_o0 : Nat) (a1 : Int32) (a2 : Int32) (a3 : Int32) : shp ((f_X11_set S _o0 a1 a2 a3).2) = shp S := by
  unfold f_X11_set
  repeat' (first | with_reducible refine shpr1 ?_ | with_reducible rfl | with_reducible refine (q_X11_fine _ _ _).trans ?_ | with_reducible refine (q_X11_found _ _ _).trans ?_ | with_reducible refine (q_X5_put _ _ _ _ _).trans ?_ | with_reducible refine (shp_sI _ _ _ _).trans ?_ | with_reducible refine (shp_sJ _ _ _ _).trans ?_ | with_reducible refine (shp_rI _ _ _).trans ?_ | with_reducible refine shi ?_ ?_ | with_reducible refine shb (fun _ _ => ?_) | with_reducible refine shiP (fun q : Int64 × HSt => q.2) ?_ ?_ | with_reducible refine shbP (fun q : Int64 × HSt => q.2) (fun _ _ => ?_) | (subst_vars; with_reducible rfl) | (subst_vars; with_reducible refine (q_X11_fine _ _ _).trans ?_) | (subst_vars; with_reducible refine (q_X11_found _ _ _).trans ?_) | (subst_vars; with_reducible refine (q_X5_put _ _ _ _ _).trans ?_) | (subst_vars; with_reducible refine (shp_sI _ _ _ _).trans ?_) | (subst_vars; with_reducible refine (shp_sJ _ _ _ _).trans ?_) | (subst_vars; with_reducible refine (shp_rI _ _ _).trans ?_) | (subst_vars; with_reducible refine shi ?_ ?_) | (subst_vars; with_reducible refine shb (fun _ _ => ?_)))
noncomputable def f_X11_drop (S : HSt) (_o0 : Nat) (a1 : Int32) : Int64 × HSt := if (f_X5_isRow S a1) = 0 then (pr ((-9000000000000000001 : Int64)) (S)) else (if (f_X5_isMissing S 1 a1) = 0 then (bd (f_X5_remove S 1 a1) fun r3 => bd (f_X11_fine r3.2 0 r3.1.toInt64) fun r4 => pr (r4.1) (r4.2)) else (bd (f_X11_found S 0 (1 : Int32)) fun r5 => pr (r5.1) (r5.2)))
def p_X11_drop (S : HSt) (_o0 : Nat) (a1 : Int32) : Prop := ((¬ (f_X5_isRow S a1) = 0) → p_X5_isMissing S 1 a1) ∧ ((¬ (f_X5_isRow S a1) = 0) → ((f_X5_isMissing S 1 a1) = 0) → p_X5_remove S 1 a1)
set_option maxRecDepth 100000 in
theorem t_X11_drop (G : GG) (l : Launch) {S : HSt} (hM : CS S) (a1 : Int32)  (hp : p_X11_drop S 0 a1) : AM G l yX11_drop cX11_drop 2 (some .long) (rmD 3 0 0) 0 0 [.ref 0, .int a1] S (FP (some (.long (f_X11_drop S 0 a1).1)) ((f_X11_drop S 0 a1).2)) := by
  obtain ⟨h0, h1⟩ := hp
  refine AM.mk (by decide) (Nat.le_of_ble_eq_true rfl) ?_
  intro p e s m below meth c hC hSt _
  refine aw_iload_n hC 1 dX11_drop_0 rfl rfl ?_
  refine aw_cS1r hC hSt (t_X5_isRow G l  _) w_469 w_711 w_472 w_473 rfl rfl (by decide +kernel) ⟨Nat.le_of_ble_eq_true rfl, Nat.le_of_ble_eq_true rfl⟩ (Nat.le_of_ble_eq_true rfl) dX11_drop_1 ⟨Nat.zero_le _, Nat.zero_le _⟩ ?_
  refine aw_if_ne hC 11 dX11_drop_4 (by decide) (fun c1 => ?_) (fun c1 => ?_)
  · refine aw_aload_n hC 0 dX11_drop_11 rfl rfl ?_
    refine aw_getP (b := 1) hC hSt 0 (cs_lt 0 11 0 (by decide) hM) (cs_k 0 11 0 (by decide) hM) rfl (by decide) w_672 rfl (cs_p 0 0 1 (by decide) hM) dX11_drop_12 ?_
    refine aw_iload_n hC 1 dX11_drop_15 rfl rfl ?_
    refine aw_cV1r hC hSt (t_X5_isMissing G l hM _ (h0 c1)) w_470 w_724 w_478 w_479 w_473 rfl rfl (by decide +kernel) ⟨Nat.le_of_ble_eq_true rfl, Nat.le_of_ble_eq_true rfl⟩ (cs_lt 1 5 0 (by decide) hM) (cs_k 1 5 0 (by decide) hM) rfl (Nat.le_of_ble_eq_true rfl) dX11_drop_16 ⟨Nat.zero_le _, Nat.zero_le _⟩ ?_
    refine aw_if_eq hC 28 dX11_drop_19 (by decide) (fun c2 => ?_) (fun c2 => ?_)
    · refine aw_aload_n hC 0 dX11_drop_28 rfl rfl ?_
      refine aw_aload_n hC 0 dX11_drop_29 rfl rfl ?_
      refine aw_getP (b := 1) hC hSt 0 (cs_lt 0 11 0 (by decide) hM) (cs_k 0 11 0 (by decide) hM) rfl (by decide) w_672 rfl (cs_p 0 0 1 (by decide) hM) dX11_drop_30 ?_
      refine aw_iload_n hC 1 dX11_drop_33 rfl rfl ?_
      refine aw_cV1r hC hSt (t_X5_remove G l hM _ (h1 c1 c2)) w_488 w_737 w_738 w_739 w_473 rfl rfl (by decide +kernel) ⟨Nat.le_of_ble_eq_true rfl, Nat.le_of_ble_eq_true rfl⟩ (cs_lt 1 5 0 (by decide) hM) (cs_k 1 5 0 (by decide) hM) rfl (Nat.le_of_ble_eq_true rfl) dX11_drop_34 ⟨Nat.zero_le _, Nat.zero_le _⟩ ?_
      generalize er3 : f_X5_remove S 1 a1 = r3
      have hM : CS r3.2 := CS.of (by rw [← er3]; exact q_X5_remove _ _ _) hM
      refine aw_i2l hC dX11_drop_37 ?_
      refine aw_cV1r hC hSt (t_X11_fine G l hM _) w_709 w_720 w_721 w_722 w_517 rfl rfl (by decide +kernel) ⟨Nat.le_of_ble_eq_true rfl, Nat.le_of_ble_eq_true rfl⟩ (cs_lt 0 11 0 (by decide) hM) (cs_k 0 11 0 (by decide) hM) rfl (Nat.le_of_ble_eq_true rfl) dX11_drop_38 ⟨Nat.zero_le _, Nat.zero_le _⟩ ?_
      generalize er4 : f_X11_fine r3.2 0 r3.1.toInt64 = r4
      have hM : CS r4.2 := CS.of (by rw [← er4]; exact q_X11_fine _ _ _) hM
      refine aw_lret hC dX11_drop_41 (Nat.le_refl _) (Nat.le_refl _) ?_
      exact FP.qJ ((if_neg c1).trans ((if_pos c2).trans ((bd_eq er3).trans ((bd_eq er4).trans (rfl)))))
    · refine aw_aload_n hC 0 dX11_drop_22 rfl rfl ?_
      refine aw_iconst (v := 1) hC dX11_drop_23 (by decide) ?_
      refine aw_cV1r hC hSt (t_X11_found G l hM _) w_707 w_714 w_715 w_716 w_517 rfl rfl (by decide +kernel) ⟨Nat.le_of_ble_eq_true rfl, Nat.le_of_ble_eq_true rfl⟩ (cs_lt 0 11 0 (by decide) hM) (cs_k 0 11 0 (by decide) hM) rfl (Nat.le_of_ble_eq_true rfl) dX11_drop_24 ⟨Nat.zero_le _, Nat.zero_le _⟩ ?_
      generalize er5 : f_X11_found S 0 (1 : Int32) = r5
      have hM : CS r5.2 := CS.of (by rw [← er5]; exact q_X11_found _ _ _) hM
      refine aw_lret hC dX11_drop_27 (Nat.le_refl _) (Nat.le_refl _) ?_
      exact FP.qJ ((if_neg c1).trans ((if_neg c2).trans ((bd_eq er5).trans (rfl))))
  · refine aw_ldc2 (v := -9000000000000000001) hC w_710 dX11_drop_7 ?_
    refine aw_lret hC dX11_drop_10 (Nat.le_refl _) (Nat.le_refl _) ?_
    exact FP.qJ ((if_pos c1).trans (rfl))
theorem q_X11_drop (S : HSt) (_o0 : Nat) (a1 : Int32) : shp ((f_X11_drop S _o0 a1).2) = shp S := by
  unfold f_X11_drop
  repeat' (first | with_reducible refine shpr1 ?_ | with_reducible rfl | with_reducible refine (q_X11_fine _ _ _).trans ?_ | with_reducible refine (q_X11_found _ _ _).trans ?_ | with_reducible refine (q_X5_remove _ _ _).trans ?_ | with_reducible refine (shp_sI _ _ _ _).trans ?_ | with_reducible refine (shp_sJ _ _ _ _).trans ?_ | with_reducible refine (shp_rI _ _ _).trans ?_ | with_reducible refine shi ?_ ?_ | with_reducible refine shb (fun _ _ => ?_) | with_reducible refine shiP (fun q : Int64 × HSt => q.2) ?_ ?_ | with_reducible refine shbP (fun q : Int64 × HSt => q.2) (fun _ _ => ?_) | (subst_vars; with_reducible rfl) | (subst_vars; with_reducible refine (q_X11_fine _ _ _).trans ?_) | (subst_vars; with_reducible refine (q_X11_found _ _ _).trans ?_) | (subst_vars; with_reducible refine (q_X5_remove _ _ _).trans ?_) | (subst_vars; with_reducible refine (shp_sI _ _ _ _).trans ?_) | (subst_vars; with_reducible refine (shp_sJ _ _ _ _).trans ?_) | (subst_vars; with_reducible refine (shp_rI _ _ _).trans ?_) | (subst_vars; with_reducible refine shi ?_ ?_) | (subst_vars; with_reducible refine shb (fun _ _ => ?_)))
noncomputable def f_X11_feed (S : HSt) (_o0 : Nat) (a1 : Int64) (a2 : Int32) : Int64 × HSt := if (f_X11_within S a2 (1 : Int32) (8 : Int32)) = 0 then (pr ((-9000000000000000001 : Int64)) (S)) else (bd (f_X4_append S 13 a1 a2) fun r2 => bd ((if r2.1 = 0 then (-9000000000000000003 : Int64) else (f_X4_bytes r2.2 13).toInt64)) fun x4 => pr (x4) (r2.2))
def p_X11_feed (S : HSt) (_o0 : Nat) (a1 : Int64) (a2 : Int32) : Prop := ((¬ (f_X11_within S a2 (1 : Int32) (8 : Int32)) = 0) → p_X4_append S 13 a1 a2)
set_option maxRecDepth 100000 in
theorem t_X11_feed (G : GG) (l : Launch) {S : HSt} (hM : CS S) (a1 : Int64) (a2 : Int32)  (hp : p_X11_feed S 0 a1 a2) : AM G l yX11_feed cX11_feed 4 (some .long) (rmD 1 0 0) 0 0 [.ref 0, .long a1, .int a2] S (FP (some (.long (f_X11_feed S 0 a1 a2).1)) ((f_X11_feed S 0 a1 a2).2)) := by
  have h0 := hp
  unfold p_X11_feed at h0
  refine AM.mk (by decide) (Nat.le_of_ble_eq_true rfl) ?_
  intro p e s m below meth c hC hSt _
  refine aw_iload_n hC 2 dX11_feed_0 rfl rfl ?_
  refine aw_iconst (v := 1) hC dX11_feed_1 (by decide) ?_
  refine aw_bipush (v := 8) hC dX11_feed_2 (by decide) ?_
  refine aw_cS3r hC hSt (t_X11_within G l  _ _ _) w_706 w_712 w_713 w_517 rfl rfl (by decide +kernel) ⟨Nat.le_of_ble_eq_true rfl, Nat.le_of_ble_eq_true rfl⟩ (Nat.le_of_ble_eq_true rfl) dX11_feed_4 ⟨Nat.zero_le _, Nat.zero_le _⟩ ?_
  refine aw_if_ne hC 14 dX11_feed_7 (by decide) (fun c1 => ?_) (fun c1 => ?_)
  · refine aw_aload_n hC 0 dX11_feed_14 rfl rfl ?_
    refine aw_getP (b := 13) hC hSt 1 (cs_lt 0 11 0 (by decide) hM) (cs_k 0 11 0 (by decide) hM) rfl (by decide) w_675 rfl (cs_p 0 1 13 (by decide) hM) dX11_feed_15 ?_
    refine aw_lload_n hC 1 dX11_feed_18 rfl rfl ?_
    refine aw_iload_n hC 2 dX11_feed_19 rfl rfl ?_
    refine aw_cV2r hC hSt (t_X4_append G l hM _ _ (h0 c1)) w_327 w_743 w_744 w_745 w_351 rfl rfl (by decide +kernel) ⟨Nat.le_of_ble_eq_true rfl, Nat.le_of_ble_eq_true rfl⟩ (cs_lt 13 4 0 (by decide) hM) (cs_k 13 4 0 (by decide) hM) rfl (Nat.le_of_ble_eq_true rfl) dX11_feed_20 ⟨Nat.zero_le _, Nat.zero_le _⟩ ?_
    generalize er2 : f_X4_append S 13 a1 a2 = r2
    have hM : CS r2.2 := CS.of (by rw [← er2]; exact q_X4_append _ _ _ _) hM
    refine aw_cut (S' := r2.2) (pc' := 40) (lv' := [(0, .ref 0), (1, .long a1), (3, .int a2)]) (st' := [.long (if r2.1 = 0 then (-9000000000000000003 : Int64) else (f_X4_bytes r2.2 13).toInt64)]) ?_ (fun Jc3 => ?_)
    · generalize ex4 : (if r2.1 = 0 then (-9000000000000000003 : Int64) else (f_X4_bytes r2.2 13).toInt64) = x4
      refine aw_lret hC dX11_feed_40 (Nat.le_refl _) (Nat.le_refl _) ?_
      exact FP.qJ ((if_neg c1).trans ((bd_eq er2).trans ((bd_eq ex4).trans (rfl))))
    · refine aw_if_eq hC 37 dX11_feed_23 (by decide) (fun c3 => ?_) (fun c3 => ?_)
      · refine aw_ldc2 (v := -9000000000000000003) hC w_742 dX11_feed_37 ?_
        simp only [bd_def, if_pos c3] at Jc3 ⊢
        exact Jc3
      · refine aw_aload_n hC 0 dX11_feed_26 rfl rfl ?_
        refine aw_getP (b := 13) hC hSt 1 (cs_lt 0 11 0 (by decide) hM) (cs_k 0 11 0 (by decide) hM) rfl (by decide) w_675 rfl (cs_p 0 1 13 (by decide) hM) dX11_feed_27 ?_
        refine aw_cV0r hC hSt (t_X4_bytes G l hM ) w_329 w_746 w_747 w_748 w_351 rfl rfl (by decide +kernel) ⟨Nat.le_of_ble_eq_true rfl, Nat.le_of_ble_eq_true rfl⟩ (cs_lt 13 4 0 (by decide) hM) (cs_k 13 4 0 (by decide) hM) rfl (Nat.le_of_ble_eq_true rfl) dX11_feed_30 ⟨Nat.zero_le _, Nat.zero_le _⟩ ?_
        refine aw_i2l hC dX11_feed_33 ?_
        refine aw_goto hC 40 dX11_feed_34 (by decide) ?_
        simp only [bd_def, if_neg c3] at Jc3 ⊢
        exact Jc3
  · refine aw_ldc2 (v := -9000000000000000001) hC w_710 dX11_feed_10 ?_
    refine aw_lret hC dX11_feed_13 (Nat.le_refl _) (Nat.le_refl _) ?_
    exact FP.qJ ((if_pos c1).trans (rfl))
theorem q_X11_feed (S : HSt) (_o0 : Nat) (a1 : Int64) (a2 : Int32) : shp ((f_X11_feed S _o0 a1 a2).2) = shp S := by
  unfold f_X11_feed
  repeat' (first | with_reducible refine shpr1 ?_ | with_reducible rfl | with_reducible refine (q_X4_append _ _ _ _).trans ?_ | with_reducible refine (shp_sI _ _ _ _).trans ?_ | with_reducible refine (shp_sJ _ _ _ _).trans ?_ | with_reducible refine (shp_rI _ _ _).trans ?_ | with_reducible refine shi ?_ ?_ | with_reducible refine shb (fun _ _ => ?_) | with_reducible refine shiP (fun q : Int64 × HSt => q.2) ?_ ?_ | with_reducible refine shbP (fun q : Int64 × HSt => q.2) (fun _ _ => ?_) | (subst_vars; with_reducible rfl) | (subst_vars; with_reducible refine (q_X4_append _ _ _ _).trans ?_) | (subst_vars; with_reducible refine (shp_sI _ _ _ _).trans ?_) | (subst_vars; with_reducible refine (shp_sJ _ _ _ _).trans ?_) | (subst_vars; with_reducible refine (shp_rI _ _ _).trans ?_) | (subst_vars; with_reducible refine shi ?_ ?_) | (subst_vars; with_reducible refine shb (fun _ _ => ?_)))
noncomputable def f_X11_way (S : HSt) (_o0 : Nat) : Int64 × HSt := bd (f_X4_read S 13) fun r1 => if r1.1 = 0 then (pr (((-9000000000000000100 : Int64) - (f_X4_faultPlace r1.2 13).toInt64)) (r1.2)) else (bd (f_X7_begin r1.2 18 (f_X4_draft r1.2 13)) fun r3 => pr ((f_X10_howMany r3 19 (5 : Int32)).toInt64) (r3))
def p_X11_way (S : HSt) (_o0 : Nat) : Prop := (p_X4_read S 13) ∧ (∀ r1, f_X4_read S 13 = r1 → (¬ r1.1 = 0) → p_X7_begin r1.2 18 (f_X4_draft r1.2 13)) ∧ (∀ r1, f_X4_read S 13 = r1 → (¬ r1.1 = 0) → ∀ r3, f_X7_begin r1.2 18 (f_X4_draft r1.2 13) = r3 → p_X10_howMany r3 19 (5 : Int32))
set_option maxRecDepth 100000 in
theorem t_X11_way (G : GG) (l : Launch) {S : HSt} (hM : CS S)   (hp : p_X11_way S 0) : AM G l yX11_way cX11_way 1 (some .long) (rmD 8 0 0) 0 0 [.ref 0] S (FP (some (.long (f_X11_way S 0).1)) ((f_X11_way S 0).2)) := by
  obtain ⟨h0, h1, h2⟩ := hp
  refine AM.mk (by decide) (Nat.le_of_ble_eq_true rfl) ?_
  intro p e s m below meth c hC hSt _
  refine aw_aload_n hC 0 dX11_way_0 rfl rfl ?_
  refine aw_getP (b := 13) hC hSt 1 (cs_lt 0 11 0 (by decide) hM) (cs_k 0 11 0 (by decide) hM) rfl (by decide) w_675 rfl (cs_p 0 1 13 (by decide) hM) dX11_way_1 ?_
  refine aw_cV0r hC hSt (t_X4_read G l hM  (h0)) w_461 w_751 w_752 w_753 w_351 rfl rfl (by decide +kernel) ⟨Nat.le_of_ble_eq_true rfl, Nat.le_of_ble_eq_true rfl⟩ (cs_lt 13 4 0 (by decide) hM) (cs_k 13 4 0 (by decide) hM) rfl (Nat.le_of_ble_eq_true rfl) dX11_way_4 ⟨Nat.zero_le _, Nat.zero_le _⟩ ?_
  generalize er1 : f_X4_read S 13 = r1
  have hM : CS r1.2 := CS.of (by rw [← er1]; exact q_X4_read _ _) hM
  refine aw_if_ne hC 23 dX11_way_7 (by decide) (fun c2 => ?_) (fun c2 => ?_)
  · refine aw_aload_n hC 0 dX11_way_23 rfl rfl ?_
    refine aw_getP (b := 18) hC hSt 2 (cs_lt 0 11 0 (by decide) hM) (cs_k 0 11 0 (by decide) hM) rfl (by decide) w_678 rfl (cs_p 0 2 18 (by decide) hM) dX11_way_24 ?_
    refine aw_aload_n hC 0 dX11_way_27 rfl rfl ?_
    refine aw_getP (b := 13) hC hSt 1 (cs_lt 0 11 0 (by decide) hM) (cs_k 0 11 0 (by decide) hM) rfl (by decide) w_675 rfl (cs_p 0 1 13 (by decide) hM) dX11_way_28 ?_
    refine aw_cV0r hC hSt (t_X4_draft G l hM ) w_334 w_757 w_758 w_759 w_351 rfl rfl (by decide +kernel) ⟨Nat.le_of_ble_eq_true rfl, Nat.le_of_ble_eq_true rfl⟩ (cs_lt 13 4 0 (by decide) hM) (cs_k 13 4 0 (by decide) hM) rfl (Nat.le_of_ble_eq_true rfl) dX11_way_31 ⟨Nat.zero_le _, Nat.zero_le _⟩ ?_
    refine aw_cV1v hC hSt (t_X7_begin G l hM _ _ (by decide) (show (15, 10, 0) ∈ cKT by decide) (h1 r1 er1 c2)) w_597 w_760 w_761 w_762 w_114 rfl rfl (by decide +kernel) ⟨Nat.le_of_ble_eq_true rfl, Nat.le_of_ble_eq_true rfl⟩ (cs_lt 18 7 0 (by decide) hM) (cs_k 18 7 0 (by decide) hM) rfl (Nat.le_of_ble_eq_true rfl) dX11_way_34 ⟨Nat.zero_le _, Nat.zero_le _⟩ ?_
    generalize er3 : f_X7_begin r1.2 18 (f_X4_draft r1.2 13) = r3
    have hM : CS r3 := CS.of (by rw [← er3]; exact q_X7_begin _ _ _) hM
    refine aw_aload_n hC 0 dX11_way_37 rfl rfl ?_
    refine aw_getP (b := 18) hC hSt 2 (cs_lt 0 11 0 (by decide) hM) (cs_k 0 11 0 (by decide) hM) rfl (by decide) w_678 rfl (cs_p 0 2 18 (by decide) hM) dX11_way_38 ?_
    refine aw_getP (b := 19) hC hSt 0 (cs_lt 18 7 0 (by decide) hM) (cs_k 18 7 0 (by decide) hM) rfl (by decide) w_750 rfl (cs_p 18 0 19 (by decide) hM) dX11_way_41 ?_
    refine aw_iconst (v := 5) hC dX11_way_44 (by decide) ?_
    refine aw_cV1r hC hSt (t_X10_howMany G l hM _ _ (by decide) (h2 r1 er1 c2 r3 er3)) w_152 w_763 w_237 w_238 w_18 rfl rfl (by decide +kernel) ⟨Nat.le_of_ble_eq_true rfl, Nat.le_of_ble_eq_true rfl⟩ (cs_lt 19 10 0 (by decide) hM) (cs_k 19 10 0 (by decide) hM) rfl (Nat.le_of_ble_eq_true rfl) dX11_way_45 ⟨Nat.zero_le _, Nat.zero_le _⟩ ?_
    refine aw_i2l hC dX11_way_48 ?_
    refine aw_lret hC dX11_way_49 (Nat.le_refl _) (Nat.le_refl _) ?_
    exact FP.qJ ((bd_eq er1).trans ((if_neg c2).trans ((bd_eq er3).trans (rfl))))
  · refine aw_ldc2 (v := -9000000000000000100) hC w_749 dX11_way_10 ?_
    refine aw_aload_n hC 0 dX11_way_13 rfl rfl ?_
    refine aw_getP (b := 13) hC hSt 1 (cs_lt 0 11 0 (by decide) hM) (cs_k 0 11 0 (by decide) hM) rfl (by decide) w_675 rfl (cs_p 0 1 13 (by decide) hM) dX11_way_14 ?_
    refine aw_cV0r hC hSt (t_X4_faultPlace G l hM ) w_332 w_754 w_755 w_756 w_351 rfl rfl (by decide +kernel) ⟨Nat.le_of_ble_eq_true rfl, Nat.le_of_ble_eq_true rfl⟩ (cs_lt 13 4 0 (by decide) hM) (cs_k 13 4 0 (by decide) hM) rfl (Nat.le_of_ble_eq_true rfl) dX11_way_17 ⟨Nat.zero_le _, Nat.zero_le _⟩ ?_
    refine aw_i2l hC dX11_way_20 ?_
    refine aw_lsub hC dX11_way_21 ?_
    refine aw_lret hC dX11_way_22 (Nat.le_refl _) (Nat.le_refl _) ?_
    exact FP.qJ ((bd_eq er1).trans ((if_pos c2).trans (rfl)))
theorem q_X11_way (S : HSt) (_o0 : Nat) : shp ((f_X11_way S _o0).2) = shp S := by
  unfold f_X11_way
  repeat' (first | with_reducible refine shpr1 ?_ | with_reducible rfl | with_reducible refine (q_X4_read _ _).trans ?_ | with_reducible refine (q_X7_begin _ _ _).trans ?_ | with_reducible refine (shp_sI _ _ _ _).trans ?_ | with_reducible refine (shp_sJ _ _ _ _).trans ?_ | with_reducible refine (shp_rI _ _ _).trans ?_ | with_reducible refine shi ?_ ?_ | with_reducible refine shb (fun _ _ => ?_) | with_reducible refine shiP (fun q : Int64 × HSt => q.2) ?_ ?_ | with_reducible refine shbP (fun q : Int64 × HSt => q.2) (fun _ _ => ?_) | (subst_vars; with_reducible rfl) | (subst_vars; with_reducible refine (q_X4_read _ _).trans ?_) | (subst_vars; with_reducible refine (q_X7_begin _ _ _).trans ?_) | (subst_vars; with_reducible refine (shp_sI _ _ _ _).trans ?_) | (subst_vars; with_reducible refine (shp_sJ _ _ _ _).trans ?_) | (subst_vars; with_reducible refine (shp_rI _ _ _).trans ?_) | (subst_vars; with_reducible refine shi ?_ ?_) | (subst_vars; with_reducible refine shb (fun _ _ => ?_)))
noncomputable def F_X11_fault (S : HSt) (_o0 : Nat) : Int32 × HSt := pr ((f_X4_latestFault S 13)) (S)
noncomputable def f_X11_fault (S : HSt) (_o0 : Nat) : Int32 := (F_X11_fault S _o0).1
set_option maxRecDepth 100000 in
theorem t_X11_fault (G : GG) (l : Launch) {S : HSt} (hM : CS S)    : AM G l yX11_fault cX11_fault 1 (some .int) (rmD 1 0 0) 0 0 [.ref 0] S (FP (some (.int (f_X11_fault S 0))) (S)) := by
  refine AM.mk (by decide) (Nat.le_of_ble_eq_true rfl) ?_
  intro p e s m below meth c hC hSt _
  refine aw_aload_n hC 0 dX11_fault_0 rfl rfl ?_
  refine aw_getP (b := 13) hC hSt 1 (cs_lt 0 11 0 (by decide) hM) (cs_k 0 11 0 (by decide) hM) rfl (by decide) w_675 rfl (cs_p 0 1 13 (by decide) hM) dX11_fault_1 ?_
  refine aw_cV0r hC hSt (t_X4_latestFault G l hM ) w_330 w_766 w_767 w_768 w_351 rfl rfl (by decide +kernel) ⟨Nat.le_of_ble_eq_true rfl, Nat.le_of_ble_eq_true rfl⟩ (cs_lt 13 4 0 (by decide) hM) (cs_k 13 4 0 (by decide) hM) rfl (Nat.le_of_ble_eq_true rfl) dX11_fault_4 ⟨Nat.zero_le _, Nat.zero_le _⟩ ?_
  refine aw_iret hC dX11_fault_7 (Nat.le_refl _) (Nat.le_refl _) ?_
  exact FP.pI (rfl)
noncomputable def F_X11_act (S : HSt) (_o0 : Nat) (a1 : Int32) (a2 : Int32) : Int64 × HSt := if (f_X11_hasAct S 0 a1) = 0 then (pr ((-9000000000000000001 : Int64)) (S)) else (if (f_X11_within S a2 (0 : Int32) (3 : Int32)) = 0 then (pr ((-9000000000000000001 : Int64)) (S)) else (if (f_X10_isA S 19 a1 (1 : Int32)) = 0 then (if (f_X10_isA S 19 a1 (4 : Int32)) = 0 then (pr ((-1000000 : Int64)) (S)) else (if a2 = 0 then (pr ((f_X10_value S 19 (5 : Int32) a1 ((1 : Int32) + a2)).toInt64) (S)) else (pr ((-1000000 : Int64)) (S)))) else (pr ((f_X10_value S 19 (5 : Int32) a1 ((1 : Int32) + a2)).toInt64) (S))))
noncomputable def f_X11_act (S : HSt) (_o0 : Nat) (a1 : Int32) (a2 : Int32) : Int64 := (F_X11_act S _o0 a1 a2).1
def p_X11_act (S : HSt) (_o0 : Nat) (a1 : Int32) (a2 : Int32) : Prop := (p_X11_hasAct S 0 a1) ∧ ((¬ (f_X11_hasAct S 0 a1) = 0) → (¬ (f_X11_within S a2 (0 : Int32) (3 : Int32)) = 0) → p_X10_isA S 19 a1 (1 : Int32)) ∧ ((¬ (f_X11_hasAct S 0 a1) = 0) → (¬ (f_X11_within S a2 (0 : Int32) (3 : Int32)) = 0) → (¬ (f_X10_isA S 19 a1 (1 : Int32)) = 0) → p_X10_value S 19 (5 : Int32) a1 ((1 : Int32) + a2)) ∧ ((¬ (f_X11_hasAct S 0 a1) = 0) → (¬ (f_X11_within S a2 (0 : Int32) (3 : Int32)) = 0) → ((f_X10_isA S 19 a1 (1 : Int32)) = 0) → p_X10_isA S 19 a1 (4 : Int32)) ∧ ((¬ (f_X11_hasAct S 0 a1) = 0) → (¬ (f_X11_within S a2 (0 : Int32) (3 : Int32)) = 0) → ((f_X10_isA S 19 a1 (1 : Int32)) = 0) → (¬ (f_X10_isA S 19 a1 (4 : Int32)) = 0) → (a2 = 0) → p_X10_value S 19 (5 : Int32) a1 ((1 : Int32) + a2))
set_option maxRecDepth 100000 in
theorem t_X11_act (G : GG) (l : Launch) {S : HSt} (hM : CS S) (a1 : Int32) (a2 : Int32)  (hp : p_X11_act S 0 a1 a2) : AM G l yX11_act cX11_act 3 (some .long) (rmD 3 0 0) 0 0 [.ref 0, .int a1, .int a2] S (FP (some (.long (f_X11_act S 0 a1 a2))) (S)) := by
  obtain ⟨h0, h1, h2, h3, h4⟩ := hp
  refine AM.mk (by decide) (Nat.le_of_ble_eq_true rfl) ?_
  intro p e s m below meth c hC hSt _
  refine aw_aload_n hC 0 dX11_act_0 rfl rfl ?_
  refine aw_iload_n hC 1 dX11_act_1 rfl rfl ?_
  refine aw_cV1r hC hSt (t_X11_hasAct G l hM _ (h0)) w_769 w_774 w_775 w_776 w_517 rfl rfl (by decide +kernel) ⟨Nat.le_of_ble_eq_true rfl, Nat.le_of_ble_eq_true rfl⟩ (cs_lt 0 11 0 (by decide) hM) (cs_k 0 11 0 (by decide) hM) rfl (Nat.le_of_ble_eq_true rfl) dX11_act_2 ⟨Nat.zero_le _, Nat.zero_le _⟩ ?_
  refine aw_if_eq hC 17 dX11_act_5 (by decide) (fun c1 => ?_) (fun c1 => ?_)
  · refine aw_ldc2 (v := -9000000000000000001) hC w_710 dX11_act_17 ?_
    refine aw_lret hC dX11_act_20 (Nat.le_refl _) (Nat.le_refl _) ?_
    exact FP.pJ ((if_pos c1).trans (rfl))
  · refine aw_iload_n hC 2 dX11_act_8 rfl rfl ?_
    refine aw_iconst (v := 0) hC dX11_act_9 (by decide) ?_
    refine aw_iconst (v := 3) hC dX11_act_10 (by decide) ?_
    refine aw_cS3r hC hSt (t_X11_within G l  _ _ _) w_706 w_712 w_713 w_517 rfl rfl (by decide +kernel) ⟨Nat.le_of_ble_eq_true rfl, Nat.le_of_ble_eq_true rfl⟩ (Nat.le_of_ble_eq_true rfl) dX11_act_11 ⟨Nat.zero_le _, Nat.zero_le _⟩ ?_
    refine aw_if_ne hC 21 dX11_act_14 (by decide) (fun c2 => ?_) (fun c2 => ?_)
    · refine aw_aload_n hC 0 dX11_act_21 rfl rfl ?_
      refine aw_getP (b := 18) hC hSt 2 (cs_lt 0 11 0 (by decide) hM) (cs_k 0 11 0 (by decide) hM) rfl (by decide) w_678 rfl (cs_p 0 2 18 (by decide) hM) dX11_act_22 ?_
      refine aw_getP (b := 19) hC hSt 0 (cs_lt 18 7 0 (by decide) hM) (cs_k 18 7 0 (by decide) hM) rfl (by decide) w_750 rfl (cs_p 18 0 19 (by decide) hM) dX11_act_25 ?_
      refine aw_iload_n hC 1 dX11_act_28 rfl rfl ?_
      refine aw_iconst (v := 1) hC dX11_act_29 (by decide) ?_
      refine aw_cV2r hC hSt (t_X10_isA G l hM _ _ _ (by decide) (h1 c1 c2)) w_496 w_777 w_547 w_548 w_18 rfl rfl (by decide +kernel) ⟨Nat.le_of_ble_eq_true rfl, Nat.le_of_ble_eq_true rfl⟩ (cs_lt 19 10 0 (by decide) hM) (cs_k 19 10 0 (by decide) hM) rfl (Nat.le_of_ble_eq_true rfl) dX11_act_30 ⟨Nat.zero_le _, Nat.zero_le _⟩ ?_
      refine aw_if_ne hC 55 dX11_act_33 (by decide) (fun c3 => ?_) (fun c3 => ?_)
      · refine aw_aload_n hC 0 dX11_act_55 rfl rfl ?_
        refine aw_getP (b := 18) hC hSt 2 (cs_lt 0 11 0 (by decide) hM) (cs_k 0 11 0 (by decide) hM) rfl (by decide) w_678 rfl (cs_p 0 2 18 (by decide) hM) dX11_act_56 ?_
        refine aw_getP (b := 19) hC hSt 0 (cs_lt 18 7 0 (by decide) hM) (cs_k 18 7 0 (by decide) hM) rfl (by decide) w_750 rfl (cs_p 18 0 19 (by decide) hM) dX11_act_59 ?_
        refine aw_iconst (v := 5) hC dX11_act_62 (by decide) ?_
        refine aw_iload_n hC 1 dX11_act_63 rfl rfl ?_
        refine aw_iconst (v := 1) hC dX11_act_64 (by decide) ?_
        refine aw_iload_n hC 2 dX11_act_65 rfl rfl ?_
        refine aw_iadd hC dX11_act_66 ?_
        refine aw_cV3r hC hSt (t_X10_value G l hM _ _ _ _ (by decide) (h2 c1 c2 c3)) w_10 w_778 w_16 w_17 w_18 rfl rfl (by decide +kernel) ⟨Nat.le_of_ble_eq_true rfl, Nat.le_of_ble_eq_true rfl⟩ (cs_lt 19 10 0 (by decide) hM) (cs_k 19 10 0 (by decide) hM) rfl (Nat.le_of_ble_eq_true rfl) dX11_act_67 ⟨Nat.zero_le _, Nat.zero_le _⟩ ?_
        refine aw_i2l hC dX11_act_70 ?_
        refine aw_lret hC dX11_act_71 (Nat.le_refl _) (Nat.le_refl _) ?_
        exact FP.pJ ((if_neg c1).trans ((if_neg c2).trans ((if_neg c3).trans (rfl))))
      · refine aw_aload_n hC 0 dX11_act_36 rfl rfl ?_
        refine aw_getP (b := 18) hC hSt 2 (cs_lt 0 11 0 (by decide) hM) (cs_k 0 11 0 (by decide) hM) rfl (by decide) w_678 rfl (cs_p 0 2 18 (by decide) hM) dX11_act_37 ?_
        refine aw_getP (b := 19) hC hSt 0 (cs_lt 18 7 0 (by decide) hM) (cs_k 18 7 0 (by decide) hM) rfl (by decide) w_750 rfl (cs_p 18 0 19 (by decide) hM) dX11_act_40 ?_
        refine aw_iload_n hC 1 dX11_act_43 rfl rfl ?_
        refine aw_iconst (v := 4) hC dX11_act_44 (by decide) ?_
        refine aw_cV2r hC hSt (t_X10_isA G l hM _ _ _ (by decide) (h3 c1 c2 c3)) w_496 w_777 w_547 w_548 w_18 rfl rfl (by decide +kernel) ⟨Nat.le_of_ble_eq_true rfl, Nat.le_of_ble_eq_true rfl⟩ (cs_lt 19 10 0 (by decide) hM) (cs_k 19 10 0 (by decide) hM) rfl (Nat.le_of_ble_eq_true rfl) dX11_act_45 ⟨Nat.zero_le _, Nat.zero_le _⟩ ?_
        refine aw_if_eq hC 72 dX11_act_48 (by decide) (fun c4 => ?_) (fun c4 => ?_)
        · refine aw_ldc2 (v := -1000000) hC w_773 dX11_act_72 ?_
          refine aw_lret hC dX11_act_75 (Nat.le_refl _) (Nat.le_refl _) ?_
          exact FP.pJ ((if_neg c1).trans ((if_neg c2).trans ((if_pos c3).trans ((if_pos c4).trans (rfl)))))
        · refine aw_iload_n hC 2 dX11_act_51 rfl rfl ?_
          refine aw_if_ne hC 72 dX11_act_52 (by decide) (fun c5 => ?_) (fun c5 => ?_)
          · refine aw_ldc2 (v := -1000000) hC w_773 dX11_act_72 ?_
            refine aw_lret hC dX11_act_75 (Nat.le_refl _) (Nat.le_refl _) ?_
            exact FP.pJ ((if_neg c1).trans ((if_neg c2).trans ((if_pos c3).trans ((if_neg c4).trans ((if_neg c5).trans (rfl))))))
          · refine aw_aload_n hC 0 dX11_act_55 rfl rfl ?_
            refine aw_getP (b := 18) hC hSt 2 (cs_lt 0 11 0 (by decide) hM) (cs_k 0 11 0 (by decide) hM) rfl (by decide) w_678 rfl (cs_p 0 2 18 (by decide) hM) dX11_act_56 ?_
            refine aw_getP (b := 19) hC hSt 0 (cs_lt 18 7 0 (by decide) hM) (cs_k 18 7 0 (by decide) hM) rfl (by decide) w_750 rfl (cs_p 18 0 19 (by decide) hM) dX11_act_59 ?_
            refine aw_iconst (v := 5) hC dX11_act_62 (by decide) ?_
            refine aw_iload_n hC 1 dX11_act_63 rfl rfl ?_
            refine aw_iconst (v := 1) hC dX11_act_64 (by decide) ?_
            refine aw_iload_n hC 2 dX11_act_65 rfl rfl ?_
            refine aw_iadd hC dX11_act_66 ?_
            refine aw_cV3r hC hSt (t_X10_value G l hM _ _ _ _ (by decide) (h4 c1 c2 c3 c4 c5)) w_10 w_778 w_16 w_17 w_18 rfl rfl (by decide +kernel) ⟨Nat.le_of_ble_eq_true rfl, Nat.le_of_ble_eq_true rfl⟩ (cs_lt 19 10 0 (by decide) hM) (cs_k 19 10 0 (by decide) hM) rfl (Nat.le_of_ble_eq_true rfl) dX11_act_67 ⟨Nat.zero_le _, Nat.zero_le _⟩ ?_
            refine aw_i2l hC dX11_act_70 ?_
            refine aw_lret hC dX11_act_71 (Nat.le_refl _) (Nat.le_refl _) ?_
            exact FP.pJ ((if_neg c1).trans ((if_neg c2).trans ((if_pos c3).trans ((if_neg c4).trans ((if_pos c5).trans (rfl))))))
    · refine aw_ldc2 (v := -9000000000000000001) hC w_710 dX11_act_17 ?_
      refine aw_lret hC dX11_act_20 (Nat.le_refl _) (Nat.le_refl _) ?_
      exact FP.pJ ((if_neg c1).trans ((if_pos c2).trans (rfl)))
noncomputable def f_X11_take (S : HSt) (_o0 : Nat) (a1 : Int32) (a2 : Int32) : Int64 × HSt := if (f_X10_has S 19 (0 : Int32) a1) = 0 then (pr ((-9000000000000000001 : Int64)) (S)) else (if a2 = (-1000000 : Int32) then (bd (f_X7_takeUp S 18 a1 a2) fun r3 => pr ((1 : Int64)) (r3)) else (if (f_X10_has S 19 (1 : Int32) a2) = 0 then (pr ((-9000000000000000001 : Int64)) (S)) else (bd (f_X7_takeUp S 18 a1 a2) fun r5 => pr ((1 : Int64)) (r5))))
def p_X11_take (S : HSt) (_o0 : Nat) (a1 : Int32) (a2 : Int32) : Prop := (p_X10_has S 19 (0 : Int32) a1) ∧ ((¬ (f_X10_has S 19 (0 : Int32) a1) = 0) → (a2 = (-1000000 : Int32)) → p_X7_takeUp S 18 a1 a2) ∧ ((¬ (f_X10_has S 19 (0 : Int32) a1) = 0) → (¬ a2 = (-1000000 : Int32)) → p_X10_has S 19 (1 : Int32) a2) ∧ ((¬ (f_X10_has S 19 (0 : Int32) a1) = 0) → (¬ a2 = (-1000000 : Int32)) → (¬ (f_X10_has S 19 (1 : Int32) a2) = 0) → p_X7_takeUp S 18 a1 a2)
set_option maxRecDepth 100000 in
theorem t_X11_take (G : GG) (l : Launch) {S : HSt} (hM : CS S) (a1 : Int32) (a2 : Int32)  (hp : p_X11_take S 0 a1 a2) : AM G l yX11_take cX11_take 3 (some .long) (rmD 3 0 0) 0 0 [.ref 0, .int a1, .int a2] S (FP (some (.long (f_X11_take S 0 a1 a2).1)) ((f_X11_take S 0 a1 a2).2)) := by
  obtain ⟨h0, h1, h2, h3⟩ := hp
  refine AM.mk (by decide) (Nat.le_of_ble_eq_true rfl) ?_
  intro p e s m below meth c hC hSt _
  refine aw_aload_n hC 0 dX11_take_0 rfl rfl ?_
  refine aw_getP (b := 18) hC hSt 2 (cs_lt 0 11 0 (by decide) hM) (cs_k 0 11 0 (by decide) hM) rfl (by decide) w_678 rfl (cs_p 0 2 18 (by decide) hM) dX11_take_1 ?_
  refine aw_getP (b := 19) hC hSt 0 (cs_lt 18 7 0 (by decide) hM) (cs_k 18 7 0 (by decide) hM) rfl (by decide) w_750 rfl (cs_p 18 0 19 (by decide) hM) dX11_take_4 ?_
  refine aw_iconst (v := 0) hC dX11_take_7 (by decide) ?_
  refine aw_iload_n hC 1 dX11_take_8 rfl rfl ?_
  refine aw_cV2r hC hSt (t_X10_has G l hM _ _ _ (by decide) (h0)) w_665 w_770 w_771 w_772 w_18 rfl rfl (by decide +kernel) ⟨Nat.le_of_ble_eq_true rfl, Nat.le_of_ble_eq_true rfl⟩ (cs_lt 19 10 0 (by decide) hM) (cs_k 19 10 0 (by decide) hM) rfl (Nat.le_of_ble_eq_true rfl) dX11_take_9 ⟨Nat.zero_le _, Nat.zero_le _⟩ ?_
  refine aw_if_eq hC 36 dX11_take_12 (by decide) (fun c1 => ?_) (fun c1 => ?_)
  · refine aw_ldc2 (v := -9000000000000000001) hC w_710 dX11_take_36 ?_
    refine aw_lret hC dX11_take_39 (Nat.le_refl _) (Nat.le_refl _) ?_
    exact FP.qJ ((if_pos c1).trans (rfl))
  · refine aw_iload_n hC 2 dX11_take_15 rfl rfl ?_
    refine aw_ldc (v := -1000000) hC w_780 dX11_take_16 ?_
    refine aw_icmp_eq hC 40 dX11_take_18 (by decide) (fun c2 => ?_) (fun c2 => ?_)
    · refine aw_aload_n hC 0 dX11_take_40 rfl rfl ?_
      refine aw_getP (b := 18) hC hSt 2 (cs_lt 0 11 0 (by decide) hM) (cs_k 0 11 0 (by decide) hM) rfl (by decide) w_678 rfl (cs_p 0 2 18 (by decide) hM) dX11_take_41 ?_
      refine aw_iload_n hC 1 dX11_take_44 rfl rfl ?_
      refine aw_iload_n hC 2 dX11_take_45 rfl rfl ?_
      refine aw_cV2v hC hSt (t_X7_takeUp G l hM _ _ _ (by decide) (h1 c1 c2)) w_589 w_781 w_595 w_596 w_114 rfl rfl (by decide +kernel) ⟨Nat.le_of_ble_eq_true rfl, Nat.le_of_ble_eq_true rfl⟩ (cs_lt 18 7 0 (by decide) hM) (cs_k 18 7 0 (by decide) hM) rfl (Nat.le_of_ble_eq_true rfl) dX11_take_46 ⟨Nat.zero_le _, Nat.zero_le _⟩ ?_
      generalize er3 : f_X7_takeUp S 18 a1 a2 = r3
      have hM : CS r3 := CS.of (by rw [← er3]; exact q_X7_takeUp _ _ _ _) hM
      refine aw_lconst (v := 1) hC dX11_take_49 (by decide) ?_
      refine aw_lret hC dX11_take_50 (Nat.le_refl _) (Nat.le_refl _) ?_
      exact FP.qJ ((if_neg c1).trans ((if_pos c2).trans ((bd_eq er3).trans (rfl))))
    · refine aw_aload_n hC 0 dX11_take_21 rfl rfl ?_
      refine aw_getP (b := 18) hC hSt 2 (cs_lt 0 11 0 (by decide) hM) (cs_k 0 11 0 (by decide) hM) rfl (by decide) w_678 rfl (cs_p 0 2 18 (by decide) hM) dX11_take_22 ?_
      refine aw_getP (b := 19) hC hSt 0 (cs_lt 18 7 0 (by decide) hM) (cs_k 18 7 0 (by decide) hM) rfl (by decide) w_750 rfl (cs_p 18 0 19 (by decide) hM) dX11_take_25 ?_
      refine aw_iconst (v := 1) hC dX11_take_28 (by decide) ?_
      refine aw_iload_n hC 2 dX11_take_29 rfl rfl ?_
      refine aw_cV2r hC hSt (t_X10_has G l hM _ _ _ (by decide) (h2 c1 c2)) w_665 w_770 w_771 w_772 w_18 rfl rfl (by decide +kernel) ⟨Nat.le_of_ble_eq_true rfl, Nat.le_of_ble_eq_true rfl⟩ (cs_lt 19 10 0 (by decide) hM) (cs_k 19 10 0 (by decide) hM) rfl (Nat.le_of_ble_eq_true rfl) dX11_take_30 ⟨Nat.zero_le _, Nat.zero_le _⟩ ?_
      refine aw_if_ne hC 40 dX11_take_33 (by decide) (fun c4 => ?_) (fun c4 => ?_)
      · refine aw_aload_n hC 0 dX11_take_40 rfl rfl ?_
        refine aw_getP (b := 18) hC hSt 2 (cs_lt 0 11 0 (by decide) hM) (cs_k 0 11 0 (by decide) hM) rfl (by decide) w_678 rfl (cs_p 0 2 18 (by decide) hM) dX11_take_41 ?_
        refine aw_iload_n hC 1 dX11_take_44 rfl rfl ?_
        refine aw_iload_n hC 2 dX11_take_45 rfl rfl ?_
        refine aw_cV2v hC hSt (t_X7_takeUp G l hM _ _ _ (by decide) (h3 c1 c2 c4)) w_589 w_781 w_595 w_596 w_114 rfl rfl (by decide +kernel) ⟨Nat.le_of_ble_eq_true rfl, Nat.le_of_ble_eq_true rfl⟩ (cs_lt 18 7 0 (by decide) hM) (cs_k 18 7 0 (by decide) hM) rfl (Nat.le_of_ble_eq_true rfl) dX11_take_46 ⟨Nat.zero_le _, Nat.zero_le _⟩ ?_
        generalize er5 : f_X7_takeUp S 18 a1 a2 = r5
        have hM : CS r5 := CS.of (by rw [← er5]; exact q_X7_takeUp _ _ _ _) hM
        refine aw_lconst (v := 1) hC dX11_take_49 (by decide) ?_
        refine aw_lret hC dX11_take_50 (Nat.le_refl _) (Nat.le_refl _) ?_
        exact FP.qJ ((if_neg c1).trans ((if_neg c2).trans ((if_neg c4).trans ((bd_eq er5).trans (rfl)))))
      · refine aw_ldc2 (v := -9000000000000000001) hC w_710 dX11_take_36 ?_
        refine aw_lret hC dX11_take_39 (Nat.le_refl _) (Nat.le_refl _) ?_
        exact FP.qJ ((if_neg c1).trans ((if_neg c2).trans ((if_pos c4).trans (rfl))))
theorem q_X11_take (S : HSt) (_o0 : Nat) (a1 : Int32) (a2 : Int32) : shp ((f_X11_take S _o0 a1 a2).2) = shp S := by
  unfold f_X11_take
  repeat' (first | with_reducible refine shpr1 ?_ | with_reducible rfl | with_reducible refine (q_X7_takeUp _ _ _ _).trans ?_ | with_reducible refine (shp_sI _ _ _ _).trans ?_ | with_reducible refine (shp_sJ _ _ _ _).trans ?_ | with_reducible refine (shp_rI _ _ _).trans ?_ | with_reducible refine shi ?_ ?_ | with_reducible refine shb (fun _ _ => ?_) | with_reducible refine shiP (fun q : Int64 × HSt => q.2) ?_ ?_ | with_reducible refine shbP (fun q : Int64 × HSt => q.2) (fun _ _ => ?_) | (subst_vars; with_reducible rfl) | (subst_vars; with_reducible refine (q_X7_takeUp _ _ _ _).trans ?_) | (subst_vars; with_reducible refine (shp_sI _ _ _ _).trans ?_) | (subst_vars; with_reducible refine (shp_sJ _ _ _ _).trans ?_) | (subst_vars; with_reducible refine (shp_rI _ _ _).trans ?_) | (subst_vars; with_reducible refine shi ?_ ?_) | (subst_vars; with_reducible refine shb (fun _ _ => ?_)))
noncomputable def f_X11_tick (S : HSt) (_o0 : Nat) (a1 : Int32) (a2 : Int32) (a3 : Int32) (a4 : Int32) : Int64 × HSt := if (f_X11_within S a1 (0 : Int32) (1 : Int32)) = 0 then (pr ((-9000000000000000001 : Int64)) (S)) else (if (f_X11_within S a2 (0 : Int32) (4 : Int32)) = 0 then (pr ((-9000000000000000001 : Int64)) (S)) else (if (f_X11_within S a3 (0 : Int32) (9 : Int32)) = 0 then (pr ((-9000000000000000001 : Int64)) (S)) else (if (f_X11_within S a4 (0 : Int32) (15 : Int32)) = 0 then (pr ((-9000000000000000001 : Int64)) (S)) else (if (gI S 18 2) = 0 then (pr ((-9000000000000000002 : Int64)) (S)) else (if (f_X1_hasFallen S 22) = 0 then (bd ((if a1 = (1 : Int32) then (1 : Int32) else (0 : Int32))) fun x8 => bd (f_X1_advance S 22 18 x8 a2 a3 a4) fun r9 => pr ((gI r9 22 5).toInt64) (r9)) else (pr ((-9000000000000000002 : Int64)) (S)))))))
set_option maxRecDepth 100000 in
theorem t_X11_tick (G : GG) (l : Launch) {S : HSt} (hM : CS S) (a1 : Int32) (a2 : Int32) (a3 : Int32) (a4 : Int32)   : AM G l yX11_tick cX11_tick 5 (some .long) (rmD 3 0 0) 0 0 [.ref 0, .int a1, .int a2, .int a3, .int a4] S (FP (some (.long (f_X11_tick S 0 a1 a2 a3 a4).1)) ((f_X11_tick S 0 a1 a2 a3 a4).2)) := by
  refine AM.mk (by decide) (Nat.le_of_ble_eq_true rfl) ?_
  intro p e s m below meth c hC hSt _
  refine aw_iload_n hC 1 dX11_tick_0 rfl rfl ?_
  refine aw_iconst (v := 0) hC dX11_tick_1 (by decide) ?_
  refine aw_iconst (v := 1) hC dX11_tick_2 (by decide) ?_
  refine aw_cS3r hC hSt (t_X11_within G l  _ _ _) w_706 w_712 w_713 w_517 rfl rfl (by decide +kernel) ⟨Nat.le_of_ble_eq_true rfl, Nat.le_of_ble_eq_true rfl⟩ (Nat.le_of_ble_eq_true rfl) dX11_tick_3 ⟨Nat.zero_le _, Nat.zero_le _⟩ ?_
  refine aw_if_eq hC 39 dX11_tick_6 (by decide) (fun c1 => ?_) (fun c1 => ?_)
  · refine aw_ldc2 (v := -9000000000000000001) hC w_710 dX11_tick_39 ?_
    refine aw_lret hC dX11_tick_42 (Nat.le_refl _) (Nat.le_refl _) ?_
    exact FP.qJ ((if_pos c1).trans (rfl))
  · refine aw_iload_n hC 2 dX11_tick_9 rfl rfl ?_
    refine aw_iconst (v := 0) hC dX11_tick_10 (by decide) ?_
    refine aw_iconst (v := 4) hC dX11_tick_11 (by decide) ?_
    refine aw_cS3r hC hSt (t_X11_within G l  _ _ _) w_706 w_712 w_713 w_517 rfl rfl (by decide +kernel) ⟨Nat.le_of_ble_eq_true rfl, Nat.le_of_ble_eq_true rfl⟩ (Nat.le_of_ble_eq_true rfl) dX11_tick_12 ⟨Nat.zero_le _, Nat.zero_le _⟩ ?_
    refine aw_if_eq hC 39 dX11_tick_15 (by decide) (fun c2 => ?_) (fun c2 => ?_)
    · refine aw_ldc2 (v := -9000000000000000001) hC w_710 dX11_tick_39 ?_
      refine aw_lret hC dX11_tick_42 (Nat.le_refl _) (Nat.le_refl _) ?_
      exact FP.qJ ((if_neg c1).trans ((if_pos c2).trans (rfl)))
    · refine aw_iload_n hC 3 dX11_tick_18 rfl rfl ?_
      refine aw_iconst (v := 0) hC dX11_tick_19 (by decide) ?_
      refine aw_bipush (v := 9) hC dX11_tick_20 (by decide) ?_
      refine aw_cS3r hC hSt (t_X11_within G l  _ _ _) w_706 w_712 w_713 w_517 rfl rfl (by decide +kernel) ⟨Nat.le_of_ble_eq_true rfl, Nat.le_of_ble_eq_true rfl⟩ (Nat.le_of_ble_eq_true rfl) dX11_tick_22 ⟨Nat.zero_le _, Nat.zero_le _⟩ ?_
      refine aw_if_eq hC 39 dX11_tick_25 (by decide) (fun c3 => ?_) (fun c3 => ?_)
      · refine aw_ldc2 (v := -9000000000000000001) hC w_710 dX11_tick_39 ?_
        refine aw_lret hC dX11_tick_42 (Nat.le_refl _) (Nat.le_refl _) ?_
        exact FP.qJ ((if_neg c1).trans ((if_neg c2).trans ((if_pos c3).trans (rfl))))
      · refine aw_iload hC 4 dX11_tick_28 rfl ?_
        refine aw_iconst (v := 0) hC dX11_tick_30 (by decide) ?_
        refine aw_bipush (v := 15) hC dX11_tick_31 (by decide) ?_
        refine aw_cS3r hC hSt (t_X11_within G l  _ _ _) w_706 w_712 w_713 w_517 rfl rfl (by decide +kernel) ⟨Nat.le_of_ble_eq_true rfl, Nat.le_of_ble_eq_true rfl⟩ (Nat.le_of_ble_eq_true rfl) dX11_tick_33 ⟨Nat.zero_le _, Nat.zero_le _⟩ ?_
        refine aw_if_ne hC 43 dX11_tick_36 (by decide) (fun c4 => ?_) (fun c4 => ?_)
        · refine aw_aload_n hC 0 dX11_tick_43 rfl rfl ?_
          refine aw_getP (b := 18) hC hSt 2 (cs_lt 0 11 0 (by decide) hM) (cs_k 0 11 0 (by decide) hM) rfl (by decide) w_678 rfl (cs_p 0 2 18 (by decide) hM) dX11_tick_44 ?_
          refine aw_getI hC hSt 2 (cs_lt 18 7 0 (by decide) hM) (cs_k 18 7 0 (by decide) hM) rfl (by decide) w_783 rfl dX11_tick_47 ?_
          refine aw_if_eq hC 66 dX11_tick_50 (by decide) (fun c5 => ?_) (fun c5 => ?_)
          · refine aw_ldc2 (v := -9000000000000000002) hC w_785 dX11_tick_66 ?_
            refine aw_lret hC dX11_tick_69 (Nat.le_refl _) (Nat.le_refl _) ?_
            exact FP.qJ ((if_neg c1).trans ((if_neg c2).trans ((if_neg c3).trans ((if_neg c4).trans ((if_pos c5).trans (rfl))))))
          · refine aw_aload_n hC 0 dX11_tick_53 rfl rfl ?_
            refine aw_getP (b := 18) hC hSt 2 (cs_lt 0 11 0 (by decide) hM) (cs_k 0 11 0 (by decide) hM) rfl (by decide) w_678 rfl (cs_p 0 2 18 (by decide) hM) dX11_tick_54 ?_
            refine aw_getP (b := 22) hC hSt 1 (cs_lt 18 7 0 (by decide) hM) (cs_k 18 7 0 (by decide) hM) rfl (by decide) w_784 rfl (cs_p 18 1 22 (by decide) hM) dX11_tick_57 ?_
            refine aw_cV0r hC hSt (t_X1_hasFallen G l hM _ (by decide)) w_88 w_787 w_204 w_205 w_84 rfl rfl (by decide +kernel) ⟨Nat.le_of_ble_eq_true rfl, Nat.le_of_ble_eq_true rfl⟩ (cs_lt 22 1 0 (by decide) hM) (cs_k 22 1 0 (by decide) hM) rfl (Nat.le_of_ble_eq_true rfl) dX11_tick_60 ⟨Nat.zero_le _, Nat.zero_le _⟩ ?_
            refine aw_if_eq hC 70 dX11_tick_63 (by decide) (fun c6 => ?_) (fun c6 => ?_)
            · refine aw_aload_n hC 0 dX11_tick_70 rfl rfl ?_
              refine aw_getP (b := 18) hC hSt 2 (cs_lt 0 11 0 (by decide) hM) (cs_k 0 11 0 (by decide) hM) rfl (by decide) w_678 rfl (cs_p 0 2 18 (by decide) hM) dX11_tick_71 ?_
              refine aw_getP (b := 22) hC hSt 1 (cs_lt 18 7 0 (by decide) hM) (cs_k 18 7 0 (by decide) hM) rfl (by decide) w_784 rfl (cs_p 18 1 22 (by decide) hM) dX11_tick_74 ?_
              refine aw_aload_n hC 0 dX11_tick_77 rfl rfl ?_
              refine aw_getP (b := 18) hC hSt 2 (cs_lt 0 11 0 (by decide) hM) (cs_k 0 11 0 (by decide) hM) rfl (by decide) w_678 rfl (cs_p 0 2 18 (by decide) hM) dX11_tick_78 ?_
              refine aw_iload_n hC 1 dX11_tick_81 rfl rfl ?_
              refine aw_iconst (v := 1) hC dX11_tick_82 (by decide) ?_
              refine aw_cut (S' := S) (pc' := 91) (lv' := [(0, .ref 0), (1, .int a1), (2, .int a2), (3, .int a3), (4, .int a4)]) (st' := [.int (if a1 = (1 : Int32) then (1 : Int32) else (0 : Int32)), .ref 18, .ref 22]) ?_ (fun Jc7 => ?_)
              · generalize ex8 : (if a1 = (1 : Int32) then (1 : Int32) else (0 : Int32)) = x8
                refine aw_iload_n hC 2 dX11_tick_91 rfl rfl ?_
                refine aw_iload_n hC 3 dX11_tick_92 rfl rfl ?_
                refine aw_iload hC 4 dX11_tick_93 rfl ?_
                refine aw_cV5v hC hSt (t_X1_advance G l hM _ _ _ _ _ _ (by decide) (by decide)) w_124 w_788 w_229 w_230 w_84 rfl rfl (by decide +kernel) ⟨Nat.le_of_ble_eq_true rfl, Nat.le_of_ble_eq_true rfl⟩ (cs_lt 22 1 0 (by decide) hM) (cs_k 22 1 0 (by decide) hM) rfl (Nat.le_of_ble_eq_true rfl) dX11_tick_95 ⟨Nat.zero_le _, Nat.zero_le _⟩ ?_
                generalize er9 : f_X1_advance S 22 18 x8 a2 a3 a4 = r9
                have hM : CS r9 := CS.of (by rw [← er9]; exact q_X1_advance _ _ _ _ _ _ _) hM
                refine aw_aload_n hC 0 dX11_tick_98 rfl rfl ?_
                refine aw_getP (b := 18) hC hSt 2 (cs_lt 0 11 0 (by decide) hM) (cs_k 0 11 0 (by decide) hM) rfl (by decide) w_678 rfl (cs_p 0 2 18 (by decide) hM) dX11_tick_99 ?_
                refine aw_getP (b := 22) hC hSt 1 (cs_lt 18 7 0 (by decide) hM) (cs_k 18 7 0 (by decide) hM) rfl (by decide) w_784 rfl (cs_p 18 1 22 (by decide) hM) dX11_tick_102 ?_
                refine aw_getI hC hSt 5 (cs_lt 22 1 0 (by decide) hM) (cs_k 22 1 0 (by decide) hM) rfl (by decide) w_786 rfl dX11_tick_105 ?_
                refine aw_i2l hC dX11_tick_108 ?_
                refine aw_lret hC dX11_tick_109 (Nat.le_refl _) (Nat.le_refl _) ?_
                exact FP.qJ ((if_neg c1).trans ((if_neg c2).trans ((if_neg c3).trans ((if_neg c4).trans ((if_neg c5).trans ((if_pos c6).trans ((bd_eq ex8).trans ((bd_eq er9).trans (rfl)))))))))
              · refine aw_icmp_ne hC 90 dX11_tick_83 (by decide) (fun c7 => ?_) (fun c7 => ?_)
                · refine aw_iconst (v := 0) hC dX11_tick_90 (by decide) ?_
                  simp only [bd_def, if_neg c7] at Jc7 ⊢
                  exact Jc7
                · refine aw_iconst (v := 1) hC dX11_tick_86 (by decide) ?_
                  refine aw_goto hC 91 dX11_tick_87 (by decide) ?_
                  simp only [bd_def, if_pos c7] at Jc7 ⊢
                  exact Jc7
            · refine aw_ldc2 (v := -9000000000000000002) hC w_785 dX11_tick_66 ?_
              refine aw_lret hC dX11_tick_69 (Nat.le_refl _) (Nat.le_refl _) ?_
              exact FP.qJ ((if_neg c1).trans ((if_neg c2).trans ((if_neg c3).trans ((if_neg c4).trans ((if_neg c5).trans ((if_neg c6).trans (rfl)))))))
        · refine aw_ldc2 (v := -9000000000000000001) hC w_710 dX11_tick_39 ?_
          refine aw_lret hC dX11_tick_42 (Nat.le_refl _) (Nat.le_refl _) ?_
          exact FP.qJ ((if_neg c1).trans ((if_neg c2).trans ((if_neg c3).trans ((if_pos c4).trans (rfl)))))
theorem q_X11_tick (S : HSt) (_o0 : Nat) (a1 : Int32) (a2 : Int32) (a3 : Int32) (a4 : Int32) : shp ((f_X11_tick S _o0 a1 a2 a3 a4).2) = shp S := by
  unfold f_X11_tick
  repeat' (first | with_reducible refine shpr1 ?_ | with_reducible rfl | with_reducible refine (q_X1_advance _ _ _ _ _ _ _).trans ?_ | with_reducible refine (shp_sI _ _ _ _).trans ?_ | with_reducible refine (shp_sJ _ _ _ _).trans ?_ | with_reducible refine (shp_rI _ _ _).trans ?_ | with_reducible refine shi ?_ ?_ | with_reducible refine shb (fun _ _ => ?_) | with_reducible refine shiP (fun q : Int64 × HSt => q.2) ?_ ?_ | with_reducible refine shbP (fun q : Int64 × HSt => q.2) (fun _ _ => ?_) | (subst_vars; with_reducible rfl) | (subst_vars; with_reducible refine (q_X1_advance _ _ _ _ _ _ _).trans ?_) | (subst_vars; with_reducible refine (shp_sI _ _ _ _).trans ?_) | (subst_vars; with_reducible refine (shp_sJ _ _ _ _).trans ?_) | (subst_vars; with_reducible refine (shp_rI _ _ _).trans ?_) | (subst_vars; with_reducible refine shi ?_ ?_) | (subst_vars; with_reducible refine shb (fun _ _ => ?_)))
noncomputable def f_X11_hurl (S : HSt) (_o0 : Nat) (a1 : Int32) (a2 : Int32) : Int64 × HSt := if (f_X11_canThrow S 0 a1 a2) = 0 then (pr ((-9000000000000000001 : Int64)) (S)) else (bd (f_X9_aim S 34 18 22 a1 a2) fun r2 => bd (f_X1_fallToHand r2 22) fun r3 => bd ((if (gI r3 34 0) ≤ 0 then ((-(gI r3 34 1)) - (1 : Int32)).toInt64 else (gI r3 34 0).toInt64)) fun x5 => pr (x5) (r3))
def p_X11_hurl (S : HSt) (_o0 : Nat) (a1 : Int32) (a2 : Int32) : Prop := (p_X11_canThrow S 0 a1 a2) ∧ ((¬ (f_X11_canThrow S 0 a1 a2) = 0) → p_X9_aim S 34 18 22 a1 a2)
set_option maxRecDepth 100000 in
theorem t_X11_hurl (G : GG) (l : Launch) {S : HSt} (hM : CS S) (a1 : Int32) (a2 : Int32)  (hp : p_X11_hurl S 0 a1 a2) : AM G l yX11_hurl cX11_hurl 3 (some .long) (rmD 4 0 0) 0 0 [.ref 0, .int a1, .int a2] S (FP (some (.long (f_X11_hurl S 0 a1 a2).1)) ((f_X11_hurl S 0 a1 a2).2)) := by
  obtain ⟨h0, h1⟩ := hp
  refine AM.mk (by decide) (Nat.le_of_ble_eq_true rfl) ?_
  intro p e s m below meth c hC hSt _
  refine aw_aload_n hC 0 dX11_hurl_0 rfl rfl ?_
  refine aw_iload_n hC 1 dX11_hurl_1 rfl rfl ?_
  refine aw_iload_n hC 2 dX11_hurl_2 rfl rfl ?_
  refine aw_cV2r hC hSt (t_X11_canThrow G l hM _ _ (h0)) w_790 w_793 w_794 w_795 w_517 rfl rfl (by decide +kernel) ⟨Nat.le_of_ble_eq_true rfl, Nat.le_of_ble_eq_true rfl⟩ (cs_lt 0 11 0 (by decide) hM) (cs_k 0 11 0 (by decide) hM) rfl (Nat.le_of_ble_eq_true rfl) dX11_hurl_3 ⟨Nat.zero_le _, Nat.zero_le _⟩ ?_
  refine aw_if_ne hC 13 dX11_hurl_6 (by decide) (fun c1 => ?_) (fun c1 => ?_)
  · refine aw_aload_n hC 0 dX11_hurl_13 rfl rfl ?_
    refine aw_getP (b := 34) hC hSt 4 (cs_lt 0 11 0 (by decide) hM) (cs_k 0 11 0 (by decide) hM) rfl (by decide) w_681 rfl (cs_p 0 4 34 (by decide) hM) dX11_hurl_14 ?_
    refine aw_aload_n hC 0 dX11_hurl_17 rfl rfl ?_
    refine aw_getP (b := 18) hC hSt 2 (cs_lt 0 11 0 (by decide) hM) (cs_k 0 11 0 (by decide) hM) rfl (by decide) w_678 rfl (cs_p 0 2 18 (by decide) hM) dX11_hurl_18 ?_
    refine aw_aload_n hC 0 dX11_hurl_21 rfl rfl ?_
    refine aw_getP (b := 18) hC hSt 2 (cs_lt 0 11 0 (by decide) hM) (cs_k 0 11 0 (by decide) hM) rfl (by decide) w_678 rfl (cs_p 0 2 18 (by decide) hM) dX11_hurl_22 ?_
    refine aw_getP (b := 22) hC hSt 1 (cs_lt 18 7 0 (by decide) hM) (cs_k 18 7 0 (by decide) hM) rfl (by decide) w_784 rfl (cs_p 18 1 22 (by decide) hM) dX11_hurl_25 ?_
    refine aw_iload_n hC 1 dX11_hurl_28 rfl rfl ?_
    refine aw_iload_n hC 2 dX11_hurl_29 rfl rfl ?_
    refine aw_cV4v hC hSt (t_X9_aim G l hM _ _ _ _ _ (by decide) (by decide) (by decide) (h1 c1)) w_511 w_796 w_531 w_532 w_140 rfl rfl (by decide +kernel) ⟨Nat.le_of_ble_eq_true rfl, Nat.le_of_ble_eq_true rfl⟩ (cs_lt 34 9 0 (by decide) hM) (cs_k 34 9 0 (by decide) hM) rfl (Nat.le_of_ble_eq_true rfl) dX11_hurl_30 ⟨Nat.zero_le _, Nat.zero_le _⟩ ?_
    generalize er2 : f_X9_aim S 34 18 22 a1 a2 = r2
    have hM : CS r2 := CS.of (by rw [← er2]; exact q_X9_aim _ _ _ _ _ _) hM
    refine aw_aload_n hC 0 dX11_hurl_33 rfl rfl ?_
    refine aw_getP (b := 18) hC hSt 2 (cs_lt 0 11 0 (by decide) hM) (cs_k 0 11 0 (by decide) hM) rfl (by decide) w_678 rfl (cs_p 0 2 18 (by decide) hM) dX11_hurl_34 ?_
    refine aw_getP (b := 22) hC hSt 1 (cs_lt 18 7 0 (by decide) hM) (cs_k 18 7 0 (by decide) hM) rfl (by decide) w_784 rfl (cs_p 18 1 22 (by decide) hM) dX11_hurl_37 ?_
    refine aw_cV0v hC hSt (t_X1_fallToHand G l hM _ (by decide)) w_71 w_797 w_82 w_83 w_84 rfl rfl (by decide +kernel) ⟨Nat.le_of_ble_eq_true rfl, Nat.le_of_ble_eq_true rfl⟩ (cs_lt 22 1 0 (by decide) hM) (cs_k 22 1 0 (by decide) hM) rfl (Nat.le_of_ble_eq_true rfl) dX11_hurl_40 ⟨Nat.zero_le _, Nat.zero_le _⟩ ?_
    generalize er3 : f_X1_fallToHand r2 22 = r3
    have hM : CS r3 := CS.of (by rw [← er3]; exact q_X1_fallToHand _ _) hM
    refine aw_aload_n hC 0 dX11_hurl_43 rfl rfl ?_
    refine aw_getP (b := 34) hC hSt 4 (cs_lt 0 11 0 (by decide) hM) (cs_k 0 11 0 (by decide) hM) rfl (by decide) w_681 rfl (cs_p 0 4 34 (by decide) hM) dX11_hurl_44 ?_
    refine aw_getI hC hSt 0 (cs_lt 34 9 0 (by decide) hM) (cs_k 34 9 0 (by decide) hM) rfl (by decide) w_791 rfl dX11_hurl_47 ?_
    refine aw_cut (S' := r3) (pc' := 75) (lv' := [(0, .ref 0), (1, .int a1), (2, .int a2)]) (st' := [.long (if (gI r3 34 0) ≤ 0 then ((-(gI r3 34 1)) - (1 : Int32)).toInt64 else (gI r3 34 0).toInt64)]) ?_ (fun Jc4 => ?_)
    · generalize ex5 : (if (gI r3 34 0) ≤ 0 then ((-(gI r3 34 1)) - (1 : Int32)).toInt64 else (gI r3 34 0).toInt64) = x5
      refine aw_lret hC dX11_hurl_75 (Nat.le_refl _) (Nat.le_refl _) ?_
      exact FP.qJ ((if_neg c1).trans ((bd_eq er2).trans ((bd_eq er3).trans ((bd_eq ex5).trans (rfl)))))
    · refine aw_if_le hC 64 dX11_hurl_50 (by decide) (fun c4 => ?_) (fun c4 => ?_)
      · refine aw_aload_n hC 0 dX11_hurl_64 rfl rfl ?_
        refine aw_getP (b := 34) hC hSt 4 (cs_lt 0 11 0 (by decide) hM) (cs_k 0 11 0 (by decide) hM) rfl (by decide) w_681 rfl (cs_p 0 4 34 (by decide) hM) dX11_hurl_65 ?_
        refine aw_getI hC hSt 1 (cs_lt 34 9 0 (by decide) hM) (cs_k 34 9 0 (by decide) hM) rfl (by decide) w_792 rfl dX11_hurl_68 ?_
        refine aw_ineg hC dX11_hurl_71 ?_
        refine aw_iconst (v := 1) hC dX11_hurl_72 (by decide) ?_
        refine aw_isub hC dX11_hurl_73 ?_
        refine aw_i2l hC dX11_hurl_74 ?_
        simp only [bd_def, if_pos c4] at Jc4 ⊢
        exact Jc4
      · refine aw_aload_n hC 0 dX11_hurl_53 rfl rfl ?_
        refine aw_getP (b := 34) hC hSt 4 (cs_lt 0 11 0 (by decide) hM) (cs_k 0 11 0 (by decide) hM) rfl (by decide) w_681 rfl (cs_p 0 4 34 (by decide) hM) dX11_hurl_54 ?_
        refine aw_getI hC hSt 0 (cs_lt 34 9 0 (by decide) hM) (cs_k 34 9 0 (by decide) hM) rfl (by decide) w_791 rfl dX11_hurl_57 ?_
        refine aw_i2l hC dX11_hurl_60 ?_
        refine aw_goto hC 75 dX11_hurl_61 (by decide) ?_
        simp only [bd_def, if_neg c4] at Jc4 ⊢
        exact Jc4
  · refine aw_ldc2 (v := -9000000000000000001) hC w_710 dX11_hurl_9 ?_
    refine aw_lret hC dX11_hurl_12 (Nat.le_refl _) (Nat.le_refl _) ?_
    exact FP.qJ ((if_pos c1).trans (rfl))
theorem q_X11_hurl (S : HSt) (_o0 : Nat) (a1 : Int32) (a2 : Int32) : shp ((f_X11_hurl S _o0 a1 a2).2) = shp S := by
  unfold f_X11_hurl
  repeat' (first | with_reducible refine shpr1 ?_ | with_reducible rfl | with_reducible refine (q_X1_fallToHand _ _).trans ?_ | with_reducible refine (q_X9_aim _ _ _ _ _ _).trans ?_ | with_reducible refine (shp_sI _ _ _ _).trans ?_ | with_reducible refine (shp_sJ _ _ _ _).trans ?_ | with_reducible refine (shp_rI _ _ _).trans ?_ | with_reducible refine shi ?_ ?_ | with_reducible refine shb (fun _ _ => ?_) | with_reducible refine shiP (fun q : Int64 × HSt => q.2) ?_ ?_ | with_reducible refine shbP (fun q : Int64 × HSt => q.2) (fun _ _ => ?_) | (subst_vars; with_reducible rfl) | (subst_vars; with_reducible refine (q_X1_fallToHand _ _).trans ?_) | (subst_vars; with_reducible refine (q_X9_aim _ _ _ _ _ _).trans ?_) | (subst_vars; with_reducible refine (shp_sI _ _ _ _).trans ?_) | (subst_vars; with_reducible refine (shp_sJ _ _ _ _).trans ?_) | (subst_vars; with_reducible refine (shp_rI _ _ _).trans ?_) | (subst_vars; with_reducible refine shi ?_ ?_) | (subst_vars; with_reducible refine shb (fun _ _ => ?_)))
noncomputable def f_X11_close (S : HSt) (_o0 : Nat) : Int64 × HSt := if (gI S 18 2) = 0 then (pr ((-9000000000000000002 : Int64)) (S)) else (bd (f_X1_gather S 22) fun r2 => pr ((gI r2 22 4).toInt64) (r2))
set_option maxRecDepth 100000 in
theorem t_X11_close (G : GG) (l : Launch) {S : HSt} (hM : CS S)    : AM G l yX11_close cX11_close 1 (some .long) (rmD 2 0 0) 0 0 [.ref 0] S (FP (some (.long (f_X11_close S 0).1)) ((f_X11_close S 0).2)) := by
  refine AM.mk (by decide) (Nat.le_of_ble_eq_true rfl) ?_
  intro p e s m below meth c hC hSt _
  refine aw_aload_n hC 0 dX11_close_0 rfl rfl ?_
  refine aw_getP (b := 18) hC hSt 2 (cs_lt 0 11 0 (by decide) hM) (cs_k 0 11 0 (by decide) hM) rfl (by decide) w_678 rfl (cs_p 0 2 18 (by decide) hM) dX11_close_1 ?_
  refine aw_getI hC hSt 2 (cs_lt 18 7 0 (by decide) hM) (cs_k 18 7 0 (by decide) hM) rfl (by decide) w_783 rfl dX11_close_4 ?_
  refine aw_if_ne hC 14 dX11_close_7 (by decide) (fun c1 => ?_) (fun c1 => ?_)
  · refine aw_aload_n hC 0 dX11_close_14 rfl rfl ?_
    refine aw_getP (b := 18) hC hSt 2 (cs_lt 0 11 0 (by decide) hM) (cs_k 0 11 0 (by decide) hM) rfl (by decide) w_678 rfl (cs_p 0 2 18 (by decide) hM) dX11_close_15 ?_
    refine aw_getP (b := 22) hC hSt 1 (cs_lt 18 7 0 (by decide) hM) (cs_k 18 7 0 (by decide) hM) rfl (by decide) w_784 rfl (cs_p 18 1 22 (by decide) hM) dX11_close_18 ?_
    refine aw_cV0v hC hSt (t_X1_gather G l hM _ (by decide)) w_85 w_801 w_557 w_558 w_84 rfl rfl (by decide +kernel) ⟨Nat.le_of_ble_eq_true rfl, Nat.le_of_ble_eq_true rfl⟩ (cs_lt 22 1 0 (by decide) hM) (cs_k 22 1 0 (by decide) hM) rfl (Nat.le_of_ble_eq_true rfl) dX11_close_21 ⟨Nat.zero_le _, Nat.zero_le _⟩ ?_
    generalize er2 : f_X1_gather S 22 = r2
    have hM : CS r2 := CS.of (by rw [← er2]; exact q_X1_gather _ _) hM
    refine aw_aload_n hC 0 dX11_close_24 rfl rfl ?_
    refine aw_getP (b := 18) hC hSt 2 (cs_lt 0 11 0 (by decide) hM) (cs_k 0 11 0 (by decide) hM) rfl (by decide) w_678 rfl (cs_p 0 2 18 (by decide) hM) dX11_close_25 ?_
    refine aw_getP (b := 22) hC hSt 1 (cs_lt 18 7 0 (by decide) hM) (cs_k 18 7 0 (by decide) hM) rfl (by decide) w_784 rfl (cs_p 18 1 22 (by decide) hM) dX11_close_28 ?_
    refine aw_getI hC hSt 4 (cs_lt 22 1 0 (by decide) hM) (cs_k 22 1 0 (by decide) hM) rfl (by decide) w_800 rfl dX11_close_31 ?_
    refine aw_i2l hC dX11_close_34 ?_
    refine aw_lret hC dX11_close_35 (Nat.le_refl _) (Nat.le_refl _) ?_
    exact FP.qJ ((if_neg c1).trans ((bd_eq er2).trans (rfl)))
  · refine aw_ldc2 (v := -9000000000000000002) hC w_785 dX11_close_10 ?_
    refine aw_lret hC dX11_close_13 (Nat.le_refl _) (Nat.le_refl _) ?_
    exact FP.qJ ((if_pos c1).trans (rfl))
theorem q_X11_close (S : HSt) (_o0 : Nat) : shp ((f_X11_close S _o0).2) = shp S := by
  unfold f_X11_close
  repeat' (first | with_reducible refine shpr1 ?_ | with_reducible rfl | with_reducible refine (q_X1_gather _ _).trans ?_ | with_reducible refine (shp_sI _ _ _ _).trans ?_ | with_reducible refine (shp_sJ _ _ _ _).trans ?_ | with_reducible refine (shp_rI _ _ _).trans ?_ | with_reducible refine shi ?_ ?_ | with_reducible refine shb (fun _ _ => ?_) | with_reducible refine shiP (fun q : Int64 × HSt => q.2) ?_ ?_ | with_reducible refine shbP (fun q : Int64 × HSt => q.2) (fun _ _ => ?_) | (subst_vars; with_reducible rfl) | (subst_vars; with_reducible refine (q_X1_gather _ _).trans ?_) | (subst_vars; with_reducible refine (shp_sI _ _ _ _).trans ?_) | (subst_vars; with_reducible refine (shp_sJ _ _ _ _).trans ?_) | (subst_vars; with_reducible refine (shp_rI _ _ _).trans ?_) | (subst_vars; with_reducible refine shi ?_ ?_) | (subst_vars; with_reducible refine shb (fun _ _ => ?_)))
noncomputable def F_X11_now (S : HSt) (_o0 : Nat) (a1 : Int32) : Int64 × HSt := if (f_X11_within S a1 (0 : Int32) (6 : Int32)) = 0 then (pr ((-9000000000000000001 : Int64)) (S)) else (if (gI S 18 2) = 0 then (pr ((-9000000000000000002 : Int64)) (S)) else (bd ((if a1 = (6 : Int32) then (gI S 22 5).toInt64 else (f_X1_tell S 22 a1).toInt64)) fun x4 => pr (x4) (S)))
noncomputable def f_X11_now (S : HSt) (_o0 : Nat) (a1 : Int32) : Int64 := (F_X11_now S _o0 a1).1
set_option maxRecDepth 100000 in
theorem t_X11_now (G : GG) (l : Launch) {S : HSt} (hM : CS S) (a1 : Int32)   : AM G l yX11_now cX11_now 2 (some .long) (rmD 1 0 0) 0 0 [.ref 0, .int a1] S (FP (some (.long (f_X11_now S 0 a1))) (S)) := by
  refine AM.mk (by decide) (Nat.le_of_ble_eq_true rfl) ?_
  intro p e s m below meth c hC hSt _
  refine aw_iload_n hC 1 dX11_now_0 rfl rfl ?_
  refine aw_iconst (v := 0) hC dX11_now_1 (by decide) ?_
  refine aw_bipush (v := 6) hC dX11_now_2 (by decide) ?_
  refine aw_cS3r hC hSt (t_X11_within G l  _ _ _) w_706 w_712 w_713 w_517 rfl rfl (by decide +kernel) ⟨Nat.le_of_ble_eq_true rfl, Nat.le_of_ble_eq_true rfl⟩ (Nat.le_of_ble_eq_true rfl) dX11_now_4 ⟨Nat.zero_le _, Nat.zero_le _⟩ ?_
  refine aw_if_ne hC 14 dX11_now_7 (by decide) (fun c1 => ?_) (fun c1 => ?_)
  · refine aw_aload_n hC 0 dX11_now_14 rfl rfl ?_
    refine aw_getP (b := 18) hC hSt 2 (cs_lt 0 11 0 (by decide) hM) (cs_k 0 11 0 (by decide) hM) rfl (by decide) w_678 rfl (cs_p 0 2 18 (by decide) hM) dX11_now_15 ?_
    refine aw_getI hC hSt 2 (cs_lt 18 7 0 (by decide) hM) (cs_k 18 7 0 (by decide) hM) rfl (by decide) w_783 rfl dX11_now_18 ?_
    refine aw_if_ne hC 28 dX11_now_21 (by decide) (fun c2 => ?_) (fun c2 => ?_)
    · refine aw_iload_n hC 1 dX11_now_28 rfl rfl ?_
      refine aw_bipush (v := 6) hC dX11_now_29 (by decide) ?_
      refine aw_cut (S' := S) (pc' := 60) (lv' := [(0, .ref 0), (1, .int a1)]) (st' := [.long (if a1 = (6 : Int32) then (gI S 22 5).toInt64 else (f_X1_tell S 22 a1).toInt64)]) ?_ (fun Jc3 => ?_)
      · generalize ex4 : (if a1 = (6 : Int32) then (gI S 22 5).toInt64 else (f_X1_tell S 22 a1).toInt64) = x4
        refine aw_lret hC dX11_now_60 (Nat.le_refl _) (Nat.le_refl _) ?_
        exact FP.pJ ((if_neg c1).trans ((if_neg c2).trans ((bd_eq ex4).trans (rfl))))
      · refine aw_icmp_ne hC 48 dX11_now_31 (by decide) (fun c3 => ?_) (fun c3 => ?_)
        · refine aw_aload_n hC 0 dX11_now_48 rfl rfl ?_
          refine aw_getP (b := 18) hC hSt 2 (cs_lt 0 11 0 (by decide) hM) (cs_k 0 11 0 (by decide) hM) rfl (by decide) w_678 rfl (cs_p 0 2 18 (by decide) hM) dX11_now_49 ?_
          refine aw_getP (b := 22) hC hSt 1 (cs_lt 18 7 0 (by decide) hM) (cs_k 18 7 0 (by decide) hM) rfl (by decide) w_784 rfl (cs_p 18 1 22 (by decide) hM) dX11_now_52 ?_
          refine aw_iload_n hC 1 dX11_now_55 rfl rfl ?_
          refine aw_cV1r hC hSt (t_X1_tell G l hM _ _ (by decide)) w_125 w_803 w_804 w_805 w_84 rfl rfl (by decide +kernel) ⟨Nat.le_of_ble_eq_true rfl, Nat.le_of_ble_eq_true rfl⟩ (cs_lt 22 1 0 (by decide) hM) (cs_k 22 1 0 (by decide) hM) rfl (Nat.le_of_ble_eq_true rfl) dX11_now_56 ⟨Nat.zero_le _, Nat.zero_le _⟩ ?_
          refine aw_i2l hC dX11_now_59 ?_
          simp only [bd_def, if_neg c3] at Jc3 ⊢
          exact Jc3
        · refine aw_aload_n hC 0 dX11_now_34 rfl rfl ?_
          refine aw_getP (b := 18) hC hSt 2 (cs_lt 0 11 0 (by decide) hM) (cs_k 0 11 0 (by decide) hM) rfl (by decide) w_678 rfl (cs_p 0 2 18 (by decide) hM) dX11_now_35 ?_
          refine aw_getP (b := 22) hC hSt 1 (cs_lt 18 7 0 (by decide) hM) (cs_k 18 7 0 (by decide) hM) rfl (by decide) w_784 rfl (cs_p 18 1 22 (by decide) hM) dX11_now_38 ?_
          refine aw_getI hC hSt 5 (cs_lt 22 1 0 (by decide) hM) (cs_k 22 1 0 (by decide) hM) rfl (by decide) w_786 rfl dX11_now_41 ?_
          refine aw_i2l hC dX11_now_44 ?_
          refine aw_goto hC 60 dX11_now_45 (by decide) ?_
          simp only [bd_def, if_pos c3] at Jc3 ⊢
          exact Jc3
    · refine aw_ldc2 (v := -9000000000000000002) hC w_785 dX11_now_24 ?_
      refine aw_lret hC dX11_now_27 (Nat.le_refl _) (Nat.le_refl _) ?_
      exact FP.pJ ((if_neg c1).trans ((if_pos c2).trans (rfl)))
  · refine aw_ldc2 (v := -9000000000000000001) hC w_710 dX11_now_10 ?_
    refine aw_lret hC dX11_now_13 (Nat.le_refl _) (Nat.le_refl _) ?_
    exact FP.pJ ((if_pos c1).trans (rfl))
noncomputable def F_X11_piece (S : HSt) (_o0 : Nat) (a1 : Int32) : Int64 × HSt := if (gI S 18 2) = 0 then (pr ((-9000000000000000002 : Int64)) (S)) else (if a1 < 0 then (pr ((-9000000000000000001 : Int64)) (S)) else (if a1 < (f_X7_pieces S 18) then (pr ((f_X1_whereIs S 22 a1).toInt64) (S)) else (pr ((-9000000000000000001 : Int64)) (S))))
noncomputable def f_X11_piece (S : HSt) (_o0 : Nat) (a1 : Int32) : Int64 := (F_X11_piece S _o0 a1).1
set_option maxRecDepth 100000 in
theorem t_X11_piece (G : GG) (l : Launch) {S : HSt} (hM : CS S) (a1 : Int32)   : AM G l yX11_piece cX11_piece 2 (some .long) (rmD 1 0 0) 0 0 [.ref 0, .int a1] S (FP (some (.long (f_X11_piece S 0 a1))) (S)) := by
  refine AM.mk (by decide) (Nat.le_of_ble_eq_true rfl) ?_
  intro p e s m below meth c hC hSt _
  refine aw_aload_n hC 0 dX11_piece_0 rfl rfl ?_
  refine aw_getP (b := 18) hC hSt 2 (cs_lt 0 11 0 (by decide) hM) (cs_k 0 11 0 (by decide) hM) rfl (by decide) w_678 rfl (cs_p 0 2 18 (by decide) hM) dX11_piece_1 ?_
  refine aw_getI hC hSt 2 (cs_lt 18 7 0 (by decide) hM) (cs_k 18 7 0 (by decide) hM) rfl (by decide) w_783 rfl dX11_piece_4 ?_
  refine aw_if_ne hC 14 dX11_piece_7 (by decide) (fun c1 => ?_) (fun c1 => ?_)
  · refine aw_iload_n hC 1 dX11_piece_14 rfl rfl ?_
    refine aw_if_lt hC 29 dX11_piece_15 (by decide) (fun c2 => ?_) (fun c2 => ?_)
    · refine aw_ldc2 (v := -9000000000000000001) hC w_710 dX11_piece_29 ?_
      refine aw_lret hC dX11_piece_32 (Nat.le_refl _) (Nat.le_refl _) ?_
      exact FP.pJ ((if_neg c1).trans ((if_pos c2).trans (rfl)))
    · refine aw_iload_n hC 1 dX11_piece_18 rfl rfl ?_
      refine aw_aload_n hC 0 dX11_piece_19 rfl rfl ?_
      refine aw_getP (b := 18) hC hSt 2 (cs_lt 0 11 0 (by decide) hM) (cs_k 0 11 0 (by decide) hM) rfl (by decide) w_678 rfl (cs_p 0 2 18 (by decide) hM) dX11_piece_20 ?_
      refine aw_cV0r hC hSt (t_X7_pieces G l hM _ (by decide)) w_600 w_807 w_808 w_809 w_114 rfl rfl (by decide +kernel) ⟨Nat.le_of_ble_eq_true rfl, Nat.le_of_ble_eq_true rfl⟩ (cs_lt 18 7 0 (by decide) hM) (cs_k 18 7 0 (by decide) hM) rfl (Nat.le_of_ble_eq_true rfl) dX11_piece_23 ⟨Nat.zero_le _, Nat.zero_le _⟩ ?_
      refine aw_icmp_lt hC 33 dX11_piece_26 (by decide) (fun c3 => ?_) (fun c3 => ?_)
      · refine aw_aload_n hC 0 dX11_piece_33 rfl rfl ?_
        refine aw_getP (b := 18) hC hSt 2 (cs_lt 0 11 0 (by decide) hM) (cs_k 0 11 0 (by decide) hM) rfl (by decide) w_678 rfl (cs_p 0 2 18 (by decide) hM) dX11_piece_34 ?_
        refine aw_getP (b := 22) hC hSt 1 (cs_lt 18 7 0 (by decide) hM) (cs_k 18 7 0 (by decide) hM) rfl (by decide) w_784 rfl (cs_p 18 1 22 (by decide) hM) dX11_piece_37 ?_
        refine aw_iload_n hC 1 dX11_piece_40 rfl rfl ?_
        refine aw_cV1r hC hSt (t_X1_whereIs G l hM _ _ (by decide)) w_126 w_810 w_811 w_812 w_84 rfl rfl (by decide +kernel) ⟨Nat.le_of_ble_eq_true rfl, Nat.le_of_ble_eq_true rfl⟩ (cs_lt 22 1 0 (by decide) hM) (cs_k 22 1 0 (by decide) hM) rfl (Nat.le_of_ble_eq_true rfl) dX11_piece_41 ⟨Nat.zero_le _, Nat.zero_le _⟩ ?_
        refine aw_i2l hC dX11_piece_44 ?_
        refine aw_lret hC dX11_piece_45 (Nat.le_refl _) (Nat.le_refl _) ?_
        exact FP.pJ ((if_neg c1).trans ((if_neg c2).trans ((if_pos c3).trans (rfl))))
      · refine aw_ldc2 (v := -9000000000000000001) hC w_710 dX11_piece_29 ?_
        refine aw_lret hC dX11_piece_32 (Nat.le_refl _) (Nat.le_refl _) ?_
        exact FP.pJ ((if_neg c1).trans ((if_neg c2).trans ((if_neg c3).trans (rfl))))
  · refine aw_ldc2 (v := -9000000000000000002) hC w_785 dX11_piece_10 ?_
    refine aw_lret hC dX11_piece_13 (Nat.le_refl _) (Nat.le_refl _) ?_
    exact FP.pJ ((if_pos c1).trans (rfl))
noncomputable def f_X11_odds (S : HSt) (_o0 : Nat) (a1 : Int32) (a2 : Int32) (a3 : Int32) : Int64 × HSt := if (f_X11_canThrow S 0 a1 a2) = 0 then (pr ((-9000000000000000001 : Int64)) (S)) else (if (f_X11_within S a3 (0 : Int32) (1 : Int32)) = 0 then (pr ((-9000000000000000001 : Int64)) (S)) else (bd (f_X9_aim S 34 18 22 a1 a2) fun r3 => pr ((f_X11_lowest r3 (gI r3 34 2).toInt64 (gI r3 34 3).toInt64 a3)) (r3)))
def p_X11_odds (S : HSt) (_o0 : Nat) (a1 : Int32) (a2 : Int32) (a3 : Int32) : Prop := (p_X11_canThrow S 0 a1 a2) ∧ ((¬ (f_X11_canThrow S 0 a1 a2) = 0) → (¬ (f_X11_within S a3 (0 : Int32) (1 : Int32)) = 0) → p_X9_aim S 34 18 22 a1 a2) ∧ ((¬ (f_X11_canThrow S 0 a1 a2) = 0) → (¬ (f_X11_within S a3 (0 : Int32) (1 : Int32)) = 0) → ∀ r3, f_X9_aim S 34 18 22 a1 a2 = r3 → p_X11_lowest r3 (gI r3 34 2).toInt64 (gI r3 34 3).toInt64 a3)
set_option maxRecDepth 100000 in
theorem t_X11_odds (G : GG) (l : Launch) {S : HSt} (hM : CS S) (a1 : Int32) (a2 : Int32) (a3 : Int32)  (hp : p_X11_odds S 0 a1 a2 a3) : AM G l yX11_odds cX11_odds 4 (some .long) (rmD 4 0 0) 0 0 [.ref 0, .int a1, .int a2, .int a3] S (FP (some (.long (f_X11_odds S 0 a1 a2 a3).1)) ((f_X11_odds S 0 a1 a2 a3).2)) := by
  obtain ⟨h0, h1, h2⟩ := hp
  refine AM.mk (by decide) (Nat.le_of_ble_eq_true rfl) ?_
  intro p e s m below meth c hC hSt _
  refine aw_aload_n hC 0 dX11_odds_0 rfl rfl ?_
  refine aw_iload_n hC 1 dX11_odds_1 rfl rfl ?_
  refine aw_iload_n hC 2 dX11_odds_2 rfl rfl ?_
  refine aw_cV2r hC hSt (t_X11_canThrow G l hM _ _ (h0)) w_790 w_793 w_794 w_795 w_517 rfl rfl (by decide +kernel) ⟨Nat.le_of_ble_eq_true rfl, Nat.le_of_ble_eq_true rfl⟩ (cs_lt 0 11 0 (by decide) hM) (cs_k 0 11 0 (by decide) hM) rfl (Nat.le_of_ble_eq_true rfl) dX11_odds_3 ⟨Nat.zero_le _, Nat.zero_le _⟩ ?_
  refine aw_if_eq hC 18 dX11_odds_6 (by decide) (fun c1 => ?_) (fun c1 => ?_)
  · refine aw_ldc2 (v := -9000000000000000001) hC w_710 dX11_odds_18 ?_
    refine aw_lret hC dX11_odds_21 (Nat.le_refl _) (Nat.le_refl _) ?_
    exact FP.qJ ((if_pos c1).trans (rfl))
  · refine aw_iload_n hC 3 dX11_odds_9 rfl rfl ?_
    refine aw_iconst (v := 0) hC dX11_odds_10 (by decide) ?_
    refine aw_iconst (v := 1) hC dX11_odds_11 (by decide) ?_
    refine aw_cS3r hC hSt (t_X11_within G l  _ _ _) w_706 w_712 w_713 w_517 rfl rfl (by decide +kernel) ⟨Nat.le_of_ble_eq_true rfl, Nat.le_of_ble_eq_true rfl⟩ (Nat.le_of_ble_eq_true rfl) dX11_odds_12 ⟨Nat.zero_le _, Nat.zero_le _⟩ ?_
    refine aw_if_ne hC 22 dX11_odds_15 (by decide) (fun c2 => ?_) (fun c2 => ?_)
    · refine aw_aload_n hC 0 dX11_odds_22 rfl rfl ?_
      refine aw_getP (b := 34) hC hSt 4 (cs_lt 0 11 0 (by decide) hM) (cs_k 0 11 0 (by decide) hM) rfl (by decide) w_681 rfl (cs_p 0 4 34 (by decide) hM) dX11_odds_23 ?_
      refine aw_aload_n hC 0 dX11_odds_26 rfl rfl ?_
      refine aw_getP (b := 18) hC hSt 2 (cs_lt 0 11 0 (by decide) hM) (cs_k 0 11 0 (by decide) hM) rfl (by decide) w_678 rfl (cs_p 0 2 18 (by decide) hM) dX11_odds_27 ?_
      refine aw_aload_n hC 0 dX11_odds_30 rfl rfl ?_
      refine aw_getP (b := 18) hC hSt 2 (cs_lt 0 11 0 (by decide) hM) (cs_k 0 11 0 (by decide) hM) rfl (by decide) w_678 rfl (cs_p 0 2 18 (by decide) hM) dX11_odds_31 ?_
      refine aw_getP (b := 22) hC hSt 1 (cs_lt 18 7 0 (by decide) hM) (cs_k 18 7 0 (by decide) hM) rfl (by decide) w_784 rfl (cs_p 18 1 22 (by decide) hM) dX11_odds_34 ?_
      refine aw_iload_n hC 1 dX11_odds_37 rfl rfl ?_
      refine aw_iload_n hC 2 dX11_odds_38 rfl rfl ?_
      refine aw_cV4v hC hSt (t_X9_aim G l hM _ _ _ _ _ (by decide) (by decide) (by decide) (h1 c1 c2)) w_511 w_796 w_531 w_532 w_140 rfl rfl (by decide +kernel) ⟨Nat.le_of_ble_eq_true rfl, Nat.le_of_ble_eq_true rfl⟩ (cs_lt 34 9 0 (by decide) hM) (cs_k 34 9 0 (by decide) hM) rfl (Nat.le_of_ble_eq_true rfl) dX11_odds_39 ⟨Nat.zero_le _, Nat.zero_le _⟩ ?_
      generalize er3 : f_X9_aim S 34 18 22 a1 a2 = r3
      have hM : CS r3 := CS.of (by rw [← er3]; exact q_X9_aim _ _ _ _ _ _) hM
      refine aw_aload_n hC 0 dX11_odds_42 rfl rfl ?_
      refine aw_getP (b := 34) hC hSt 4 (cs_lt 0 11 0 (by decide) hM) (cs_k 0 11 0 (by decide) hM) rfl (by decide) w_681 rfl (cs_p 0 4 34 (by decide) hM) dX11_odds_43 ?_
      refine aw_getI hC hSt 2 (cs_lt 34 9 0 (by decide) hM) (cs_k 34 9 0 (by decide) hM) rfl (by decide) w_813 rfl dX11_odds_46 ?_
      refine aw_i2l hC dX11_odds_49 ?_
      refine aw_aload_n hC 0 dX11_odds_50 rfl rfl ?_
      refine aw_getP (b := 34) hC hSt 4 (cs_lt 0 11 0 (by decide) hM) (cs_k 0 11 0 (by decide) hM) rfl (by decide) w_681 rfl (cs_p 0 4 34 (by decide) hM) dX11_odds_51 ?_
      refine aw_getI hC hSt 3 (cs_lt 34 9 0 (by decide) hM) (cs_k 34 9 0 (by decide) hM) rfl (by decide) w_814 rfl dX11_odds_54 ?_
      refine aw_i2l hC dX11_odds_57 ?_
      refine aw_iload_n hC 3 dX11_odds_58 rfl rfl ?_
      refine aw_cS3r hC hSt (t_X11_lowest G l  _ _ _ (h2 c1 c2 r3 er3)) w_514 w_815 w_523 w_517 rfl rfl (by decide +kernel) ⟨Nat.le_of_ble_eq_true rfl, Nat.le_of_ble_eq_true rfl⟩ (Nat.le_of_ble_eq_true rfl) dX11_odds_59 ⟨Nat.zero_le _, Nat.zero_le _⟩ ?_
      refine aw_lret hC dX11_odds_62 (Nat.le_refl _) (Nat.le_refl _) ?_
      exact FP.qJ ((if_neg c1).trans ((if_neg c2).trans ((bd_eq er3).trans (rfl))))
    · refine aw_ldc2 (v := -9000000000000000001) hC w_710 dX11_odds_18 ?_
      refine aw_lret hC dX11_odds_21 (Nat.le_refl _) (Nat.le_refl _) ?_
      exact FP.qJ ((if_neg c1).trans ((if_pos c2).trans (rfl)))
theorem q_X11_odds (S : HSt) (_o0 : Nat) (a1 : Int32) (a2 : Int32) (a3 : Int32) : shp ((f_X11_odds S _o0 a1 a2 a3).2) = shp S := by
  unfold f_X11_odds
  repeat' (first | with_reducible refine shpr1 ?_ | with_reducible rfl | with_reducible refine (q_X9_aim _ _ _ _ _ _).trans ?_ | with_reducible refine (shp_sI _ _ _ _).trans ?_ | with_reducible refine (shp_sJ _ _ _ _).trans ?_ | with_reducible refine (shp_rI _ _ _).trans ?_ | with_reducible refine shi ?_ ?_ | with_reducible refine shb (fun _ _ => ?_) | with_reducible refine shiP (fun q : Int64 × HSt => q.2) ?_ ?_ | with_reducible refine shbP (fun q : Int64 × HSt => q.2) (fun _ _ => ?_) | (subst_vars; with_reducible rfl) | (subst_vars; with_reducible refine (q_X9_aim _ _ _ _ _ _).trans ?_) | (subst_vars; with_reducible refine (shp_sI _ _ _ _).trans ?_) | (subst_vars; with_reducible refine (shp_sJ _ _ _ _).trans ?_) | (subst_vars; with_reducible refine (shp_rI _ _ _).trans ?_) | (subst_vars; with_reducible refine shi ?_ ?_) | (subst_vars; with_reducible refine shb (fun _ _ => ?_)))
noncomputable def F_X11_need (S : HSt) (_o0 : Nat) (a1 : Int32) : Int64 × HSt := if (f_X11_within S a1 (0 : Int32) (200 : Int32)) = 0 then (pr ((-9000000000000000001 : Int64)) (S)) else (bd ((if (gI S 18 2) = 0 then (-9000000000000000002 : Int64) else (f_X7_needOf S 18 a1).toInt64)) fun x3 => pr (x3) (S))
noncomputable def f_X11_need (S : HSt) (_o0 : Nat) (a1 : Int32) : Int64 := (F_X11_need S _o0 a1).1
set_option maxRecDepth 100000 in
theorem t_X11_need (G : GG) (l : Launch) {S : HSt} (hM : CS S) (a1 : Int32)   : AM G l yX11_need cX11_need 2 (some .long) (rmD 2 0 0) 0 0 [.ref 0, .int a1] S (FP (some (.long (f_X11_need S 0 a1))) (S)) := by
  refine AM.mk (by decide) (Nat.le_of_ble_eq_true rfl) ?_
  intro p e s m below meth c hC hSt _
  refine aw_iload_n hC 1 dX11_need_0 rfl rfl ?_
  refine aw_iconst (v := 0) hC dX11_need_1 (by decide) ?_
  refine aw_sipush (v := 200) hC dX11_need_2 (by decide) ?_
  refine aw_cS3r hC hSt (t_X11_within G l  _ _ _) w_706 w_712 w_713 w_517 rfl rfl (by decide +kernel) ⟨Nat.le_of_ble_eq_true rfl, Nat.le_of_ble_eq_true rfl⟩ (Nat.le_of_ble_eq_true rfl) dX11_need_5 ⟨Nat.zero_le _, Nat.zero_le _⟩ ?_
  refine aw_if_ne hC 15 dX11_need_8 (by decide) (fun c1 => ?_) (fun c1 => ?_)
  · refine aw_aload_n hC 0 dX11_need_15 rfl rfl ?_
    refine aw_getP (b := 18) hC hSt 2 (cs_lt 0 11 0 (by decide) hM) (cs_k 0 11 0 (by decide) hM) rfl (by decide) w_678 rfl (cs_p 0 2 18 (by decide) hM) dX11_need_16 ?_
    refine aw_getI hC hSt 2 (cs_lt 18 7 0 (by decide) hM) (cs_k 18 7 0 (by decide) hM) rfl (by decide) w_783 rfl dX11_need_19 ?_
    refine aw_cut (S' := S) (pc' := 40) (lv' := [(0, .ref 0), (1, .int a1)]) (st' := [.long (if (gI S 18 2) = 0 then (-9000000000000000002 : Int64) else (f_X7_needOf S 18 a1).toInt64)]) ?_ (fun Jc2 => ?_)
    · generalize ex3 : (if (gI S 18 2) = 0 then (-9000000000000000002 : Int64) else (f_X7_needOf S 18 a1).toInt64) = x3
      refine aw_lret hC dX11_need_40 (Nat.le_refl _) (Nat.le_refl _) ?_
      exact FP.pJ ((if_neg c1).trans ((bd_eq ex3).trans (rfl)))
    · refine aw_if_eq hC 37 dX11_need_22 (by decide) (fun c2 => ?_) (fun c2 => ?_)
      · refine aw_ldc2 (v := -9000000000000000002) hC w_785 dX11_need_37 ?_
        simp only [bd_def, if_pos c2] at Jc2 ⊢
        exact Jc2
      · refine aw_aload_n hC 0 dX11_need_25 rfl rfl ?_
        refine aw_getP (b := 18) hC hSt 2 (cs_lt 0 11 0 (by decide) hM) (cs_k 0 11 0 (by decide) hM) rfl (by decide) w_678 rfl (cs_p 0 2 18 (by decide) hM) dX11_need_26 ?_
        refine aw_iload_n hC 1 dX11_need_29 rfl rfl ?_
        refine aw_cV1r hC hSt (t_X7_needOf G l hM _ _ (by decide)) w_100 w_818 w_112 w_113 w_114 rfl rfl (by decide +kernel) ⟨Nat.le_of_ble_eq_true rfl, Nat.le_of_ble_eq_true rfl⟩ (cs_lt 18 7 0 (by decide) hM) (cs_k 18 7 0 (by decide) hM) rfl (Nat.le_of_ble_eq_true rfl) dX11_need_30 ⟨Nat.zero_le _, Nat.zero_le _⟩ ?_
        refine aw_i2l hC dX11_need_33 ?_
        refine aw_goto hC 40 dX11_need_34 (by decide) ?_
        simp only [bd_def, if_neg c2] at Jc2 ⊢
        exact Jc2
  · refine aw_ldc2 (v := -9000000000000000001) hC w_710 dX11_need_11 ?_
    refine aw_lret hC dX11_need_14 (Nat.le_refl _) (Nat.le_refl _) ?_
    exact FP.pJ ((if_pos c1).trans (rfl))
noncomputable def F_X11_greatest (S : HSt) (_o0 : Nat) (a1 : Int32) : Int64 × HSt := if (f_X11_within S a1 (0 : Int32) (15 : Int32)) = 0 then (pr ((-9000000000000000001 : Int64)) (S)) else (bd ((if (gI S 18 2) = 0 then (-9000000000000000002 : Int64) else (f_X7_greatestOpen S 18 a1).toInt64)) fun x3 => pr (x3) (S))
noncomputable def f_X11_greatest (S : HSt) (_o0 : Nat) (a1 : Int32) : Int64 := (F_X11_greatest S _o0 a1).1
def p_X11_greatest (S : HSt) (_o0 : Nat) (a1 : Int32) : Prop := ((¬ (f_X11_within S a1 (0 : Int32) (15 : Int32)) = 0) → (¬ (gI S 18 2) = 0) → p_X7_greatestOpen S 18 a1)
set_option maxRecDepth 100000 in
theorem t_X11_greatest (G : GG) (l : Launch) {S : HSt} (hM : CS S) (a1 : Int32)  (hp : p_X11_greatest S 0 a1) : AM G l yX11_greatest cX11_greatest 2 (some .long) (rmD 3 0 0) 0 0 [.ref 0, .int a1] S (FP (some (.long (f_X11_greatest S 0 a1))) (S)) := by
  have h0 := hp
  unfold p_X11_greatest at h0
  refine AM.mk (by decide) (Nat.le_of_ble_eq_true rfl) ?_
  intro p e s m below meth c hC hSt _
  refine aw_iload_n hC 1 dX11_greatest_0 rfl rfl ?_
  refine aw_iconst (v := 0) hC dX11_greatest_1 (by decide) ?_
  refine aw_bipush (v := 15) hC dX11_greatest_2 (by decide) ?_
  refine aw_cS3r hC hSt (t_X11_within G l  _ _ _) w_706 w_712 w_713 w_517 rfl rfl (by decide +kernel) ⟨Nat.le_of_ble_eq_true rfl, Nat.le_of_ble_eq_true rfl⟩ (Nat.le_of_ble_eq_true rfl) dX11_greatest_4 ⟨Nat.zero_le _, Nat.zero_le _⟩ ?_
  refine aw_if_ne hC 14 dX11_greatest_7 (by decide) (fun c1 => ?_) (fun c1 => ?_)
  · refine aw_aload_n hC 0 dX11_greatest_14 rfl rfl ?_
    refine aw_getP (b := 18) hC hSt 2 (cs_lt 0 11 0 (by decide) hM) (cs_k 0 11 0 (by decide) hM) rfl (by decide) w_678 rfl (cs_p 0 2 18 (by decide) hM) dX11_greatest_15 ?_
    refine aw_getI hC hSt 2 (cs_lt 18 7 0 (by decide) hM) (cs_k 18 7 0 (by decide) hM) rfl (by decide) w_783 rfl dX11_greatest_18 ?_
    refine aw_cut (S' := S) (pc' := 39) (lv' := [(0, .ref 0), (1, .int a1)]) (st' := [.long (if (gI S 18 2) = 0 then (-9000000000000000002 : Int64) else (f_X7_greatestOpen S 18 a1).toInt64)]) ?_ (fun Jc2 => ?_)
    · generalize ex3 : (if (gI S 18 2) = 0 then (-9000000000000000002 : Int64) else (f_X7_greatestOpen S 18 a1).toInt64) = x3
      refine aw_lret hC dX11_greatest_39 (Nat.le_refl _) (Nat.le_refl _) ?_
      exact FP.pJ ((if_neg c1).trans ((bd_eq ex3).trans (rfl)))
    · refine aw_if_eq hC 36 dX11_greatest_21 (by decide) (fun c2 => ?_) (fun c2 => ?_)
      · refine aw_ldc2 (v := -9000000000000000002) hC w_785 dX11_greatest_36 ?_
        simp only [bd_def, if_pos c2] at Jc2 ⊢
        exact Jc2
      · refine aw_aload_n hC 0 dX11_greatest_24 rfl rfl ?_
        refine aw_getP (b := 18) hC hSt 2 (cs_lt 0 11 0 (by decide) hM) (cs_k 0 11 0 (by decide) hM) rfl (by decide) w_678 rfl (cs_p 0 2 18 (by decide) hM) dX11_greatest_25 ?_
        refine aw_iload_n hC 1 dX11_greatest_28 rfl rfl ?_
        refine aw_cV1r hC hSt (t_X7_greatestOpen G l hM _ _ (by decide) (h0 c1 c2)) w_601 w_820 w_821 w_822 w_114 rfl rfl (by decide +kernel) ⟨Nat.le_of_ble_eq_true rfl, Nat.le_of_ble_eq_true rfl⟩ (cs_lt 18 7 0 (by decide) hM) (cs_k 18 7 0 (by decide) hM) rfl (Nat.le_of_ble_eq_true rfl) dX11_greatest_29 ⟨Nat.zero_le _, Nat.zero_le _⟩ ?_
        refine aw_i2l hC dX11_greatest_32 ?_
        refine aw_goto hC 39 dX11_greatest_33 (by decide) ?_
        simp only [bd_def, if_neg c2] at Jc2 ⊢
        exact Jc2
  · refine aw_ldc2 (v := -9000000000000000001) hC w_710 dX11_greatest_10 ?_
    refine aw_lret hC dX11_greatest_13 (Nat.le_refl _) (Nat.le_refl _) ?_
    exact FP.pJ ((if_pos c1).trans (rfl))
noncomputable def F_X11_out (S : HSt) (_o0 : Nat) (a1 : Int32) (a2 : Int32) : Int64 × HSt := if (f_X11_within S a1 (0 : Int32) (15 : Int32)) = 0 then (pr ((-9000000000000000001 : Int64)) (S)) else (if (f_X11_within S a2 (1 : Int32) (40 : Int32)) = 0 then (pr ((-9000000000000000001 : Int64)) (S)) else (bd ((if (gI S 18 2) = 0 then (-9000000000000000002 : Int64) else (f_X7_leastTurn S 18 a1 a2).toInt64)) fun x4 => pr (x4) (S)))
noncomputable def f_X11_out (S : HSt) (_o0 : Nat) (a1 : Int32) (a2 : Int32) : Int64 := (F_X11_out S _o0 a1 a2).1
def p_X11_out (S : HSt) (_o0 : Nat) (a1 : Int32) (a2 : Int32) : Prop := ((¬ (f_X11_within S a1 (0 : Int32) (15 : Int32)) = 0) → (¬ (f_X11_within S a2 (1 : Int32) (40 : Int32)) = 0) → (¬ (gI S 18 2) = 0) → p_X7_leastTurn S 18 a1 a2)
set_option maxRecDepth 100000 in
theorem t_X11_out (G : GG) (l : Launch) {S : HSt} (hM : CS S) (a1 : Int32) (a2 : Int32)  (hp : p_X11_out S 0 a1 a2) : AM G l yX11_out cX11_out 3 (some .long) (rmD 3 0 0) 0 0 [.ref 0, .int a1, .int a2] S (FP (some (.long (f_X11_out S 0 a1 a2))) (S)) := by
  have h0 := hp
  unfold p_X11_out at h0
  refine AM.mk (by decide) (Nat.le_of_ble_eq_true rfl) ?_
  intro p e s m below meth c hC hSt _
  refine aw_iload_n hC 1 dX11_out_0 rfl rfl ?_
  refine aw_iconst (v := 0) hC dX11_out_1 (by decide) ?_
  refine aw_bipush (v := 15) hC dX11_out_2 (by decide) ?_
  refine aw_cS3r hC hSt (t_X11_within G l  _ _ _) w_706 w_712 w_713 w_517 rfl rfl (by decide +kernel) ⟨Nat.le_of_ble_eq_true rfl, Nat.le_of_ble_eq_true rfl⟩ (Nat.le_of_ble_eq_true rfl) dX11_out_4 ⟨Nat.zero_le _, Nat.zero_le _⟩ ?_
  refine aw_if_eq hC 20 dX11_out_7 (by decide) (fun c1 => ?_) (fun c1 => ?_)
  · refine aw_ldc2 (v := -9000000000000000001) hC w_710 dX11_out_20 ?_
    refine aw_lret hC dX11_out_23 (Nat.le_refl _) (Nat.le_refl _) ?_
    exact FP.pJ ((if_pos c1).trans (rfl))
  · refine aw_iload_n hC 2 dX11_out_10 rfl rfl ?_
    refine aw_iconst (v := 1) hC dX11_out_11 (by decide) ?_
    refine aw_bipush (v := 40) hC dX11_out_12 (by decide) ?_
    refine aw_cS3r hC hSt (t_X11_within G l  _ _ _) w_706 w_712 w_713 w_517 rfl rfl (by decide +kernel) ⟨Nat.le_of_ble_eq_true rfl, Nat.le_of_ble_eq_true rfl⟩ (Nat.le_of_ble_eq_true rfl) dX11_out_14 ⟨Nat.zero_le _, Nat.zero_le _⟩ ?_
    refine aw_if_ne hC 24 dX11_out_17 (by decide) (fun c2 => ?_) (fun c2 => ?_)
    · refine aw_aload_n hC 0 dX11_out_24 rfl rfl ?_
      refine aw_getP (b := 18) hC hSt 2 (cs_lt 0 11 0 (by decide) hM) (cs_k 0 11 0 (by decide) hM) rfl (by decide) w_678 rfl (cs_p 0 2 18 (by decide) hM) dX11_out_25 ?_
      refine aw_getI hC hSt 2 (cs_lt 18 7 0 (by decide) hM) (cs_k 18 7 0 (by decide) hM) rfl (by decide) w_783 rfl dX11_out_28 ?_
      refine aw_cut (S' := S) (pc' := 50) (lv' := [(0, .ref 0), (1, .int a1), (2, .int a2)]) (st' := [.long (if (gI S 18 2) = 0 then (-9000000000000000002 : Int64) else (f_X7_leastTurn S 18 a1 a2).toInt64)]) ?_ (fun Jc3 => ?_)
      · generalize ex4 : (if (gI S 18 2) = 0 then (-9000000000000000002 : Int64) else (f_X7_leastTurn S 18 a1 a2).toInt64) = x4
        refine aw_lret hC dX11_out_50 (Nat.le_refl _) (Nat.le_refl _) ?_
        exact FP.pJ ((if_neg c1).trans ((if_neg c2).trans ((bd_eq ex4).trans (rfl))))
      · refine aw_if_eq hC 47 dX11_out_31 (by decide) (fun c3 => ?_) (fun c3 => ?_)
        · refine aw_ldc2 (v := -9000000000000000002) hC w_785 dX11_out_47 ?_
          simp only [bd_def, if_pos c3] at Jc3 ⊢
          exact Jc3
        · refine aw_aload_n hC 0 dX11_out_34 rfl rfl ?_
          refine aw_getP (b := 18) hC hSt 2 (cs_lt 0 11 0 (by decide) hM) (cs_k 0 11 0 (by decide) hM) rfl (by decide) w_678 rfl (cs_p 0 2 18 (by decide) hM) dX11_out_35 ?_
          refine aw_iload_n hC 1 dX11_out_38 rfl rfl ?_
          refine aw_iload_n hC 2 dX11_out_39 rfl rfl ?_
          refine aw_cV2r hC hSt (t_X7_leastTurn G l hM _ _ _ (by decide) (h0 c1 c2 c3)) w_608 w_823 w_824 w_825 w_114 rfl rfl (by decide +kernel) ⟨Nat.le_of_ble_eq_true rfl, Nat.le_of_ble_eq_true rfl⟩ (cs_lt 18 7 0 (by decide) hM) (cs_k 18 7 0 (by decide) hM) rfl (Nat.le_of_ble_eq_true rfl) dX11_out_40 ⟨Nat.zero_le _, Nat.zero_le _⟩ ?_
          refine aw_i2l hC dX11_out_43 ?_
          refine aw_goto hC 50 dX11_out_44 (by decide) ?_
          simp only [bd_def, if_neg c3] at Jc3 ⊢
          exact Jc3
    · refine aw_ldc2 (v := -9000000000000000001) hC w_710 dX11_out_20 ?_
      refine aw_lret hC dX11_out_23 (Nat.le_refl _) (Nat.le_refl _) ?_
      exact FP.pJ ((if_neg c1).trans ((if_pos c2).trans (rfl)))
noncomputable def L_X11_wraps_29 : Nat → HSt → Int32 → Int32 → Int32 → Int32 → Int32 × Int64 × Int32 × Int32 × Int32 × Int32
  | 0, S, v1, v2, v3, v4 => ((1 : Int32), 0, v1, v2, v3, v4)
  | n + 1, S, v1, v2, v3, v4 =>
    if (9 : Int32) < v4 then ((pr ((0 : Int32)) (pr (0) (pr (v1) (pr (v2) (pr (v3) (v4))))))) else (if v3 < v1 then (bd ((v3 * (3 : Int32))) fun x1005 => L_X11_wraps_29 n S v1 v2 x1005 (v4 + (1 : Int32))) else ((pr ((1 : Int32)) (pr (v4.toInt64) (pr (v1) (pr (v2) (pr (v3) (v4))))))))
def T_X11_wraps_29 : Nat → HSt → Int32 → Int32 → Int32 → Int32 → Prop
  | 0, _, _, _, _, _ => False
  | n + 1, S, v1, v2, v3, v4 => ((¬ (9 : Int32) < v4) → (v3 < v1) → ∀ x1005 : Int32, (v3 * (3 : Int32)) = x1005 → T_X11_wraps_29 n S v1 v2 x1005 (v4 + (1 : Int32)))
set_option maxRecDepth 100000 in
theorem l_X11_wraps_29 {p : Program} {l : Launch} {e : Env} {s : State} {m : MethodId} {args : Array Value} {below : List Frame} {meth : Method} {c : Code} {G : GG} {Post : Option Value → HSt → Prop} (hC : ACx p s m args meth c cX11_wraps RX11 5 (some .long)) (hSt : St G s)   : ∀ (n : Nat) (S : HSt) (v1 : Int32) (v2 : Int32) (v3 : Int32) (v4 : Int32), CS S → T_X11_wraps_29 n S v1 v2 v3 v4 → ((L_X11_wraps_29 n S v1 v2 v3 v4).1 = 1 → Post (some (.long (L_X11_wraps_29 n S v1 v2 v3 v4).2.1)) S) → ((L_X11_wraps_29 n S v1 v2 v3 v4).1 ≠ 1 → AW p l e (rmD 1 0 0) s m args below meth c G 5 (AQ G below args s 0 0 Post) S 0 0 55 [(0, .ref 0), (1, .int (L_X11_wraps_29 n S v1 v2 v3 v4).2.2.1), (2, .int (L_X11_wraps_29 n S v1 v2 v3 v4).2.2.2.1), (3, .int (L_X11_wraps_29 n S v1 v2 v3 v4).2.2.2.2.1), (4, .int (L_X11_wraps_29 n S v1 v2 v3 v4).2.2.2.2.2)] []) → AW p l e (rmD 1 0 0) s m args below meth c G 5 (AQ G below args s 0 0 Post) S 0 0 29 [(0, .ref 0), (1, .int v1), (2, .int v2), (3, .int v3), (4, .int v4)] [] := by
  intro n
  induction n with
  | zero => intro S v1 v2 v3 v4 _ hT; exact hT.elim
  | succ n ih =>
    intro S v1 v2 v3 v4 hM hT hr hk
    unfold T_X11_wraps_29 at hT
    have h0 := hT
    refine aw_iload hC 4 dX11_wraps_29 rfl ?_
    refine aw_bipush (v := 9) hC dX11_wraps_31 (by decide) ?_
    refine aw_icmp_gt hC 55 dX11_wraps_33 (by decide) (fun c1003 => ?_) (fun c1003 => ?_)
    · refine aw_sub [0, 1, 2, 3, 4] rfl ?_
      have E : L_X11_wraps_29 (n + 1) S v1 v2 v3 v4 = _ := (if_pos c1003).trans (rfl)
      rw [E] at hk hr
      exact hk (by show ¬ (0 : Int32) = 1; decide)
    · refine aw_iload_n hC 3 dX11_wraps_36 rfl rfl ?_
      refine aw_iload_n hC 1 dX11_wraps_37 rfl rfl ?_
      refine aw_icmp_lt hC 45 dX11_wraps_38 (by decide) (fun c1004 => ?_) (fun c1004 => ?_)
      · refine aw_iload_n hC 3 dX11_wraps_45 rfl rfl ?_
        refine aw_iconst (v := 3) hC dX11_wraps_46 (by decide) ?_
        refine aw_imul hC dX11_wraps_47 ?_
        refine aw_istore_n hC [(3, .int _), (0, .ref 0), (1, .int _), (2, .int _), (4, .int _)] dX11_wraps_48 rfl (by decide) rfl ?_
        generalize ex1005 : (v3 * (3 : Int32)) = x1005
        refine aw_iinc (v := (v4 + (1 : Int32))) hC 4 [(4, .int _), (3, .int _), (0, .ref 0), (1, .int _), (2, .int _)] dX11_wraps_49 rfl rfl (by decide) rfl ?_
        refine aw_goto hC 29 dX11_wraps_52 (by decide) ?_
        refine aw_sub [2, 3, 4, 1, 0] rfl ?_
        have hTn := (h0 c1003 c1004 x1005 ex1005)
        have hMn : CS S := hM
        have E : L_X11_wraps_29 (n + 1) S v1 v2 v3 v4 = _ := (if_neg c1003).trans ((if_pos c1004).trans ((bd_eq ex1005).trans (rfl)))
        rw [E] at hk hr
        exact ih _ _ _ _ _ hMn hTn hr hk
      · refine aw_iload hC 4 dX11_wraps_41 rfl ?_
        refine aw_i2l hC dX11_wraps_43 ?_
        refine aw_lret hC dX11_wraps_44 (Nat.le_refl _) (Nat.le_refl _) ?_
        have E : L_X11_wraps_29 (n + 1) S v1 v2 v3 v4 = _ := (if_neg c1003).trans ((if_neg c1004).trans (rfl))
        rw [E] at hr
        exact hr rfl
noncomputable def F_X11_wraps (S : HSt) (_o0 : Nat) (a1 : Int32) (a2 : Int32) : Int64 × HSt := if (f_X11_within S a1 (1 : Int32) (999999 : Int32)) = 0 then (pr ((-9000000000000000001 : Int64)) (S)) else (if (f_X11_within S a2 (1 : Int32) (99 : Int32)) = 0 then (pr ((-9000000000000000001 : Int64)) (S)) else (bd (L_X11_wraps_29 1000 S a1 a2 a2 (0 : Int32)) fun r3 => if r3.1 = 1 then (pr (r3.2.1) (S)) else (pr ((-1000000 : Int64)) (S))))
noncomputable def f_X11_wraps (S : HSt) (_o0 : Nat) (a1 : Int32) (a2 : Int32) : Int64 := (F_X11_wraps S _o0 a1 a2).1
def p_X11_wraps (S : HSt) (_o0 : Nat) (a1 : Int32) (a2 : Int32) : Prop := ((¬ (f_X11_within S a1 (1 : Int32) (999999 : Int32)) = 0) → (¬ (f_X11_within S a2 (1 : Int32) (99 : Int32)) = 0) → T_X11_wraps_29 1000 S a1 a2 a2 (0 : Int32))
set_option maxRecDepth 100000 in
theorem t_X11_wraps (G : GG) (l : Launch) {S : HSt} (hM : CS S) (a1 : Int32) (a2 : Int32)  (hp : p_X11_wraps S 0 a1 a2) : AM G l yX11_wraps cX11_wraps 5 (some .long) (rmD 1 0 0) 0 0 [.ref 0, .int a1, .int a2] S (FP (some (.long (f_X11_wraps S 0 a1 a2))) (S)) := by
  have h0 := hp
  unfold p_X11_wraps at h0
  refine AM.mk (by decide) (Nat.le_of_ble_eq_true rfl) ?_
  intro p e s m below meth c hC hSt _
  refine aw_iload_n hC 1 dX11_wraps_0 rfl rfl ?_
  refine aw_iconst (v := 1) hC dX11_wraps_1 (by decide) ?_
  refine aw_ldc (v := 999999) hC w_828 dX11_wraps_2 ?_
  refine aw_cS3r hC hSt (t_X11_within G l  _ _ _) w_706 w_712 w_713 w_517 rfl rfl (by decide +kernel) ⟨Nat.le_of_ble_eq_true rfl, Nat.le_of_ble_eq_true rfl⟩ (Nat.le_of_ble_eq_true rfl) dX11_wraps_4 ⟨Nat.zero_le _, Nat.zero_le _⟩ ?_
  refine aw_if_eq hC 20 dX11_wraps_7 (by decide) (fun c1 => ?_) (fun c1 => ?_)
  · refine aw_ldc2 (v := -9000000000000000001) hC w_710 dX11_wraps_20 ?_
    refine aw_lret hC dX11_wraps_23 (Nat.le_refl _) (Nat.le_refl _) ?_
    exact FP.pJ ((if_pos c1).trans (rfl))
  · refine aw_iload_n hC 2 dX11_wraps_10 rfl rfl ?_
    refine aw_iconst (v := 1) hC dX11_wraps_11 (by decide) ?_
    refine aw_bipush (v := 99) hC dX11_wraps_12 (by decide) ?_
    refine aw_cS3r hC hSt (t_X11_within G l  _ _ _) w_706 w_712 w_713 w_517 rfl rfl (by decide +kernel) ⟨Nat.le_of_ble_eq_true rfl, Nat.le_of_ble_eq_true rfl⟩ (Nat.le_of_ble_eq_true rfl) dX11_wraps_14 ⟨Nat.zero_le _, Nat.zero_le _⟩ ?_
    refine aw_if_ne hC 24 dX11_wraps_17 (by decide) (fun c2 => ?_) (fun c2 => ?_)
    · refine aw_iload_n hC 2 dX11_wraps_24 rfl rfl ?_
      refine aw_istore_n hC [(3, .int _), (0, .ref 0), (1, .int _), (2, .int _)] dX11_wraps_25 rfl (by decide) rfl ?_
      refine aw_iconst (v := 0) hC dX11_wraps_26 (by decide) ?_
      refine aw_istore hC [(4, .int _), (3, .int _), (0, .ref 0), (1, .int _), (2, .int _)] dX11_wraps_27 (by decide) rfl ?_
      refine aw_sub [2, 3, 4, 1, 0] rfl ?_
      refine l_X11_wraps_29 hC hSt 1000 _ _ _ _ _ hM (h0 c1 c2) (fun c4 => ?_) (fun c4 => ?_)
      · revert c4
        generalize er3 : L_X11_wraps_29 1000 S a1 a2 a2 (0 : Int32) = r3
        intro c4
        exact FP.pJ ((if_neg c1).trans ((if_neg c2).trans ((bd_eq er3).trans ((if_pos c4).trans (rfl)))))
      · revert c4
        generalize er3 : L_X11_wraps_29 1000 S a1 a2 a2 (0 : Int32) = r3
        intro c4
        refine aw_ldc2 (v := -1000000) hC w_773 dX11_wraps_55 ?_
        refine aw_lret hC dX11_wraps_58 (Nat.le_refl _) (Nat.le_refl _) ?_
        exact FP.pJ ((if_neg c1).trans ((if_neg c2).trans ((bd_eq er3).trans ((if_neg c4).trans (rfl)))))
    · refine aw_ldc2 (v := -9000000000000000001) hC w_710 dX11_wraps_20 ?_
      refine aw_lret hC dX11_wraps_23 (Nat.le_refl _) (Nat.le_refl _) ?_
      exact FP.pJ ((if_neg c1).trans ((if_pos c2).trans (rfl)))
noncomputable def f_X11_told (S : HSt) (_o0 : Nat) (a1 : Int32) (a2 : Int32) : Int64 × HSt := if (gI S 18 2) = 0 then (pr ((-9000000000000000002 : Int64)) (S)) else (if a1 = (-1 : Int32) then (if (f_X11_within S a2 (0 : Int32) (7 : Int32)) = 0 then (pr ((-9000000000000000001 : Int64)) (S)) else (bd (f_X6_run S 35 18 a1) fun r4 => if a2 = (6 : Int32) then (pr ((gI r4 35 2).toInt64) (r4)) else (bd ((if a2 = (7 : Int32) then (gI r4 35 3).toInt64 else (f_X1_tell r4 36 a2).toInt64)) fun x7 => pr (x7) (r4)))) else (if (f_X11_hasAct S 0 a1) = 0 then (pr ((-9000000000000000001 : Int64)) (S)) else (if (f_X11_within S a2 (0 : Int32) (7 : Int32)) = 0 then (pr ((-9000000000000000001 : Int64)) (S)) else (bd (f_X6_run S 35 18 a1) fun r10 => if a2 = (6 : Int32) then (pr ((gI r10 35 2).toInt64) (r10)) else (bd ((if a2 = (7 : Int32) then (gI r10 35 3).toInt64 else (f_X1_tell r10 36 a2).toInt64)) fun x13 => pr (x13) (r10))))))
def p_X11_told (S : HSt) (_o0 : Nat) (a1 : Int32) (a2 : Int32) : Prop := ((¬ (gI S 18 2) = 0) → (a1 = (-1 : Int32)) → (¬ (f_X11_within S a2 (0 : Int32) (7 : Int32)) = 0) → p_X6_run S 35 18 a1) ∧ ((¬ (gI S 18 2) = 0) → (¬ a1 = (-1 : Int32)) → p_X11_hasAct S 0 a1) ∧ ((¬ (gI S 18 2) = 0) → (¬ a1 = (-1 : Int32)) → (¬ (f_X11_hasAct S 0 a1) = 0) → (¬ (f_X11_within S a2 (0 : Int32) (7 : Int32)) = 0) → p_X6_run S 35 18 a1)
set_option maxRecDepth 100000 in
theorem t_X11_told (G : GG) (l : Launch) {S : HSt} (hM : CS S) (a1 : Int32) (a2 : Int32)  (hp : p_X11_told S 0 a1 a2) : AM G l yX11_told cX11_told 3 (some .long) (rmD 7 0 0) 0 0 [.ref 0, .int a1, .int a2] S (FP (some (.long (f_X11_told S 0 a1 a2).1)) ((f_X11_told S 0 a1 a2).2)) := by
  obtain ⟨h0, h1, h2⟩ := hp
  refine AM.mk (by decide) (Nat.le_of_ble_eq_true rfl) ?_
  intro p e s m below meth c hC hSt _
  refine aw_aload_n hC 0 dX11_told_0 rfl rfl ?_
  refine aw_getP (b := 18) hC hSt 2 (cs_lt 0 11 0 (by decide) hM) (cs_k 0 11 0 (by decide) hM) rfl (by decide) w_678 rfl (cs_p 0 2 18 (by decide) hM) dX11_told_1 ?_
  refine aw_getI hC hSt 2 (cs_lt 18 7 0 (by decide) hM) (cs_k 18 7 0 (by decide) hM) rfl (by decide) w_783 rfl dX11_told_4 ?_
  refine aw_if_ne hC 14 dX11_told_7 (by decide) (fun c1 => ?_) (fun c1 => ?_)
  · refine aw_iload_n hC 1 dX11_told_14 rfl rfl ?_
    refine aw_iconst (v := -1) hC dX11_told_15 (by decide) ?_
    refine aw_icmp_eq hC 27 dX11_told_16 (by decide) (fun c2 => ?_) (fun c2 => ?_)
    · refine aw_iload_n hC 2 dX11_told_27 rfl rfl ?_
      refine aw_iconst (v := 0) hC dX11_told_28 (by decide) ?_
      refine aw_bipush (v := 7) hC dX11_told_29 (by decide) ?_
      refine aw_cS3r hC hSt (t_X11_within G l  _ _ _) w_706 w_712 w_713 w_517 rfl rfl (by decide +kernel) ⟨Nat.le_of_ble_eq_true rfl, Nat.le_of_ble_eq_true rfl⟩ (Nat.le_of_ble_eq_true rfl) dX11_told_31 ⟨Nat.zero_le _, Nat.zero_le _⟩ ?_
      refine aw_if_ne hC 41 dX11_told_34 (by decide) (fun c3 => ?_) (fun c3 => ?_)
      · refine aw_aload_n hC 0 dX11_told_41 rfl rfl ?_
        refine aw_getP (b := 35) hC hSt 5 (cs_lt 0 11 0 (by decide) hM) (cs_k 0 11 0 (by decide) hM) rfl (by decide) w_684 rfl (cs_p 0 5 35 (by decide) hM) dX11_told_42 ?_
        refine aw_aload_n hC 0 dX11_told_45 rfl rfl ?_
        refine aw_getP (b := 18) hC hSt 2 (cs_lt 0 11 0 (by decide) hM) (cs_k 0 11 0 (by decide) hM) rfl (by decide) w_678 rfl (cs_p 0 2 18 (by decide) hM) dX11_told_46 ?_
        refine aw_iload_n hC 1 dX11_told_49 rfl rfl ?_
        refine aw_cV2v hC hSt (t_X6_run G l hM _ _ (by decide) (h0 c1 c2 c3)) w_568 w_832 w_833 w_834 w_540 rfl rfl (by decide +kernel) ⟨Nat.le_of_ble_eq_true rfl, Nat.le_of_ble_eq_true rfl⟩ (cs_lt 35 6 0 (by decide) hM) (cs_k 35 6 0 (by decide) hM) rfl (Nat.le_of_ble_eq_true rfl) dX11_told_50 ⟨Nat.zero_le _, Nat.zero_le _⟩ ?_
        generalize er4 : f_X6_run S 35 18 a1 = r4
        have hM : CS r4 := CS.of (by rw [← er4]; exact q_X6_run _ _ _ _) hM
        refine aw_iload_n hC 2 dX11_told_53 rfl rfl ?_
        refine aw_bipush (v := 6) hC dX11_told_54 (by decide) ?_
        refine aw_icmp_ne hC 68 dX11_told_56 (by decide) (fun c5 => ?_) (fun c5 => ?_)
        · refine aw_iload_n hC 2 dX11_told_68 rfl rfl ?_
          refine aw_bipush (v := 7) hC dX11_told_69 (by decide) ?_
          refine aw_cut (S' := r4) (pc' := 97) (lv' := [(0, .ref 0), (1, .int a1), (2, .int a2)]) (st' := [.long (if a2 = (7 : Int32) then (gI r4 35 3).toInt64 else (f_X1_tell r4 36 a2).toInt64)]) ?_ (fun Jc6 => ?_)
          · generalize ex7 : (if a2 = (7 : Int32) then (gI r4 35 3).toInt64 else (f_X1_tell r4 36 a2).toInt64) = x7
            refine aw_lret hC dX11_told_97 (Nat.le_refl _) (Nat.le_refl _) ?_
            exact FP.qJ ((if_neg c1).trans ((if_pos c2).trans ((if_neg c3).trans ((bd_eq er4).trans ((if_neg c5).trans ((bd_eq ex7).trans (rfl)))))))
          · refine aw_icmp_ne hC 85 dX11_told_71 (by decide) (fun c6 => ?_) (fun c6 => ?_)
            · refine aw_aload_n hC 0 dX11_told_85 rfl rfl ?_
              refine aw_getP (b := 35) hC hSt 5 (cs_lt 0 11 0 (by decide) hM) (cs_k 0 11 0 (by decide) hM) rfl (by decide) w_684 rfl (cs_p 0 5 35 (by decide) hM) dX11_told_86 ?_
              refine aw_getP (b := 36) hC hSt 0 (cs_lt 35 6 0 (by decide) hM) (cs_k 35 6 0 (by decide) hM) rfl (by decide) w_831 rfl (cs_p 35 0 36 (by decide) hM) dX11_told_89 ?_
              refine aw_iload_n hC 2 dX11_told_92 rfl rfl ?_
              refine aw_cV1r hC hSt (t_X1_tell G l hM _ _ (by decide)) w_125 w_803 w_804 w_805 w_84 rfl rfl (by decide +kernel) ⟨Nat.le_of_ble_eq_true rfl, Nat.le_of_ble_eq_true rfl⟩ (cs_lt 36 1 0 (by decide) hM) (cs_k 36 1 0 (by decide) hM) rfl (Nat.le_of_ble_eq_true rfl) dX11_told_93 ⟨Nat.zero_le _, Nat.zero_le _⟩ ?_
              refine aw_i2l hC dX11_told_96 ?_
              simp only [bd_def, if_neg c6] at Jc6 ⊢
              exact Jc6
            · refine aw_aload_n hC 0 dX11_told_74 rfl rfl ?_
              refine aw_getP (b := 35) hC hSt 5 (cs_lt 0 11 0 (by decide) hM) (cs_k 0 11 0 (by decide) hM) rfl (by decide) w_684 rfl (cs_p 0 5 35 (by decide) hM) dX11_told_75 ?_
              refine aw_getI hC hSt 3 (cs_lt 35 6 0 (by decide) hM) (cs_k 35 6 0 (by decide) hM) rfl (by decide) w_830 rfl dX11_told_78 ?_
              refine aw_i2l hC dX11_told_81 ?_
              refine aw_goto hC 97 dX11_told_82 (by decide) ?_
              simp only [bd_def, if_pos c6] at Jc6 ⊢
              exact Jc6
        · refine aw_aload_n hC 0 dX11_told_59 rfl rfl ?_
          refine aw_getP (b := 35) hC hSt 5 (cs_lt 0 11 0 (by decide) hM) (cs_k 0 11 0 (by decide) hM) rfl (by decide) w_684 rfl (cs_p 0 5 35 (by decide) hM) dX11_told_60 ?_
          refine aw_getI hC hSt 2 (cs_lt 35 6 0 (by decide) hM) (cs_k 35 6 0 (by decide) hM) rfl (by decide) w_829 rfl dX11_told_63 ?_
          refine aw_i2l hC dX11_told_66 ?_
          refine aw_lret hC dX11_told_67 (Nat.le_refl _) (Nat.le_refl _) ?_
          exact FP.qJ ((if_neg c1).trans ((if_pos c2).trans ((if_neg c3).trans ((bd_eq er4).trans ((if_pos c5).trans (rfl))))))
      · refine aw_ldc2 (v := -9000000000000000001) hC w_710 dX11_told_37 ?_
        refine aw_lret hC dX11_told_40 (Nat.le_refl _) (Nat.le_refl _) ?_
        exact FP.qJ ((if_neg c1).trans ((if_pos c2).trans ((if_pos c3).trans (rfl))))
    · refine aw_aload_n hC 0 dX11_told_19 rfl rfl ?_
      refine aw_iload_n hC 1 dX11_told_20 rfl rfl ?_
      refine aw_cV1r hC hSt (t_X11_hasAct G l hM _ (h1 c1 c2)) w_769 w_774 w_775 w_776 w_517 rfl rfl (by decide +kernel) ⟨Nat.le_of_ble_eq_true rfl, Nat.le_of_ble_eq_true rfl⟩ (cs_lt 0 11 0 (by decide) hM) (cs_k 0 11 0 (by decide) hM) rfl (Nat.le_of_ble_eq_true rfl) dX11_told_21 ⟨Nat.zero_le _, Nat.zero_le _⟩ ?_
      refine aw_if_eq hC 37 dX11_told_24 (by decide) (fun c8 => ?_) (fun c8 => ?_)
      · refine aw_ldc2 (v := -9000000000000000001) hC w_710 dX11_told_37 ?_
        refine aw_lret hC dX11_told_40 (Nat.le_refl _) (Nat.le_refl _) ?_
        exact FP.qJ ((if_neg c1).trans ((if_neg c2).trans ((if_pos c8).trans (rfl))))
      · refine aw_iload_n hC 2 dX11_told_27 rfl rfl ?_
        refine aw_iconst (v := 0) hC dX11_told_28 (by decide) ?_
        refine aw_bipush (v := 7) hC dX11_told_29 (by decide) ?_
        refine aw_cS3r hC hSt (t_X11_within G l  _ _ _) w_706 w_712 w_713 w_517 rfl rfl (by decide +kernel) ⟨Nat.le_of_ble_eq_true rfl, Nat.le_of_ble_eq_true rfl⟩ (Nat.le_of_ble_eq_true rfl) dX11_told_31 ⟨Nat.zero_le _, Nat.zero_le _⟩ ?_
        refine aw_if_ne hC 41 dX11_told_34 (by decide) (fun c9 => ?_) (fun c9 => ?_)
        · refine aw_aload_n hC 0 dX11_told_41 rfl rfl ?_
          refine aw_getP (b := 35) hC hSt 5 (cs_lt 0 11 0 (by decide) hM) (cs_k 0 11 0 (by decide) hM) rfl (by decide) w_684 rfl (cs_p 0 5 35 (by decide) hM) dX11_told_42 ?_
          refine aw_aload_n hC 0 dX11_told_45 rfl rfl ?_
          refine aw_getP (b := 18) hC hSt 2 (cs_lt 0 11 0 (by decide) hM) (cs_k 0 11 0 (by decide) hM) rfl (by decide) w_678 rfl (cs_p 0 2 18 (by decide) hM) dX11_told_46 ?_
          refine aw_iload_n hC 1 dX11_told_49 rfl rfl ?_
          refine aw_cV2v hC hSt (t_X6_run G l hM _ _ (by decide) (h2 c1 c2 c8 c9)) w_568 w_832 w_833 w_834 w_540 rfl rfl (by decide +kernel) ⟨Nat.le_of_ble_eq_true rfl, Nat.le_of_ble_eq_true rfl⟩ (cs_lt 35 6 0 (by decide) hM) (cs_k 35 6 0 (by decide) hM) rfl (Nat.le_of_ble_eq_true rfl) dX11_told_50 ⟨Nat.zero_le _, Nat.zero_le _⟩ ?_
          generalize er10 : f_X6_run S 35 18 a1 = r10
          have hM : CS r10 := CS.of (by rw [← er10]; exact q_X6_run _ _ _ _) hM
          refine aw_iload_n hC 2 dX11_told_53 rfl rfl ?_
          refine aw_bipush (v := 6) hC dX11_told_54 (by decide) ?_
          refine aw_icmp_ne hC 68 dX11_told_56 (by decide) (fun c11 => ?_) (fun c11 => ?_)
          · refine aw_iload_n hC 2 dX11_told_68 rfl rfl ?_
            refine aw_bipush (v := 7) hC dX11_told_69 (by decide) ?_
            refine aw_cut (S' := r10) (pc' := 97) (lv' := [(0, .ref 0), (1, .int a1), (2, .int a2)]) (st' := [.long (if a2 = (7 : Int32) then (gI r10 35 3).toInt64 else (f_X1_tell r10 36 a2).toInt64)]) ?_ (fun Jc12 => ?_)
            · generalize ex13 : (if a2 = (7 : Int32) then (gI r10 35 3).toInt64 else (f_X1_tell r10 36 a2).toInt64) = x13
              refine aw_lret hC dX11_told_97 (Nat.le_refl _) (Nat.le_refl _) ?_
              exact FP.qJ ((if_neg c1).trans ((if_neg c2).trans ((if_neg c8).trans ((if_neg c9).trans ((bd_eq er10).trans ((if_neg c11).trans ((bd_eq ex13).trans (rfl))))))))
            · refine aw_icmp_ne hC 85 dX11_told_71 (by decide) (fun c12 => ?_) (fun c12 => ?_)
              · refine aw_aload_n hC 0 dX11_told_85 rfl rfl ?_
                refine aw_getP (b := 35) hC hSt 5 (cs_lt 0 11 0 (by decide) hM) (cs_k 0 11 0 (by decide) hM) rfl (by decide) w_684 rfl (cs_p 0 5 35 (by decide) hM) dX11_told_86 ?_
                refine aw_getP (b := 36) hC hSt 0 (cs_lt 35 6 0 (by decide) hM) (cs_k 35 6 0 (by decide) hM) rfl (by decide) w_831 rfl (cs_p 35 0 36 (by decide) hM) dX11_told_89 ?_
                refine aw_iload_n hC 2 dX11_told_92 rfl rfl ?_
                refine aw_cV1r hC hSt (t_X1_tell G l hM _ _ (by decide)) w_125 w_803 w_804 w_805 w_84 rfl rfl (by decide +kernel) ⟨Nat.le_of_ble_eq_true rfl, Nat.le_of_ble_eq_true rfl⟩ (cs_lt 36 1 0 (by decide) hM) (cs_k 36 1 0 (by decide) hM) rfl (Nat.le_of_ble_eq_true rfl) dX11_told_93 ⟨Nat.zero_le _, Nat.zero_le _⟩ ?_
                refine aw_i2l hC dX11_told_96 ?_
                simp only [bd_def, if_neg c12] at Jc12 ⊢
                exact Jc12
              · refine aw_aload_n hC 0 dX11_told_74 rfl rfl ?_
                refine aw_getP (b := 35) hC hSt 5 (cs_lt 0 11 0 (by decide) hM) (cs_k 0 11 0 (by decide) hM) rfl (by decide) w_684 rfl (cs_p 0 5 35 (by decide) hM) dX11_told_75 ?_
                refine aw_getI hC hSt 3 (cs_lt 35 6 0 (by decide) hM) (cs_k 35 6 0 (by decide) hM) rfl (by decide) w_830 rfl dX11_told_78 ?_
                refine aw_i2l hC dX11_told_81 ?_
                refine aw_goto hC 97 dX11_told_82 (by decide) ?_
                simp only [bd_def, if_pos c12] at Jc12 ⊢
                exact Jc12
          · refine aw_aload_n hC 0 dX11_told_59 rfl rfl ?_
            refine aw_getP (b := 35) hC hSt 5 (cs_lt 0 11 0 (by decide) hM) (cs_k 0 11 0 (by decide) hM) rfl (by decide) w_684 rfl (cs_p 0 5 35 (by decide) hM) dX11_told_60 ?_
            refine aw_getI hC hSt 2 (cs_lt 35 6 0 (by decide) hM) (cs_k 35 6 0 (by decide) hM) rfl (by decide) w_829 rfl dX11_told_63 ?_
            refine aw_i2l hC dX11_told_66 ?_
            refine aw_lret hC dX11_told_67 (Nat.le_refl _) (Nat.le_refl _) ?_
            exact FP.qJ ((if_neg c1).trans ((if_neg c2).trans ((if_neg c8).trans ((if_neg c9).trans ((bd_eq er10).trans ((if_pos c11).trans (rfl)))))))
        · refine aw_ldc2 (v := -9000000000000000001) hC w_710 dX11_told_37 ?_
          refine aw_lret hC dX11_told_40 (Nat.le_refl _) (Nat.le_refl _) ?_
          exact FP.qJ ((if_neg c1).trans ((if_neg c2).trans ((if_neg c8).trans ((if_pos c9).trans (rfl)))))
  · refine aw_ldc2 (v := -9000000000000000002) hC w_785 dX11_told_10 ?_
    refine aw_lret hC dX11_told_13 (Nat.le_refl _) (Nat.le_refl _) ?_
    exact FP.qJ ((if_pos c1).trans (rfl))
theorem q_X11_told (S : HSt) (_o0 : Nat) (a1 : Int32) (a2 : Int32) : shp ((f_X11_told S _o0 a1 a2).2) = shp S := by
  unfold f_X11_told
  repeat' (first | with_reducible refine shpr1 ?_ | with_reducible rfl | with_reducible refine (q_X6_run _ _ _ _).trans ?_ | with_reducible refine (shp_sI _ _ _ _).trans ?_ | with_reducible refine (shp_sJ _ _ _ _).trans ?_ | with_reducible refine (shp_rI _ _ _).trans ?_ | with_reducible refine shi ?_ ?_ | with_reducible refine shb (fun _ _ => ?_) | with_reducible refine shiP (fun q : Int64 × HSt => q.2) ?_ ?_ | with_reducible refine shbP (fun q : Int64 × HSt => q.2) (fun _ _ => ?_) | (subst_vars; with_reducible rfl) | (subst_vars; with_reducible refine (q_X6_run _ _ _ _).trans ?_) | (subst_vars; with_reducible refine (shp_sI _ _ _ _).trans ?_) | (subst_vars; with_reducible refine (shp_sJ _ _ _ _).trans ?_) | (subst_vars; with_reducible refine (shp_rI _ _ _).trans ?_) | (subst_vars; with_reducible refine shi ?_ ?_) | (subst_vars; with_reducible refine shb (fun _ _ => ?_)))