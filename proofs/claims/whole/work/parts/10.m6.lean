noncomputable def f_X12_show (S : HSt) (_o : Nat) (a1 : Int32) : Int64 × HSt := bd ((sI S 64 0 (0 : Int32))) fun S1 => if (-1 : Int32) ≤ a1 then (if (gI S1 64 7) = 0 then (pr ((-9000000000000000002 : Int64)) (S1)) else (bd (f_X12_seekShows S1 64) fun r4 => bd (r4.1) fun x5 => bd ((if a1 = (-1 : Int32) then x5.toInt64 else (if x5 ≤ a1 then (-1000000 : Int64) else (gI r4.2 80 a1.toNatClampNeg).toInt64))) fun x8 => pr (x8) (r4.2))) else (pr ((-9000000000000000001 : Int64)) (S1))
def p_X12_show (S : HSt) (_o : Nat) (a1 : Int32) : Prop := (∀ S1 : HSt, (sI S 64 0 (0 : Int32)) = S1 → ((-1 : Int32) ≤ a1) → (¬ (gI S1 64 7) = 0) → p_X12_seekShows S1 64) ∧ (∀ S1 : HSt, (sI S 64 0 (0 : Int32)) = S1 → ((-1 : Int32) ≤ a1) → (¬ (gI S1 64 7) = 0) → ∀ r4, f_X12_seekShows S1 64 = r4 → ∀ x5 : Int32, r4.1 = x5 → (¬ a1 = (-1 : Int32)) → (¬ x5 ≤ a1) → vp_in a1 6)
set_option maxRecDepth 100000 in
theorem t_X12_show (G : GG) (l : Launch) {S : HSt} (hM : MS S) (a1 : Int32) (hp : p_X12_show S 64 a1) : AM G l yX12_show cX12_show 3 (some .long) (rmD 3 0 0) 0 0 [.ref 64, .int a1] S (FP (some (.long (f_X12_show S 64 a1).1)) ((f_X12_show S 64 a1).2)) := by
  obtain ⟨h0, h1⟩ := hp
  refine AM.mk (by decide) (Nat.le_of_ble_eq_true rfl) ?_
  intro p e s m below meth c hC hSt _
  refine aw_aload_n hC 0 dX12_show_0 rfl rfl ?_
  refine aw_iconst (v := 0) hC dX12_show_1 (by decide) ?_
  refine aw_putI hC hSt 0 (ms_lt 64 (by decide) hM) (ms_k 64 12 0 (by decide) hM) rfl (by decide) w_955 rfl rfl rfl rfl dX12_show_2 ?_
  generalize eS1 : (sI S 64 0 (0 : Int32)) = S1
  have hM : MS S1 := MS.of (by rw [← eS1]; exact shp_sI _ _ _ _) hM
  refine aw_iload_n hC 1 dX12_show_5 rfl rfl ?_
  refine aw_iconst (v := -1) hC dX12_show_6 (by decide) ?_
  refine aw_icmp_ge hC 14 dX12_show_7 (by decide) (fun c2 => ?_) (fun c2 => ?_)
  · refine aw_aload_n hC 0 dX12_show_14 rfl rfl ?_
    refine aw_getI hC hSt 7 (ms_lt 64 (by decide) hM) (ms_k 64 12 0 (by decide) hM) rfl (by decide) w_1051 rfl dX12_show_15 ?_
    refine aw_if_ne hC 25 dX12_show_18 (by decide) (fun c3 => ?_) (fun c3 => ?_)
    · refine aw_aload_n hC 0 dX12_show_25 rfl rfl ?_
      refine aw_cV0r hC hSt (t_X12_seekShows G l hM  (h0 S1 eS1 c2 c3)) w_1251 w_1256 w_1257 w_1258 w_953 rfl rfl (by decide +kernel) ⟨Nat.le_of_ble_eq_true rfl, Nat.le_of_ble_eq_true rfl⟩ (ms_lt 64 (by decide) hM) (ms_k 64 12 0 (by decide) hM) rfl (Nat.le_of_ble_eq_true rfl) dX12_show_26 ⟨Nat.zero_le _, Nat.zero_le _⟩ ?_
      generalize er4 : f_X12_seekShows S1 64 = r4
      have hM : MS r4.2 := MS.of (by rw [← er4]; exact q_X12_seekShows _ _) hM
      refine aw_istore_n hC [(2, .int _), (0, .ref 64), (1, .int _)] dX12_show_29 rfl (by decide) rfl ?_
      generalize ex5 : r4.1 = x5
      refine aw_iload_n hC 2 dX12_show_30 rfl rfl ?_
      refine aw_iconst (v := -1) hC dX12_show_31 (by decide) ?_
      refine aw_cut (S' := r4.2) (pc' := 58) (lv' := [(2, .int x5), (0, .ref 64), (1, .int a1)]) (st' := [.long (if a1 = (-1 : Int32) then x5.toInt64 else (if x5 ≤ a1 then (-1000000 : Int64) else (gI r4.2 80 a1.toNatClampNeg).toInt64))]) ?_ (fun Jc6 => ?_)
      · generalize ex8 : (if a1 = (-1 : Int32) then x5.toInt64 else (if x5 ≤ a1 then (-1000000 : Int64) else (gI r4.2 80 a1.toNatClampNeg).toInt64)) = x8
        refine aw_lret hC dX12_show_58 (Nat.le_refl _) (Nat.le_refl _) ?_
        exact FP.qJ ((bd_eq eS1).trans ((if_pos c2).trans ((if_neg c3).trans ((bd_eq er4).trans ((bd_eq ex5).trans ((bd_eq ex8).trans (rfl)))))))
      · refine aw_icmp_ne hC 40 dX12_show_32 (by decide) (fun c6 => ?_) (fun c6 => ?_)
        · refine aw_iload_n hC 2 dX12_show_40 rfl rfl ?_
          refine aw_iload_n hC 0 dX12_show_41 rfl rfl ?_
          refine aw_icmp_ge hC 55 dX12_show_42 (by decide) (fun c7 => ?_) (fun c7 => ?_)
          · refine aw_ldc2 (v := -1000000) hC w_1176 dX12_show_55 ?_
            simp only [bd_def, if_neg c6, if_pos c7] at Jc6 ⊢
            exact Jc6
          · refine aw_aload_n hC 1 dX12_show_45 rfl rfl ?_
            refine aw_getP (b := 80) hC hSt 43 (ms_lt 64 (by decide) hM) (ms_k 64 12 0 (by decide) hM) rfl (by decide) w_936 rfl (ms_p 43 80 (by decide) hM) dX12_show_46 ?_
            refine aw_iload_n hC 2 dX12_show_49 rfl rfl ?_
            refine aw_iald hC hSt (ms_lt 80 (by decide) hM) (ms_k 80 14 6 (by decide) hM) (vp_len (n := 6) (ms_l 80 14 6 (by decide) hM) (h1 S1 eS1 c2 c3 r4 er4 x5 ex5 c6 c7)) dX12_show_50 ?_
            refine aw_i2l hC dX12_show_51 ?_
            refine aw_goto hC 58 dX12_show_52 (by decide) ?_
            simp only [bd_def, if_neg c6, if_neg c7] at Jc6 ⊢
            exact Jc6
        · refine aw_iload_n hC 0 dX12_show_35 rfl rfl ?_
          refine aw_i2l hC dX12_show_36 ?_
          refine aw_goto hC 58 dX12_show_37 (by decide) ?_
          simp only [bd_def, if_pos c6] at Jc6 ⊢
          exact Jc6
    · refine aw_ldc2 (v := -9000000000000000002) hC w_1151 dX12_show_21 ?_
      refine aw_lret hC dX12_show_24 (Nat.le_refl _) (Nat.le_refl _) ?_
      exact FP.qJ ((bd_eq eS1).trans ((if_pos c2).trans ((if_pos c3).trans (rfl))))
  · refine aw_ldc2 (v := -9000000000000000001) hC w_957 dX12_show_10 ?_
    refine aw_lret hC dX12_show_13 (Nat.le_refl _) (Nat.le_refl _) ?_
    exact FP.qJ ((bd_eq eS1).trans ((if_neg c2).trans (rfl)))
theorem q_X12_show (S : HSt) (_o : Nat) (a1 : Int32) : shp ((f_X12_show S _o a1).2) = shp S := by
  unfold f_X12_show
  repeat' (first | with_reducible refine shpr1 ?_ | with_reducible rfl | with_reducible refine (q_X12_seekShows _ _).trans ?_ | with_reducible refine (shp_sI _ _ _ _).trans ?_ | with_reducible refine (shp_sJ _ _ _ _).trans ?_ | with_reducible refine shi ?_ ?_ | with_reducible refine shb (fun _ _ => ?_) | with_reducible refine shiP (fun q : Int64 × HSt => q.2) ?_ ?_ | with_reducible refine shbP (fun q : Int64 × HSt => q.2) (fun _ _ => ?_) | (subst_vars; with_reducible rfl) | (subst_vars; with_reducible refine (q_X12_seekShows _ _).trans ?_) | (subst_vars; with_reducible refine (shp_sI _ _ _ _).trans ?_) | (subst_vars; with_reducible refine (shp_sJ _ _ _ _).trans ?_) | (subst_vars; with_reducible refine shi ?_ ?_) | (subst_vars; with_reducible refine shb (fun _ _ => ?_)))
theorem v_X12_show (S : HSt) (_o : Nat) (a1 : Int32) : Fr [(64, 0), (79, 1000), (80, 1000)] S ((f_X12_show S _o a1).2) := by
  unfold f_X12_show
  repeat' (first | with_reducible refine frpr1 ?_ | with_reducible exact Fr.refl _ _ | with_reducible refine Fr.lP (fun q : Int64 × HSt => q.2) (fun _ _ => ?_) | with_reducible refine Fr.iteP (fun q : Int64 × HSt => q.2) ?_ ?_ | with_reducible refine Fr.l1 (fun _ _ => ?_) | with_reducible refine Fr.ite ?_ ?_ | with_reducible refine Fr.sE (by assumption) (by first | decide | simp only [List.mem_cons, List.not_mem_nil, or_false, true_or, or_true, eq_self_iff_true]) ?_ | with_reducible refine Fr.jE (by assumption) ?_ | with_reducible refine Fr.rE (by assumption) (by first | decide | simp only [List.mem_cons, List.not_mem_nil, or_false, true_or, or_true, eq_self_iff_true]) ?_ | with_reducible refine Fr.iE (by assumption) ?_ ?_ | with_reducible refine Fr.tr (w_X12_seekShows _ _ _ (by assumption)) (by first | decide | simp only [List.mem_cons, List.not_mem_nil, or_false, forall_eq_or_imp, forall_eq, true_or, or_true, and_self, eq_self_iff_true]) ?_)
theorem w_X12_show (S : HSt) (_o : Nat) (a1 : Int32) (r : Int64 × HSt) (e : f_X12_show S _o a1 = r) : Fr [(64, 0), (79, 1000), (80, 1000)] S r.2 := by
  rw [← e]
  exact v_X12_show S _o a1
noncomputable def F_X12_skillBy (S : HSt) (_o : Nat) (a1 : Int32) (a2 : Int32) : Int32 × HSt := bd ((((a1 / (10 : Int32)) - (gI S 68 (((6 : Int32) + ((3 : Int32) * a2)) + (1 : Int32)).toNatClampNeg)) - ((gI S 68 ((6 : Int32) + ((3 : Int32) * a2)).toNatClampNeg) / (50 : Int32)))) fun x1 => bd ((if 0 ≤ x1 then x1 else (-x1))) fun x3 => bd ((if (10 : Int32) ≤ x3 then (0 : Int32) else ((10 : Int32) - x3))) fun x5 => bd ((a1 + x5)) fun x6 => bd ((if x6 ≤ (100 : Int32) then x6 else (100 : Int32))) fun x8 => pr (x8) (S)
noncomputable def f_X12_skillBy (S : HSt) (_o : Nat) (a1 : Int32) (a2 : Int32) : Int32 := (F_X12_skillBy S _o a1 a2).1
def p_X12_skillBy (S : HSt) (_o : Nat) (a1 : Int32) (a2 : Int32) : Prop := (vp_in (((6 : Int32) + ((3 : Int32) * a2)) + (1 : Int32)) 172) ∧ (vp_in ((6 : Int32) + ((3 : Int32) * a2)) 172)
set_option maxRecDepth 100000 in
theorem t_X12_skillBy (G : GG) (l : Launch) {S : HSt} (hM : MS S) (a1 : Int32) (a2 : Int32) (hp : p_X12_skillBy S 64 a1 a2) : AM G l yX12_skillBy cX12_skillBy 5 (some .int) (rmD 0 0 0) 0 0 [.ref 64, .int a1, .int a2] S (FP (some (.int (f_X12_skillBy S 64 a1 a2))) (S)) := by
  obtain ⟨h0, h1⟩ := hp
  refine AM.mk (by decide) (Nat.le_of_ble_eq_true rfl) ?_
  intro p e s m below meth c hC hSt _
  refine aw_iload_n hC 1 dX12_skillBy_0 rfl rfl ?_
  refine aw_bipush (v := 10) hC dX12_skillBy_1 (by decide) ?_
  refine aw_idiv hC dX12_skillBy_3 (by decide) ?_
  refine aw_aload_n hC 0 dX12_skillBy_4 rfl rfl ?_
  refine aw_getP (b := 68) hC hSt 5 (ms_lt 64 (by decide) hM) (ms_k 64 12 0 (by decide) hM) rfl (by decide) w_920 rfl (ms_p 5 68 (by decide) hM) dX12_skillBy_5 ?_
  refine aw_bipush (v := 6) hC dX12_skillBy_8 (by decide) ?_
  refine aw_iconst (v := 3) hC dX12_skillBy_10 (by decide) ?_
  refine aw_iload_n hC 2 dX12_skillBy_11 rfl rfl ?_
  refine aw_imul hC dX12_skillBy_12 ?_
  refine aw_iadd hC dX12_skillBy_13 ?_
  refine aw_iconst (v := 1) hC dX12_skillBy_14 (by decide) ?_
  refine aw_iadd hC dX12_skillBy_15 ?_
  refine aw_iald hC hSt (ms_lt 68 (by decide) hM) (ms_k 68 14 172 (by decide) hM) (vp_len (n := 172) (ms_l 68 14 172 (by decide) hM) (h0)) dX12_skillBy_16 ?_
  refine aw_isub hC dX12_skillBy_17 ?_
  refine aw_aload_n hC 0 dX12_skillBy_18 rfl rfl ?_
  refine aw_getP (b := 68) hC hSt 5 (ms_lt 64 (by decide) hM) (ms_k 64 12 0 (by decide) hM) rfl (by decide) w_920 rfl (ms_p 5 68 (by decide) hM) dX12_skillBy_19 ?_
  refine aw_bipush (v := 6) hC dX12_skillBy_22 (by decide) ?_
  refine aw_iconst (v := 3) hC dX12_skillBy_24 (by decide) ?_
  refine aw_iload_n hC 2 dX12_skillBy_25 rfl rfl ?_
  refine aw_imul hC dX12_skillBy_26 ?_
  refine aw_iadd hC dX12_skillBy_27 ?_
  refine aw_iald hC hSt (ms_lt 68 (by decide) hM) (ms_k 68 14 172 (by decide) hM) (vp_len (n := 172) (ms_l 68 14 172 (by decide) hM) (h1)) dX12_skillBy_28 ?_
  refine aw_bipush (v := 50) hC dX12_skillBy_29 (by decide) ?_
  refine aw_idiv hC dX12_skillBy_31 (by decide) ?_
  refine aw_isub hC dX12_skillBy_32 ?_
  refine aw_istore_n hC [(3, .int _), (0, .ref 64), (1, .int _), (2, .int _)] dX12_skillBy_33 rfl (by decide) rfl ?_
  generalize ex1 : (((a1 / (10 : Int32)) - (gI S 68 (((6 : Int32) + ((3 : Int32) * a2)) + (1 : Int32)).toNatClampNeg)) - ((gI S 68 ((6 : Int32) + ((3 : Int32) * a2)).toNatClampNeg) / (50 : Int32))) = x1
  refine aw_iload_n hC 0 dX12_skillBy_34 rfl rfl ?_
  refine aw_cut (S' := S) (pc' := 44) (lv' := [(3, .int x1), (0, .ref 64), (1, .int a1), (2, .int a2)]) (st' := [.int (if 0 ≤ x1 then x1 else (-x1))]) ?_ (fun Jc2 => ?_)
  · generalize ex3 : (if 0 ≤ x1 then x1 else (-x1)) = x3
    refine aw_istore_n hC [(3, .int _), (0, .ref 64), (1, .int _), (2, .int _)] dX12_skillBy_44 rfl (by decide) rfl ?_
    refine aw_iload_n hC 2 dX12_skillBy_45 rfl rfl ?_
    refine aw_iload_n hC 0 dX12_skillBy_46 rfl rfl ?_
    refine aw_bipush (v := 10) hC dX12_skillBy_47 (by decide) ?_
    refine aw_cut (S' := S) (pc' := 60) (lv' := [(3, .int x3), (0, .ref 64), (1, .int a1), (2, .int a2)]) (st' := [.int (if (10 : Int32) ≤ x3 then (0 : Int32) else ((10 : Int32) - x3)), .int a1]) ?_ (fun Jc4 => ?_)
    · generalize ex5 : (if (10 : Int32) ≤ x3 then (0 : Int32) else ((10 : Int32) - x3)) = x5
      refine aw_iadd hC dX12_skillBy_60 ?_
      refine aw_istore hC [(4, .int _), (3, .int _), (0, .ref 64), (1, .int _), (2, .int _)] dX12_skillBy_61 (by decide) rfl ?_
      generalize ex6 : (a1 + x5) = x6
      refine aw_iload hC 0 dX12_skillBy_63 rfl ?_
      refine aw_bipush (v := 100) hC dX12_skillBy_65 (by decide) ?_
      refine aw_cut (S' := S) (pc' := 77) (lv' := [(4, .int x6), (3, .int x3), (0, .ref 64), (1, .int a1), (2, .int a2)]) (st' := [.int (if x6 ≤ (100 : Int32) then x6 else (100 : Int32))]) ?_ (fun Jc7 => ?_)
      · generalize ex8 : (if x6 ≤ (100 : Int32) then x6 else (100 : Int32)) = x8
        refine aw_iret hC dX12_skillBy_77 (Nat.le_refl _) (Nat.le_refl _) ?_
        exact FP.pI ((bd_eq ex1).trans ((bd_eq ex3).trans ((bd_eq ex5).trans ((bd_eq ex6).trans ((bd_eq ex8).trans (rfl))))))
      · refine aw_icmp_le hC 75 dX12_skillBy_67 (by decide) (fun c7 => ?_) (fun c7 => ?_)
        · refine aw_iload hC 0 dX12_skillBy_75 rfl ?_
          simp only [bd_def, if_pos c7] at Jc7 ⊢
          exact Jc7
        · refine aw_bipush (v := 100) hC dX12_skillBy_70 (by decide) ?_
          refine aw_goto hC 77 dX12_skillBy_72 (by decide) ?_
          simp only [bd_def, if_neg c7] at Jc7 ⊢
          exact Jc7
    · refine aw_icmp_ge hC 59 dX12_skillBy_49 (by decide) (fun c4 => ?_) (fun c4 => ?_)
      · refine aw_iconst (v := 0) hC dX12_skillBy_59 (by decide) ?_
        simp only [bd_def, if_pos c4] at Jc4 ⊢
        exact Jc4
      · refine aw_bipush (v := 10) hC dX12_skillBy_52 (by decide) ?_
        refine aw_iload_n hC 0 dX12_skillBy_54 rfl rfl ?_
        refine aw_isub hC dX12_skillBy_55 ?_
        refine aw_goto hC 60 dX12_skillBy_56 (by decide) ?_
        simp only [bd_def, if_neg c4] at Jc4 ⊢
        exact Jc4
  · refine aw_if_ge hC 43 dX12_skillBy_35 (by decide) (fun c2 => ?_) (fun c2 => ?_)
    · refine aw_iload_n hC 0 dX12_skillBy_43 rfl rfl ?_
      simp only [bd_def, if_pos c2] at Jc2 ⊢
      exact Jc2
    · refine aw_iload_n hC 0 dX12_skillBy_38 rfl rfl ?_
      refine aw_ineg hC dX12_skillBy_39 ?_
      refine aw_goto hC 44 dX12_skillBy_40 (by decide) ?_
      simp only [bd_def, if_neg c2] at Jc2 ⊢
      exact Jc2
noncomputable def L_X12_learn_86 : Nat → HSt → Int32 → Int32 → Int32 → Int32 → Int32 → Int32 × Int32 × Int32 × Int32 × Int32 × HSt
  | 0, S, v1, v2, v3, v4, v5 => (v1, v2, v3, v4, v5, S)
  | n + 1, S, v1, v2, v3, v4, v5 =>
    if (gI S 68 (0 : Int32).toNatClampNeg) ≤ v5 then ((pr (v1) (pr (v2) (pr (v3) (pr (v4) (pr (v5) (S))))))) else (if v2 ≤ v4 then ((pr (v1) (pr (v2) (pr (v3) (pr (v4) (pr (v5) (S))))))) else (bd ((f_X12_skillBy S 64 v4 v5)) fun x2012 => bd ((if x2012 ≤ v4 then (gI S 81 v4.toNatClampNeg) else (if (gI S 81 v4.toNatClampNeg) ≤ ((gI S 81 x2012.toNatClampNeg) + (1 : Int32)) then (gI S 81 v4.toNatClampNeg) else ((gI S 81 x2012.toNatClampNeg) + (1 : Int32))))) fun x2015 => bd ((sI S 81 v4.toNatClampNeg x2015)) fun S2016 => L_X12_learn_86 n S2016 v1 v2 v3 v4 (v5 + (1 : Int32))))
def T_X12_learn_86 : Nat → HSt → Int32 → Int32 → Int32 → Int32 → Int32 → Prop
  | 0, _, _, _, _, _, _ => False
  | n + 1, S, v1, v2, v3, v4, v5 => ((¬ (gI S 68 (0 : Int32).toNatClampNeg) ≤ v5) → (¬ v2 ≤ v4) → p_X12_skillBy S 64 v4 v5) ∧ ((¬ (gI S 68 (0 : Int32).toNatClampNeg) ≤ v5) → (¬ v2 ≤ v4) → ∀ x2012 : Int32, (f_X12_skillBy S 64 v4 v5) = x2012 → (x2012 ≤ v4) → vp_in v4 101) ∧ ((¬ (gI S 68 (0 : Int32).toNatClampNeg) ≤ v5) → (¬ v2 ≤ v4) → ∀ x2012 : Int32, (f_X12_skillBy S 64 v4 v5) = x2012 → (¬ x2012 ≤ v4) → vp_in x2012 101) ∧ ((¬ (gI S 68 (0 : Int32).toNatClampNeg) ≤ v5) → (¬ v2 ≤ v4) → ∀ x2012 : Int32, (f_X12_skillBy S 64 v4 v5) = x2012 → (¬ x2012 ≤ v4) → vp_in v4 101) ∧ ((¬ (gI S 68 (0 : Int32).toNatClampNeg) ≤ v5) → (¬ v2 ≤ v4) → ∀ x2012 : Int32, (f_X12_skillBy S 64 v4 v5) = x2012 → (¬ x2012 ≤ v4) → ((gI S 81 v4.toNatClampNeg) ≤ ((gI S 81 x2012.toNatClampNeg) + (1 : Int32))) → vp_in v4 101) ∧ ((¬ (gI S 68 (0 : Int32).toNatClampNeg) ≤ v5) → (¬ v2 ≤ v4) → ∀ x2012 : Int32, (f_X12_skillBy S 64 v4 v5) = x2012 → (¬ x2012 ≤ v4) → (¬ (gI S 81 v4.toNatClampNeg) ≤ ((gI S 81 x2012.toNatClampNeg) + (1 : Int32))) → vp_in x2012 101) ∧ ((¬ (gI S 68 (0 : Int32).toNatClampNeg) ≤ v5) → (¬ v2 ≤ v4) → ∀ x2012 : Int32, (f_X12_skillBy S 64 v4 v5) = x2012 → ∀ x2015 : Int32, (if x2012 ≤ v4 then (gI S 81 v4.toNatClampNeg) else (if (gI S 81 v4.toNatClampNeg) ≤ ((gI S 81 x2012.toNatClampNeg) + (1 : Int32)) then (gI S 81 v4.toNatClampNeg) else ((gI S 81 x2012.toNatClampNeg) + (1 : Int32)))) = x2015 → vp_in v4 101) ∧ ((¬ (gI S 68 (0 : Int32).toNatClampNeg) ≤ v5) → (¬ v2 ≤ v4) → ∀ x2012 : Int32, (f_X12_skillBy S 64 v4 v5) = x2012 → ∀ x2015 : Int32, (if x2012 ≤ v4 then (gI S 81 v4.toNatClampNeg) else (if (gI S 81 v4.toNatClampNeg) ≤ ((gI S 81 x2012.toNatClampNeg) + (1 : Int32)) then (gI S 81 v4.toNatClampNeg) else ((gI S 81 x2012.toNatClampNeg) + (1 : Int32)))) = x2015 → ∀ S2016 : HSt, (sI S 81 v4.toNatClampNeg x2015) = S2016 → T_X12_learn_86 n S2016 v1 v2 v3 v4 (v5 + (1 : Int32)))
theorem qL_X12_learn_86 : ∀ (n : Nat) (S : HSt) (v1 : Int32) (v2 : Int32) (v3 : Int32) (v4 : Int32) (v5 : Int32), shp (L_X12_learn_86 n S v1 v2 v3 v4 v5).2.2.2.2.2 = shp S := by
  intro n
  induction n with
  | zero => intros; rfl
  | succ n ih =>
    intro S v1 v2 v3 v4 v5
    unfold L_X12_learn_86
    repeat' (first | with_reducible refine shpr5 ?_ | with_reducible rfl | with_reducible refine (ih _ _ _ _ _ _).trans ?_ | with_reducible refine (shp_sI _ _ _ _).trans ?_ | with_reducible refine (shp_sJ _ _ _ _).trans ?_ | with_reducible refine shi ?_ ?_ | with_reducible refine shb (fun _ _ => ?_) | with_reducible refine shiP (fun q : Int32 × Int32 × Int32 × Int32 × Int32 × HSt => q.2.2.2.2.2) ?_ ?_ | with_reducible refine shbP (fun q : Int32 × Int32 × Int32 × Int32 × Int32 × HSt => q.2.2.2.2.2) (fun _ _ => ?_) | (subst_vars; with_reducible rfl) | (subst_vars; with_reducible refine (ih _ _ _ _ _ _).trans ?_) | (subst_vars; with_reducible refine (shp_sI _ _ _ _).trans ?_) | (subst_vars; with_reducible refine (shp_sJ _ _ _ _).trans ?_) | (subst_vars; with_reducible refine shi ?_ ?_) | (subst_vars; with_reducible refine shb (fun _ _ => ?_)))
theorem vL_X12_learn_86 : ∀ (n : Nat) (S : HSt) (v1 : Int32) (v2 : Int32) (v3 : Int32) (v4 : Int32) (v5 : Int32), Fr [(81, 1000)] S (L_X12_learn_86 n S v1 v2 v3 v4 v5).2.2.2.2.2 := by
  intro n
  induction n with
  | zero => intros; exact Fr.refl _ _
  | succ n ih =>
    intro S v1 v2 v3 v4 v5
    unfold L_X12_learn_86
    repeat' (first | with_reducible refine frpr5 ?_ | with_reducible exact Fr.refl _ _ | with_reducible refine Fr.lP (fun q : Int32 × Int32 × Int32 × Int32 × Int32 × HSt => q.2.2.2.2.2) (fun _ _ => ?_) | with_reducible refine Fr.iteP (fun q : Int32 × Int32 × Int32 × Int32 × Int32 × HSt => q.2.2.2.2.2) ?_ ?_ | with_reducible refine Fr.l1 (fun _ _ => ?_) | with_reducible refine Fr.ite ?_ ?_ | with_reducible refine Fr.sE (by assumption) (by first | decide | simp only [List.mem_cons, List.not_mem_nil, or_false, true_or, or_true, eq_self_iff_true]) ?_ | with_reducible refine Fr.jE (by assumption) ?_ | with_reducible refine Fr.rE (by assumption) (by first | decide | simp only [List.mem_cons, List.not_mem_nil, or_false, true_or, or_true, eq_self_iff_true]) ?_ | with_reducible refine Fr.iE (by assumption) ?_ ?_ | with_reducible refine Fr.tr (ih _ _ _ _ _ _) (by first | decide | simp only [List.mem_cons, List.not_mem_nil, or_false, forall_eq_or_imp, forall_eq, true_or, or_true, and_self, eq_self_iff_true]) ?_)
theorem wL_X12_learn_86 (n : Nat) (S : HSt) (v1 : Int32) (v2 : Int32) (v3 : Int32) (v4 : Int32) (v5 : Int32) (r : Int32 × Int32 × Int32 × Int32 × Int32 × HSt) (e : L_X12_learn_86 n S v1 v2 v3 v4 v5 = r) : Fr [(81, 1000)] S r.2.2.2.2.2 := by
  rw [← e]
  exact vL_X12_learn_86 n S v1 v2 v3 v4 v5
set_option maxRecDepth 100000 in
theorem l_X12_learn_86 {p : Program} {l : Launch} {e : Env} {s : State} {m : MethodId} {args : Array Value} {below : List Frame} {meth : Method} {c : Code} {G : GG} {Q : State → Prop} (hC : ACx p s m args meth c cX12_learn RX12 7 (some .long)) (hSt : St G s)  : ∀ (n : Nat) (S : HSt) (v1 : Int32) (v2 : Int32) (v3 : Int32) (v4 : Int32) (v5 : Int32), MS S → T_X12_learn_86 n S v1 v2 v3 v4 v5 → AW p l e (rmD 1 0 0) s m args below meth c G 7 Q (L_X12_learn_86 n S v1 v2 v3 v4 v5).2.2.2.2.2 0 0 171 [(0, .ref 64), (1, .int (L_X12_learn_86 n S v1 v2 v3 v4 v5).1), (2, .int (L_X12_learn_86 n S v1 v2 v3 v4 v5).2.1), (3, .int (L_X12_learn_86 n S v1 v2 v3 v4 v5).2.2.1), (4, .int (L_X12_learn_86 n S v1 v2 v3 v4 v5).2.2.2.1), (5, .int (L_X12_learn_86 n S v1 v2 v3 v4 v5).2.2.2.2.1)] [] → AW p l e (rmD 1 0 0) s m args below meth c G 7 Q S 0 0 86 [(0, .ref 64), (1, .int v1), (2, .int v2), (3, .int v3), (4, .int v4), (5, .int v5)] [] := by
  intro n
  induction n with
  | zero => intro S v1 v2 v3 v4 v5 _ hT; exact hT.elim
  | succ n ih =>
    intro S v1 v2 v3 v4 v5 hM hT hk
    unfold T_X12_learn_86 at hT
    obtain ⟨h0, h1, h2, h3, h4, h5, h6, h7⟩ := hT
    refine aw_iload hC 5 dX12_learn_86 rfl ?_
    refine aw_aload_n hC 0 dX12_learn_88 rfl rfl ?_
    refine aw_getP (b := 68) hC hSt 5 (ms_lt 64 (by decide) hM) (ms_k 64 12 0 (by decide) hM) rfl (by decide) w_920 rfl (ms_p 5 68 (by decide) hM) dX12_learn_89 ?_
    refine aw_iconst (v := 0) hC dX12_learn_92 (by decide) ?_
    refine aw_iald hC hSt (ms_lt 68 (by decide) hM) (ms_k 68 14 172 (by decide) hM) (vp_len (n := 172) (ms_l 68 14 172 (by decide) hM) (by unfold vp_in; decide)) dX12_learn_93 ?_
    refine aw_icmp_ge hC 171 dX12_learn_94 (by decide) (fun c2010 => ?_) (fun c2010 => ?_)
    · refine aw_sub [0, 1, 2, 3, 4, 5] rfl ?_
      have E : L_X12_learn_86 (n + 1) S v1 v2 v3 v4 v5 = _ := (if_pos c2010).trans (rfl)
      rw [E] at hk
      exact hk
    · refine aw_iload hC 4 dX12_learn_97 rfl ?_
      refine aw_iload_n hC 2 dX12_learn_99 rfl rfl ?_
      refine aw_icmp_ge hC 171 dX12_learn_100 (by decide) (fun c2011 => ?_) (fun c2011 => ?_)
      · refine aw_sub [0, 1, 2, 3, 4, 5] rfl ?_
        have E : L_X12_learn_86 (n + 1) S v1 v2 v3 v4 v5 = _ := (if_neg c2010).trans ((if_pos c2011).trans (rfl))
        rw [E] at hk
        exact hk
      · refine aw_aload_n hC 0 dX12_learn_103 rfl rfl ?_
        refine aw_iload hC 4 dX12_learn_104 rfl ?_
        refine aw_iload hC 5 dX12_learn_106 rfl ?_
        refine aw_cV2r hC hSt (t_X12_skillBy G l hM _ _ (h0 c2010 c2011)) w_1259 w_1262 w_1263 w_1264 w_953 rfl rfl (by decide +kernel) ⟨Nat.le_of_ble_eq_true rfl, Nat.le_of_ble_eq_true rfl⟩ (ms_lt 64 (by decide) hM) (ms_k 64 12 0 (by decide) hM) rfl (Nat.le_of_ble_eq_true rfl) dX12_learn_108 ⟨Nat.zero_le _, Nat.zero_le _⟩ ?_
        refine aw_istore hC [(6, .int _), (0, .ref 64), (1, .int _), (2, .int _), (3, .int _), (4, .int _), (5, .int _)] dX12_learn_111 (by decide) rfl ?_
        generalize ex2012 : (f_X12_skillBy S 64 v4 v5) = x2012
        refine aw_aload_n hC 1 dX12_learn_113 rfl rfl ?_
        refine aw_getP (b := 81) hC hSt 44 (ms_lt 64 (by decide) hM) (ms_k 64 12 0 (by decide) hM) rfl (by decide) w_937 rfl (ms_p 44 81 (by decide) hM) dX12_learn_114 ?_
        refine aw_iload hC 5 dX12_learn_117 rfl ?_
        refine aw_iload hC 0 dX12_learn_119 rfl ?_
        refine aw_iload hC 5 dX12_learn_121 rfl ?_
        refine aw_cut (S' := S) (pc' := 164) (lv' := [(6, .int x2012), (0, .ref 64), (1, .int v1), (2, .int v2), (3, .int v3), (4, .int v4), (5, .int v5)]) (st' := [.int (if x2012 ≤ v4 then (gI S 81 v4.toNatClampNeg) else (if (gI S 81 v4.toNatClampNeg) ≤ ((gI S 81 x2012.toNatClampNeg) + (1 : Int32)) then (gI S 81 v4.toNatClampNeg) else ((gI S 81 x2012.toNatClampNeg) + (1 : Int32)))), .int v4, .ref 81]) ?_ (fun Jc2013 => ?_)
        · generalize ex2015 : (if x2012 ≤ v4 then (gI S 81 v4.toNatClampNeg) else (if (gI S 81 v4.toNatClampNeg) ≤ ((gI S 81 x2012.toNatClampNeg) + (1 : Int32)) then (gI S 81 v4.toNatClampNeg) else ((gI S 81 x2012.toNatClampNeg) + (1 : Int32)))) = x2015
          refine aw_iast hC hSt (ms_lt 81 (by decide) hM) (ms_k 81 14 101 (by decide) hM) (vp_len (n := 101) (ms_l 81 14 101 (by decide) hM) (h6 c2010 c2011 x2012 ex2012 x2015 ex2015)) dX12_learn_164 ?_
          generalize eS2016 : (sI S 81 v4.toNatClampNeg x2015) = S2016
          have hM : MS S2016 := MS.of (by rw [← eS2016]; exact shp_sI _ _ _ _) hM
          refine aw_iinc (v := (v5 + (1 : Int32))) hC 6 [(5, .int _), (6, .int _), (0, .ref 64), (1, .int _), (2, .int _), (3, .int _), (4, .int _)] dX12_learn_165 rfl rfl (by decide) rfl ?_
          refine aw_goto hC 86 dX12_learn_168 (by decide) ?_
          refine aw_sub [2, 3, 4, 5, 6, 0] rfl ?_
          have hTn := (h7 c2010 c2011 x2012 ex2012 x2015 ex2015 S2016 eS2016)
          have hMn : MS S2016 := hM
          have E : L_X12_learn_86 (n + 1) S v1 v2 v3 v4 v5 = _ := (if_neg c2010).trans ((if_neg c2011).trans ((bd_eq ex2012).trans ((bd_eq ex2015).trans ((bd_eq eS2016).trans (rfl)))))
          rw [E] at hk
          exact ih _ _ _ _ _ _ hMn hTn hk
        · refine aw_icmp_le hC 157 dX12_learn_123 (by decide) (fun c2013 => ?_) (fun c2013 => ?_)
          · refine aw_aload_n hC 1 dX12_learn_157 rfl rfl ?_
            refine aw_getP (b := 81) hC hSt 44 (ms_lt 64 (by decide) hM) (ms_k 64 12 0 (by decide) hM) rfl (by decide) w_937 rfl (ms_p 44 81 (by decide) hM) dX12_learn_158 ?_
            refine aw_iload hC 5 dX12_learn_161 rfl ?_
            refine aw_iald hC hSt (ms_lt 81 (by decide) hM) (ms_k 81 14 101 (by decide) hM) (vp_len (n := 101) (ms_l 81 14 101 (by decide) hM) (h1 c2010 c2011 x2012 ex2012 c2013)) dX12_learn_163 ?_
            simp only [bd_def, if_pos c2013] at Jc2013 ⊢
            exact Jc2013
          · refine aw_aload_n hC 1 dX12_learn_126 rfl rfl ?_
            refine aw_getP (b := 81) hC hSt 44 (ms_lt 64 (by decide) hM) (ms_k 64 12 0 (by decide) hM) rfl (by decide) w_937 rfl (ms_p 44 81 (by decide) hM) dX12_learn_127 ?_
            refine aw_iload hC 0 dX12_learn_130 rfl ?_
            refine aw_iald hC hSt (ms_lt 81 (by decide) hM) (ms_k 81 14 101 (by decide) hM) (vp_len (n := 101) (ms_l 81 14 101 (by decide) hM) (h2 c2010 c2011 x2012 ex2012 c2013)) dX12_learn_132 ?_
            refine aw_iconst (v := 1) hC dX12_learn_133 (by decide) ?_
            refine aw_iadd hC dX12_learn_134 ?_
            refine aw_aload_n hC 1 dX12_learn_135 rfl rfl ?_
            refine aw_getP (b := 81) hC hSt 44 (ms_lt 64 (by decide) hM) (ms_k 64 12 0 (by decide) hM) rfl (by decide) w_937 rfl (ms_p 44 81 (by decide) hM) dX12_learn_136 ?_
            refine aw_iload hC 5 dX12_learn_139 rfl ?_
            refine aw_iald hC hSt (ms_lt 81 (by decide) hM) (ms_k 81 14 101 (by decide) hM) (vp_len (n := 101) (ms_l 81 14 101 (by decide) hM) (h3 c2010 c2011 x2012 ex2012 c2013)) dX12_learn_141 ?_
            refine aw_icmp_ge hC 157 dX12_learn_142 (by decide) (fun c2014 => ?_) (fun c2014 => ?_)
            · refine aw_aload_n hC 1 dX12_learn_157 rfl rfl ?_
              refine aw_getP (b := 81) hC hSt 44 (ms_lt 64 (by decide) hM) (ms_k 64 12 0 (by decide) hM) rfl (by decide) w_937 rfl (ms_p 44 81 (by decide) hM) dX12_learn_158 ?_
              refine aw_iload hC 5 dX12_learn_161 rfl ?_
              refine aw_iald hC hSt (ms_lt 81 (by decide) hM) (ms_k 81 14 101 (by decide) hM) (vp_len (n := 101) (ms_l 81 14 101 (by decide) hM) (h4 c2010 c2011 x2012 ex2012 c2013 c2014)) dX12_learn_163 ?_
              simp only [bd_def, if_neg c2013, if_pos c2014] at Jc2013 ⊢
              exact Jc2013
            · refine aw_aload_n hC 1 dX12_learn_145 rfl rfl ?_
              refine aw_getP (b := 81) hC hSt 44 (ms_lt 64 (by decide) hM) (ms_k 64 12 0 (by decide) hM) rfl (by decide) w_937 rfl (ms_p 44 81 (by decide) hM) dX12_learn_146 ?_
              refine aw_iload hC 0 dX12_learn_149 rfl ?_
              refine aw_iald hC hSt (ms_lt 81 (by decide) hM) (ms_k 81 14 101 (by decide) hM) (vp_len (n := 101) (ms_l 81 14 101 (by decide) hM) (h5 c2010 c2011 x2012 ex2012 c2013 c2014)) dX12_learn_151 ?_
              refine aw_iconst (v := 1) hC dX12_learn_152 (by decide) ?_
              refine aw_iadd hC dX12_learn_153 ?_
              refine aw_goto hC 164 dX12_learn_154 (by decide) ?_
              simp only [bd_def, if_neg c2013, if_neg c2014] at Jc2013 ⊢
              exact Jc2013
noncomputable def L_X12_learn_58 : Nat → HSt → Int32 → Int32 → Int32 → Int32 → Int32 × Int32 × Int32 × Int32 × HSt
  | 0, S, v1, v2, v3, v4 => (v1, v2, v3, v4, S)
  | n + 1, S, v1, v2, v3, v4 =>
    if v4 < 0 then ((pr (v1) (pr (v2) (pr (v3) (pr (v4) (S)))))) else (bd ((if v4 < v2 then (1000 : Int32) else (0 : Int32))) fun x1008 => bd ((sI S 81 v4.toNatClampNeg x1008)) fun S1009 => bd (L_X12_learn_86 1000 S1009 v1 v2 v3 v4 (0 : Int32)) fun r1010 => L_X12_learn_58 n r1010.2.2.2.2.2 r1010.1 r1010.2.1 r1010.2.2.1 (r1010.2.2.2.1 + (-1 : Int32)))
def T_X12_learn_58 : Nat → HSt → Int32 → Int32 → Int32 → Int32 → Prop
  | 0, _, _, _, _, _ => False
  | n + 1, S, v1, v2, v3, v4 => ((¬ v4 < 0) → ∀ x1008 : Int32, (if v4 < v2 then (1000 : Int32) else (0 : Int32)) = x1008 → vp_in v4 101) ∧ ((¬ v4 < 0) → ∀ x1008 : Int32, (if v4 < v2 then (1000 : Int32) else (0 : Int32)) = x1008 → ∀ S1009 : HSt, (sI S 81 v4.toNatClampNeg x1008) = S1009 → T_X12_learn_86 1000 S1009 v1 v2 v3 v4 (0 : Int32)) ∧ ((¬ v4 < 0) → ∀ x1008 : Int32, (if v4 < v2 then (1000 : Int32) else (0 : Int32)) = x1008 → ∀ S1009 : HSt, (sI S 81 v4.toNatClampNeg x1008) = S1009 → ∀ r1010, L_X12_learn_86 1000 S1009 v1 v2 v3 v4 (0 : Int32) = r1010 → T_X12_learn_58 n r1010.2.2.2.2.2 r1010.1 r1010.2.1 r1010.2.2.1 (r1010.2.2.2.1 + (-1 : Int32)))
theorem qL_X12_learn_58 : ∀ (n : Nat) (S : HSt) (v1 : Int32) (v2 : Int32) (v3 : Int32) (v4 : Int32), shp (L_X12_learn_58 n S v1 v2 v3 v4).2.2.2.2 = shp S := by
  intro n
  induction n with
  | zero => intros; rfl
  | succ n ih =>
    intro S v1 v2 v3 v4
    unfold L_X12_learn_58
    repeat' (first | with_reducible refine shpr4 ?_ | with_reducible rfl | with_reducible refine (ih _ _ _ _ _).trans ?_ | with_reducible refine (qL_X12_learn_86 _ _ _ _ _ _ _).trans ?_ | with_reducible refine (shp_sI _ _ _ _).trans ?_ | with_reducible refine (shp_sJ _ _ _ _).trans ?_ | with_reducible refine shi ?_ ?_ | with_reducible refine shb (fun _ _ => ?_) | with_reducible refine shiP (fun q : Int32 × Int32 × Int32 × Int32 × HSt => q.2.2.2.2) ?_ ?_ | with_reducible refine shbP (fun q : Int32 × Int32 × Int32 × Int32 × HSt => q.2.2.2.2) (fun _ _ => ?_) | (subst_vars; with_reducible rfl) | (subst_vars; with_reducible refine (ih _ _ _ _ _).trans ?_) | (subst_vars; with_reducible refine (qL_X12_learn_86 _ _ _ _ _ _ _).trans ?_) | (subst_vars; with_reducible refine (shp_sI _ _ _ _).trans ?_) | (subst_vars; with_reducible refine (shp_sJ _ _ _ _).trans ?_) | (subst_vars; with_reducible refine shi ?_ ?_) | (subst_vars; with_reducible refine shb (fun _ _ => ?_)))
theorem vL_X12_learn_58 : ∀ (n : Nat) (S : HSt) (v1 : Int32) (v2 : Int32) (v3 : Int32) (v4 : Int32), Fr [(81, 1000)] S (L_X12_learn_58 n S v1 v2 v3 v4).2.2.2.2 := by
  intro n
  induction n with
  | zero => intros; exact Fr.refl _ _
  | succ n ih =>
    intro S v1 v2 v3 v4
    unfold L_X12_learn_58
    repeat' (first | with_reducible refine frpr4 ?_ | with_reducible exact Fr.refl _ _ | with_reducible refine Fr.lP (fun q : Int32 × Int32 × Int32 × Int32 × HSt => q.2.2.2.2) (fun _ _ => ?_) | with_reducible refine Fr.iteP (fun q : Int32 × Int32 × Int32 × Int32 × HSt => q.2.2.2.2) ?_ ?_ | with_reducible refine Fr.l1 (fun _ _ => ?_) | with_reducible refine Fr.ite ?_ ?_ | with_reducible refine Fr.sE (by assumption) (by first | decide | simp only [List.mem_cons, List.not_mem_nil, or_false, true_or, or_true, eq_self_iff_true]) ?_ | with_reducible refine Fr.jE (by assumption) ?_ | with_reducible refine Fr.rE (by assumption) (by first | decide | simp only [List.mem_cons, List.not_mem_nil, or_false, true_or, or_true, eq_self_iff_true]) ?_ | with_reducible refine Fr.iE (by assumption) ?_ ?_ | with_reducible refine Fr.tr (ih _ _ _ _ _) (by first | decide | simp only [List.mem_cons, List.not_mem_nil, or_false, forall_eq_or_imp, forall_eq, true_or, or_true, and_self, eq_self_iff_true]) ?_ | with_reducible refine Fr.tr (wL_X12_learn_86 _ _ _ _ _ _ _ _ (by assumption)) (by first | decide | simp only [List.mem_cons, List.not_mem_nil, or_false, forall_eq_or_imp, forall_eq, true_or, or_true, and_self, eq_self_iff_true]) ?_)
theorem wL_X12_learn_58 (n : Nat) (S : HSt) (v1 : Int32) (v2 : Int32) (v3 : Int32) (v4 : Int32) (r : Int32 × Int32 × Int32 × Int32 × HSt) (e : L_X12_learn_58 n S v1 v2 v3 v4 = r) : Fr [(81, 1000)] S r.2.2.2.2 := by
  rw [← e]
  exact vL_X12_learn_58 n S v1 v2 v3 v4
set_option maxRecDepth 100000 in
theorem l_X12_learn_58 {p : Program} {l : Launch} {e : Env} {s : State} {m : MethodId} {args : Array Value} {below : List Frame} {meth : Method} {c : Code} {G : GG} {Q : State → Prop} (hC : ACx p s m args meth c cX12_learn RX12 7 (some .long)) (hSt : St G s)  : ∀ (n : Nat) (S : HSt) (v1 : Int32) (v2 : Int32) (v3 : Int32) (v4 : Int32), MS S → T_X12_learn_58 n S v1 v2 v3 v4 → AW p l e (rmD 1 0 0) s m args below meth c G 7 Q (L_X12_learn_58 n S v1 v2 v3 v4).2.2.2.2 0 0 177 [(0, .ref 64), (1, .int (L_X12_learn_58 n S v1 v2 v3 v4).1), (2, .int (L_X12_learn_58 n S v1 v2 v3 v4).2.1), (3, .int (L_X12_learn_58 n S v1 v2 v3 v4).2.2.1), (4, .int (L_X12_learn_58 n S v1 v2 v3 v4).2.2.2.1)] [] → AW p l e (rmD 1 0 0) s m args below meth c G 7 Q S 0 0 58 [(0, .ref 64), (1, .int v1), (2, .int v2), (3, .int v3), (4, .int v4)] [] := by
  intro n
  induction n with
  | zero => intro S v1 v2 v3 v4 _ hT; exact hT.elim
  | succ n ih =>
    intro S v1 v2 v3 v4 hM hT hk
    unfold T_X12_learn_58 at hT
    obtain ⟨h0, h1, h2⟩ := hT
    refine aw_iload hC 4 dX12_learn_58 rfl ?_
    refine aw_if_lt hC 177 dX12_learn_60 (by decide) (fun c1006 => ?_) (fun c1006 => ?_)
    · refine aw_sub [0, 1, 2, 3, 4] rfl ?_
      have E : L_X12_learn_58 (n + 1) S v1 v2 v3 v4 = _ := (if_pos c1006).trans (rfl)
      rw [E] at hk
      exact hk
    · refine aw_aload_n hC 0 dX12_learn_63 rfl rfl ?_
      refine aw_getP (b := 81) hC hSt 44 (ms_lt 64 (by decide) hM) (ms_k 64 12 0 (by decide) hM) rfl (by decide) w_937 rfl (ms_p 44 81 (by decide) hM) dX12_learn_64 ?_
      refine aw_iload hC 4 dX12_learn_67 rfl ?_
      refine aw_iload hC 4 dX12_learn_69 rfl ?_
      refine aw_iload_n hC 2 dX12_learn_71 rfl rfl ?_
      refine aw_cut (S' := S) (pc' := 82) (lv' := [(0, .ref 64), (1, .int v1), (2, .int v2), (3, .int v3), (4, .int v4)]) (st' := [.int (if v4 < v2 then (1000 : Int32) else (0 : Int32)), .int v4, .ref 81]) ?_ (fun Jc1007 => ?_)
      · generalize ex1008 : (if v4 < v2 then (1000 : Int32) else (0 : Int32)) = x1008
        refine aw_iast hC hSt (ms_lt 81 (by decide) hM) (ms_k 81 14 101 (by decide) hM) (vp_len (n := 101) (ms_l 81 14 101 (by decide) hM) (h0 c1006 x1008 ex1008)) dX12_learn_82 ?_
        generalize eS1009 : (sI S 81 v4.toNatClampNeg x1008) = S1009
        have hM : MS S1009 := MS.of (by rw [← eS1009]; exact shp_sI _ _ _ _) hM
        refine aw_iconst (v := 0) hC dX12_learn_83 (by decide) ?_
        refine aw_istore hC [(5, .int _), (0, .ref 64), (1, .int _), (2, .int _), (3, .int _), (4, .int _)] dX12_learn_84 (by decide) rfl ?_
        refine aw_sub [1, 2, 3, 4, 5, 0] rfl ?_
        refine l_X12_learn_86 hC hSt 1000 _ _ _ _ _ _ hM (h1 c1006 x1008 ex1008 S1009 eS1009) ?_
        generalize er1010 : L_X12_learn_86 1000 S1009 v1 v2 v3 v4 (0 : Int32) = r1010
        have hM : MS r1010.2.2.2.2.2 := MS.of (by rw [← er1010]; exact qL_X12_learn_86 _ _ _ _ _ _ _) hM
        refine aw_iinc (v := (r1010.2.2.2.1 + (-1 : Int32))) hC 4 [(4, .int _), (0, .ref 64), (1, .int _), (2, .int _), (3, .int _), (5, .int _)] dX12_learn_171 rfl rfl (by decide) rfl ?_
        refine aw_goto hC 58 dX12_learn_174 (by decide) ?_
        refine aw_sub [1, 2, 3, 4, 0] rfl ?_
        have hTn := (h2 c1006 x1008 ex1008 S1009 eS1009 r1010 er1010)
        have hMn : MS r1010.2.2.2.2.2 := hM
        have E : L_X12_learn_58 (n + 1) S v1 v2 v3 v4 = _ := (if_neg c1006).trans ((bd_eq ex1008).trans ((bd_eq eS1009).trans ((bd_eq er1010).trans (rfl))))
        rw [E] at hk
        exact ih _ _ _ _ _ hMn hTn hk
      · refine aw_icmp_lt hC 79 dX12_learn_72 (by decide) (fun c1007 => ?_) (fun c1007 => ?_)
        · refine aw_sipush (v := 1000) hC dX12_learn_79 (by decide) ?_
          simp only [bd_def, if_pos c1007] at Jc1007 ⊢
          exact Jc1007
        · refine aw_iconst (v := 0) hC dX12_learn_75 (by decide) ?_
          refine aw_goto hC 82 dX12_learn_76 (by decide) ?_
          simp only [bd_def, if_neg c1007] at Jc1007 ⊢
          exact Jc1007
noncomputable def L_X12_learn_207 : Nat → HSt → Int32 → Int32 → Int32 → Int32 → Int32 → Int32 × Int64 × Int32 × Int32 × Int32 × Int32 × Int32
  | 0, S, v1, v2, v3, v4, v5 => ((1 : Int32), 0, v1, v2, v3, v4, v5)
  | n + 1, S, v1, v2, v3, v4, v5 =>
    if (gI S 68 (0 : Int32).toNatClampNeg) ≤ v5 then ((pr ((0 : Int32)) (pr (0) (pr (v1) (pr (v2) (pr (v3) (pr (v4) (v5)))))))) else (if v4 ≤ 0 then ((pr ((0 : Int32)) (pr (0) (pr (v1) (pr (v2) (pr (v3) (pr (v4) (v5)))))))) else (bd ((f_X12_skillBy S 64 v1 v5)) fun x1012 => if x1012 ≤ v1 then (L_X12_learn_207 n S v1 v2 v3 v4 (v5 + (1 : Int32))) else (if ((gI S 81 x1012.toNatClampNeg) + (1 : Int32)) = v4 then ((pr ((1 : Int32)) (pr (v5.toInt64) (pr (v1) (pr (v2) (pr (v3) (pr (v4) (v5)))))))) else (L_X12_learn_207 n S v1 v2 v3 v4 (v5 + (1 : Int32))))))
def T_X12_learn_207 : Nat → HSt → Int32 → Int32 → Int32 → Int32 → Int32 → Prop
  | 0, _, _, _, _, _, _ => False
  | n + 1, S, v1, v2, v3, v4, v5 => ((¬ (gI S 68 (0 : Int32).toNatClampNeg) ≤ v5) → (¬ v4 ≤ 0) → p_X12_skillBy S 64 v1 v5) ∧ ((¬ (gI S 68 (0 : Int32).toNatClampNeg) ≤ v5) → (¬ v4 ≤ 0) → ∀ x1012 : Int32, (f_X12_skillBy S 64 v1 v5) = x1012 → (x1012 ≤ v1) → T_X12_learn_207 n S v1 v2 v3 v4 (v5 + (1 : Int32))) ∧ ((¬ (gI S 68 (0 : Int32).toNatClampNeg) ≤ v5) → (¬ v4 ≤ 0) → ∀ x1012 : Int32, (f_X12_skillBy S 64 v1 v5) = x1012 → (¬ x1012 ≤ v1) → vp_in x1012 101) ∧ ((¬ (gI S 68 (0 : Int32).toNatClampNeg) ≤ v5) → (¬ v4 ≤ 0) → ∀ x1012 : Int32, (f_X12_skillBy S 64 v1 v5) = x1012 → (¬ x1012 ≤ v1) → (¬ ((gI S 81 x1012.toNatClampNeg) + (1 : Int32)) = v4) → T_X12_learn_207 n S v1 v2 v3 v4 (v5 + (1 : Int32)))
set_option maxRecDepth 100000 in
theorem l_X12_learn_207 {p : Program} {l : Launch} {e : Env} {s : State} {m : MethodId} {args : Array Value} {below : List Frame} {meth : Method} {c : Code} {G : GG} {Post : Option Value → HSt → Prop} (hC : ACx p s m args meth c cX12_learn RX12 7 (some .long)) (hSt : St G s)  : ∀ (n : Nat) (S : HSt) (v1 : Int32) (v2 : Int32) (v3 : Int32) (v4 : Int32) (v5 : Int32), MS S → T_X12_learn_207 n S v1 v2 v3 v4 v5 → ((L_X12_learn_207 n S v1 v2 v3 v4 v5).1 = 1 → Post (some (.long (L_X12_learn_207 n S v1 v2 v3 v4 v5).2.1)) S) → ((L_X12_learn_207 n S v1 v2 v3 v4 v5).1 ≠ 1 → AW p l e (rmD 1 0 0) s m args below meth c G 7 (AQ G below args s 0 0 Post) S 0 0 262 [(0, .ref 64), (1, .int (L_X12_learn_207 n S v1 v2 v3 v4 v5).2.2.1), (2, .int (L_X12_learn_207 n S v1 v2 v3 v4 v5).2.2.2.1), (3, .int (L_X12_learn_207 n S v1 v2 v3 v4 v5).2.2.2.2.1), (4, .int (L_X12_learn_207 n S v1 v2 v3 v4 v5).2.2.2.2.2.1), (5, .int (L_X12_learn_207 n S v1 v2 v3 v4 v5).2.2.2.2.2.2)] []) → AW p l e (rmD 1 0 0) s m args below meth c G 7 (AQ G below args s 0 0 Post) S 0 0 207 [(0, .ref 64), (1, .int v1), (2, .int v2), (3, .int v3), (4, .int v4), (5, .int v5)] [] := by
  intro n
  induction n with
  | zero => intro S v1 v2 v3 v4 v5 _ hT; exact hT.elim
  | succ n ih =>
    intro S v1 v2 v3 v4 v5 hM hT hr hk
    unfold T_X12_learn_207 at hT
    obtain ⟨h0, h1, h2, h3⟩ := hT
    refine aw_iload hC 5 dX12_learn_207 rfl ?_
    refine aw_aload_n hC 0 dX12_learn_209 rfl rfl ?_
    refine aw_getP (b := 68) hC hSt 5 (ms_lt 64 (by decide) hM) (ms_k 64 12 0 (by decide) hM) rfl (by decide) w_920 rfl (ms_p 5 68 (by decide) hM) dX12_learn_210 ?_
    refine aw_iconst (v := 0) hC dX12_learn_213 (by decide) ?_
    refine aw_iald hC hSt (ms_lt 68 (by decide) hM) (ms_k 68 14 172 (by decide) hM) (vp_len (n := 172) (ms_l 68 14 172 (by decide) hM) (by unfold vp_in; decide)) dX12_learn_214 ?_
    refine aw_icmp_ge hC 262 dX12_learn_215 (by decide) (fun c1010 => ?_) (fun c1010 => ?_)
    · refine aw_sub [0, 1, 2, 3, 4, 5] rfl ?_
      have E : L_X12_learn_207 (n + 1) S v1 v2 v3 v4 v5 = _ := (if_pos c1010).trans (rfl)
      rw [E] at hk hr
      exact hk (by show ¬ (0 : Int32) = 1; decide)
    · refine aw_iload hC 4 dX12_learn_218 rfl ?_
      refine aw_if_le hC 262 dX12_learn_220 (by decide) (fun c1011 => ?_) (fun c1011 => ?_)
      · refine aw_sub [0, 1, 2, 3, 4, 5] rfl ?_
        have E : L_X12_learn_207 (n + 1) S v1 v2 v3 v4 v5 = _ := (if_neg c1010).trans ((if_pos c1011).trans (rfl))
        rw [E] at hk hr
        exact hk (by show ¬ (0 : Int32) = 1; decide)
      · refine aw_aload_n hC 0 dX12_learn_223 rfl rfl ?_
        refine aw_iload_n hC 1 dX12_learn_224 rfl rfl ?_
        refine aw_iload hC 5 dX12_learn_225 rfl ?_
        refine aw_cV2r hC hSt (t_X12_skillBy G l hM _ _ (h0 c1010 c1011)) w_1259 w_1262 w_1263 w_1264 w_953 rfl rfl (by decide +kernel) ⟨Nat.le_of_ble_eq_true rfl, Nat.le_of_ble_eq_true rfl⟩ (ms_lt 64 (by decide) hM) (ms_k 64 12 0 (by decide) hM) rfl (Nat.le_of_ble_eq_true rfl) dX12_learn_227 ⟨Nat.zero_le _, Nat.zero_le _⟩ ?_
        refine aw_istore hC [(6, .int _), (0, .ref 64), (1, .int _), (2, .int _), (3, .int _), (4, .int _), (5, .int _)] dX12_learn_230 (by decide) rfl ?_
        generalize ex1012 : (f_X12_skillBy S 64 v1 v5) = x1012
        refine aw_iload hC 0 dX12_learn_232 rfl ?_
        refine aw_iload_n hC 2 dX12_learn_234 rfl rfl ?_
        refine aw_icmp_le hC 256 dX12_learn_235 (by decide) (fun c1013 => ?_) (fun c1013 => ?_)
        · refine aw_iinc (v := (v5 + (1 : Int32))) hC 6 [(5, .int _), (6, .int _), (0, .ref 64), (1, .int _), (2, .int _), (3, .int _), (4, .int _)] dX12_learn_256 rfl rfl (by decide) rfl ?_
          refine aw_goto hC 207 dX12_learn_259 (by decide) ?_
          refine aw_sub [2, 3, 4, 5, 6, 0] rfl ?_
          have hTn := (h1 c1010 c1011 x1012 ex1012 c1013)
          have hMn : MS S := hM
          have E : L_X12_learn_207 (n + 1) S v1 v2 v3 v4 v5 = _ := (if_neg c1010).trans ((if_neg c1011).trans ((bd_eq ex1012).trans ((if_pos c1013).trans (rfl))))
          rw [E] at hk hr
          exact ih _ _ _ _ _ _ hMn hTn hr hk
        · refine aw_aload_n hC 1 dX12_learn_238 rfl rfl ?_
          refine aw_getP (b := 81) hC hSt 44 (ms_lt 64 (by decide) hM) (ms_k 64 12 0 (by decide) hM) rfl (by decide) w_937 rfl (ms_p 44 81 (by decide) hM) dX12_learn_239 ?_
          refine aw_iload hC 0 dX12_learn_242 rfl ?_
          refine aw_iald hC hSt (ms_lt 81 (by decide) hM) (ms_k 81 14 101 (by decide) hM) (vp_len (n := 101) (ms_l 81 14 101 (by decide) hM) (h2 c1010 c1011 x1012 ex1012 c1013)) dX12_learn_244 ?_
          refine aw_iconst (v := 1) hC dX12_learn_245 (by decide) ?_
          refine aw_iadd hC dX12_learn_246 ?_
          refine aw_iload hC 5 dX12_learn_247 rfl ?_
          refine aw_icmp_ne hC 256 dX12_learn_249 (by decide) (fun c1014 => ?_) (fun c1014 => ?_)
          · refine aw_iinc (v := (v5 + (1 : Int32))) hC 6 [(5, .int _), (6, .int _), (0, .ref 64), (1, .int _), (2, .int _), (3, .int _), (4, .int _)] dX12_learn_256 rfl rfl (by decide) rfl ?_
            refine aw_goto hC 207 dX12_learn_259 (by decide) ?_
            refine aw_sub [2, 3, 4, 5, 6, 0] rfl ?_
            have hTn := (h3 c1010 c1011 x1012 ex1012 c1013 c1014)
            have hMn : MS S := hM
            have E : L_X12_learn_207 (n + 1) S v1 v2 v3 v4 v5 = _ := (if_neg c1010).trans ((if_neg c1011).trans ((bd_eq ex1012).trans ((if_neg c1013).trans ((if_neg c1014).trans (rfl)))))
            rw [E] at hk hr
            exact ih _ _ _ _ _ _ hMn hTn hr hk
          · refine aw_iload hC 6 dX12_learn_252 rfl ?_
            refine aw_i2l hC dX12_learn_254 ?_
            refine aw_lret hC dX12_learn_255 (Nat.le_refl _) (Nat.le_refl _) ?_
            have E : L_X12_learn_207 (n + 1) S v1 v2 v3 v4 v5 = _ := (if_neg c1010).trans ((if_neg c1011).trans ((bd_eq ex1012).trans ((if_neg c1013).trans ((if_pos c1014).trans (rfl)))))
            rw [E] at hr
            exact hr rfl
noncomputable def f_X12_learn (S : HSt) (_o : Nat) (a1 : Int32) (a2 : Int32) (a3 : Int32) : Int64 × HSt := bd ((sI S 64 0 (0 : Int32))) fun S1 => if (f_X12_in S1 a1.toInt64 (0 : Int64) (100 : Int64)) = 0 then (pr ((-9000000000000000001 : Int64)) (S1)) else (if (f_X12_in S1 a2.toInt64 (0 : Int64) (100 : Int64)) = 0 then (pr ((-9000000000000000001 : Int64)) (S1)) else (if (f_X12_in S1 a3.toInt64 (0 : Int64) (1 : Int64)) = 0 then (pr ((-9000000000000000001 : Int64)) (S1)) else (if (gI S1 64 7) = 0 then (pr ((-9000000000000000002 : Int64)) (S1)) else (bd (L_X12_learn_58 1000 S1 a1 a2 a3 (100 : Int32)) fun r6 => bd ((gI r6.2.2.2.2 81 r6.1.toNatClampNeg)) fun x7 => if x7 ≤ (30 : Int32) then (if r6.2.2.1 = 0 then (pr (x7.toInt64) (r6.2.2.2.2)) else (bd (L_X12_learn_207 1000 r6.2.2.2.2 r6.1 r6.2.1 r6.2.2.1 x7 (0 : Int32)) fun r10 => if r10.1 = 1 then (pr (r10.2.1) (r6.2.2.2.2)) else (pr ((-1000000 : Int64)) (r6.2.2.2.2)))) else (pr ((-1000000 : Int64)) (r6.2.2.2.2))))))
def p_X12_learn (S : HSt) (_o : Nat) (a1 : Int32) (a2 : Int32) (a3 : Int32) : Prop := (∀ S1 : HSt, (sI S 64 0 (0 : Int32)) = S1 → (¬ (f_X12_in S1 a1.toInt64 (0 : Int64) (100 : Int64)) = 0) → (¬ (f_X12_in S1 a2.toInt64 (0 : Int64) (100 : Int64)) = 0) → (¬ (f_X12_in S1 a3.toInt64 (0 : Int64) (1 : Int64)) = 0) → (¬ (gI S1 64 7) = 0) → T_X12_learn_58 1000 S1 a1 a2 a3 (100 : Int32)) ∧ (∀ S1 : HSt, (sI S 64 0 (0 : Int32)) = S1 → (¬ (f_X12_in S1 a1.toInt64 (0 : Int64) (100 : Int64)) = 0) → (¬ (f_X12_in S1 a2.toInt64 (0 : Int64) (100 : Int64)) = 0) → (¬ (f_X12_in S1 a3.toInt64 (0 : Int64) (1 : Int64)) = 0) → (¬ (gI S1 64 7) = 0) → ∀ r6, L_X12_learn_58 1000 S1 a1 a2 a3 (100 : Int32) = r6 → vp_in r6.1 101) ∧ (∀ S1 : HSt, (sI S 64 0 (0 : Int32)) = S1 → (¬ (f_X12_in S1 a1.toInt64 (0 : Int64) (100 : Int64)) = 0) → (¬ (f_X12_in S1 a2.toInt64 (0 : Int64) (100 : Int64)) = 0) → (¬ (f_X12_in S1 a3.toInt64 (0 : Int64) (1 : Int64)) = 0) → (¬ (gI S1 64 7) = 0) → ∀ r6, L_X12_learn_58 1000 S1 a1 a2 a3 (100 : Int32) = r6 → ∀ x7 : Int32, (gI r6.2.2.2.2 81 r6.1.toNatClampNeg) = x7 → (x7 ≤ (30 : Int32)) → (¬ r6.2.2.1 = 0) → T_X12_learn_207 1000 r6.2.2.2.2 r6.1 r6.2.1 r6.2.2.1 x7 (0 : Int32))
set_option maxRecDepth 100000 in
theorem t_X12_learn (G : GG) (l : Launch) {S : HSt} (hM : MS S) (a1 : Int32) (a2 : Int32) (a3 : Int32) (hp : p_X12_learn S 64 a1 a2 a3) : AM G l yX12_learn cX12_learn 7 (some .long) (rmD 1 0 0) 0 0 [.ref 64, .int a1, .int a2, .int a3] S (FP (some (.long (f_X12_learn S 64 a1 a2 a3).1)) ((f_X12_learn S 64 a1 a2 a3).2)) := by
  obtain ⟨h0, h1, h2⟩ := hp
  refine AM.mk (by decide) (Nat.le_of_ble_eq_true rfl) ?_
  intro p e s m below meth c hC hSt _
  refine aw_aload_n hC 0 dX12_learn_0 rfl rfl ?_
  refine aw_iconst (v := 0) hC dX12_learn_1 (by decide) ?_
  refine aw_putI hC hSt 0 (ms_lt 64 (by decide) hM) (ms_k 64 12 0 (by decide) hM) rfl (by decide) w_955 rfl rfl rfl rfl dX12_learn_2 ?_
  generalize eS1 : (sI S 64 0 (0 : Int32)) = S1
  have hM : MS S1 := MS.of (by rw [← eS1]; exact shp_sI _ _ _ _) hM
  refine aw_iload_n hC 1 dX12_learn_5 rfl rfl ?_
  refine aw_i2l hC dX12_learn_6 ?_
  refine aw_lconst (v := 0) hC dX12_learn_7 (by decide) ?_
  refine aw_ldc2 (v := 100) hC w_1261 dX12_learn_8 ?_
  refine aw_cS3r hC hSt (t_X12_in G l  _ _ _) w_945 w_951 w_952 w_953 rfl rfl (by decide +kernel) ⟨Nat.le_of_ble_eq_true rfl, Nat.le_of_ble_eq_true rfl⟩ (Nat.le_of_ble_eq_true rfl) dX12_learn_11 ⟨Nat.zero_le _, Nat.zero_le _⟩ ?_
  refine aw_if_eq hC 39 dX12_learn_14 (by decide) (fun c2 => ?_) (fun c2 => ?_)
  · refine aw_ldc2 (v := -9000000000000000001) hC w_957 dX12_learn_39 ?_
    refine aw_lret hC dX12_learn_42 (Nat.le_refl _) (Nat.le_refl _) ?_
    exact FP.qJ ((bd_eq eS1).trans ((if_pos c2).trans (rfl)))
  · refine aw_iload_n hC 2 dX12_learn_17 rfl rfl ?_
    refine aw_i2l hC dX12_learn_18 ?_
    refine aw_lconst (v := 0) hC dX12_learn_19 (by decide) ?_
    refine aw_ldc2 (v := 100) hC w_1261 dX12_learn_20 ?_
    refine aw_cS3r hC hSt (t_X12_in G l  _ _ _) w_945 w_951 w_952 w_953 rfl rfl (by decide +kernel) ⟨Nat.le_of_ble_eq_true rfl, Nat.le_of_ble_eq_true rfl⟩ (Nat.le_of_ble_eq_true rfl) dX12_learn_23 ⟨Nat.zero_le _, Nat.zero_le _⟩ ?_
    refine aw_if_eq hC 39 dX12_learn_26 (by decide) (fun c3 => ?_) (fun c3 => ?_)
    · refine aw_ldc2 (v := -9000000000000000001) hC w_957 dX12_learn_39 ?_
      refine aw_lret hC dX12_learn_42 (Nat.le_refl _) (Nat.le_refl _) ?_
      exact FP.qJ ((bd_eq eS1).trans ((if_neg c2).trans ((if_pos c3).trans (rfl))))
    · refine aw_iload_n hC 3 dX12_learn_29 rfl rfl ?_
      refine aw_i2l hC dX12_learn_30 ?_
      refine aw_lconst (v := 0) hC dX12_learn_31 (by decide) ?_
      refine aw_lconst (v := 1) hC dX12_learn_32 (by decide) ?_
      refine aw_cS3r hC hSt (t_X12_in G l  _ _ _) w_945 w_951 w_952 w_953 rfl rfl (by decide +kernel) ⟨Nat.le_of_ble_eq_true rfl, Nat.le_of_ble_eq_true rfl⟩ (Nat.le_of_ble_eq_true rfl) dX12_learn_33 ⟨Nat.zero_le _, Nat.zero_le _⟩ ?_
      refine aw_if_ne hC 43 dX12_learn_36 (by decide) (fun c4 => ?_) (fun c4 => ?_)
      · refine aw_aload_n hC 0 dX12_learn_43 rfl rfl ?_
        refine aw_getI hC hSt 7 (ms_lt 64 (by decide) hM) (ms_k 64 12 0 (by decide) hM) rfl (by decide) w_1051 rfl dX12_learn_44 ?_
        refine aw_if_ne hC 54 dX12_learn_47 (by decide) (fun c5 => ?_) (fun c5 => ?_)
        · refine aw_bipush (v := 100) hC dX12_learn_54 (by decide) ?_
          refine aw_istore hC [(4, .int _), (0, .ref 64), (1, .int _), (2, .int _), (3, .int _)] dX12_learn_56 (by decide) rfl ?_
          refine aw_sub [1, 2, 3, 4, 0] rfl ?_
          refine l_X12_learn_58 hC hSt 1000 _ _ _ _ _ hM (h0 S1 eS1 c2 c3 c4 c5) ?_
          generalize er6 : L_X12_learn_58 1000 S1 a1 a2 a3 (100 : Int32) = r6
          have hM : MS r6.2.2.2.2 := MS.of (by rw [← er6]; exact qL_X12_learn_58 _ _ _ _ _ _) hM
          refine aw_aload_n hC 0 dX12_learn_177 rfl rfl ?_
          refine aw_getP (b := 81) hC hSt 44 (ms_lt 64 (by decide) hM) (ms_k 64 12 0 (by decide) hM) rfl (by decide) w_937 rfl (ms_p 44 81 (by decide) hM) dX12_learn_178 ?_
          refine aw_iload_n hC 1 dX12_learn_181 rfl rfl ?_
          refine aw_iald hC hSt (ms_lt 81 (by decide) hM) (ms_k 81 14 101 (by decide) hM) (vp_len (n := 101) (ms_l 81 14 101 (by decide) hM) (h1 S1 eS1 c2 c3 c4 c5 r6 er6)) dX12_learn_182 ?_
          refine aw_istore hC [(4, .int _), (0, .ref 64), (1, .int _), (2, .int _), (3, .int _)] dX12_learn_183 (by decide) rfl ?_
          generalize ex7 : (gI r6.2.2.2.2 81 r6.1.toNatClampNeg) = x7
          refine aw_iload hC 0 dX12_learn_185 rfl ?_
          refine aw_bipush (v := 30) hC dX12_learn_187 (by decide) ?_
          refine aw_icmp_le hC 196 dX12_learn_189 (by decide) (fun c8 => ?_) (fun c8 => ?_)
          · refine aw_iload_n hC 4 dX12_learn_196 rfl rfl ?_
            refine aw_if_ne hC 204 dX12_learn_197 (by decide) (fun c9 => ?_) (fun c9 => ?_)
            · refine aw_iconst (v := 0) hC dX12_learn_204 (by decide) ?_
              refine aw_istore hC [(5, .int _), (4, .int _), (0, .ref 64), (1, .int _), (2, .int _), (3, .int _)] dX12_learn_205 (by decide) rfl ?_
              refine aw_sub [2, 3, 4, 5, 1, 0] rfl ?_
              refine l_X12_learn_207 hC hSt 1000 _ _ _ _ _ _ hM (h2 S1 eS1 c2 c3 c4 c5 r6 er6 x7 ex7 c8 c9) (fun c11 => ?_) (fun c11 => ?_)
              · revert c11
                generalize er10 : L_X12_learn_207 1000 r6.2.2.2.2 r6.1 r6.2.1 r6.2.2.1 x7 (0 : Int32) = r10
                intro c11
                exact FP.qJ ((bd_eq eS1).trans ((if_neg c2).trans ((if_neg c3).trans ((if_neg c4).trans ((if_neg c5).trans ((bd_eq er6).trans ((bd_eq ex7).trans ((if_pos c8).trans ((if_neg c9).trans ((bd_eq er10).trans ((if_pos c11).trans (rfl))))))))))))
              · revert c11
                generalize er10 : L_X12_learn_207 1000 r6.2.2.2.2 r6.1 r6.2.1 r6.2.2.1 x7 (0 : Int32) = r10
                intro c11
                refine aw_ldc2 (v := -1000000) hC w_1176 dX12_learn_262 ?_
                refine aw_lret hC dX12_learn_265 (Nat.le_refl _) (Nat.le_refl _) ?_
                exact FP.qJ ((bd_eq eS1).trans ((if_neg c2).trans ((if_neg c3).trans ((if_neg c4).trans ((if_neg c5).trans ((bd_eq er6).trans ((bd_eq ex7).trans ((if_pos c8).trans ((if_neg c9).trans ((bd_eq er10).trans ((if_neg c11).trans (rfl))))))))))))
            · refine aw_iload hC 0 dX12_learn_200 rfl ?_
              refine aw_i2l hC dX12_learn_202 ?_
              refine aw_lret hC dX12_learn_203 (Nat.le_refl _) (Nat.le_refl _) ?_
              exact FP.qJ ((bd_eq eS1).trans ((if_neg c2).trans ((if_neg c3).trans ((if_neg c4).trans ((if_neg c5).trans ((bd_eq er6).trans ((bd_eq ex7).trans ((if_pos c8).trans ((if_pos c9).trans (rfl))))))))))
          · refine aw_ldc2 (v := -1000000) hC w_1176 dX12_learn_192 ?_
            refine aw_lret hC dX12_learn_195 (Nat.le_refl _) (Nat.le_refl _) ?_
            exact FP.qJ ((bd_eq eS1).trans ((if_neg c2).trans ((if_neg c3).trans ((if_neg c4).trans ((if_neg c5).trans ((bd_eq er6).trans ((bd_eq ex7).trans ((if_neg c8).trans (rfl)))))))))
        · refine aw_ldc2 (v := -9000000000000000002) hC w_1151 dX12_learn_50 ?_
          refine aw_lret hC dX12_learn_53 (Nat.le_refl _) (Nat.le_refl _) ?_
          exact FP.qJ ((bd_eq eS1).trans ((if_neg c2).trans ((if_neg c3).trans ((if_neg c4).trans ((if_pos c5).trans (rfl))))))
      · refine aw_ldc2 (v := -9000000000000000001) hC w_957 dX12_learn_39 ?_
        refine aw_lret hC dX12_learn_42 (Nat.le_refl _) (Nat.le_refl _) ?_
        exact FP.qJ ((bd_eq eS1).trans ((if_neg c2).trans ((if_neg c3).trans ((if_pos c4).trans (rfl)))))
theorem q_X12_learn (S : HSt) (_o : Nat) (a1 : Int32) (a2 : Int32) (a3 : Int32) : shp ((f_X12_learn S _o a1 a2 a3).2) = shp S := by
  unfold f_X12_learn
  repeat' (first | with_reducible refine shpr1 ?_ | with_reducible rfl | with_reducible refine (qL_X12_learn_58 _ _ _ _ _ _).trans ?_ | with_reducible refine (qL_X12_learn_86 _ _ _ _ _ _ _).trans ?_ | with_reducible refine (shp_sI _ _ _ _).trans ?_ | with_reducible refine (shp_sJ _ _ _ _).trans ?_ | with_reducible refine shi ?_ ?_ | with_reducible refine shb (fun _ _ => ?_) | with_reducible refine shiP (fun q : Int64 × HSt => q.2) ?_ ?_ | with_reducible refine shbP (fun q : Int64 × HSt => q.2) (fun _ _ => ?_) | (subst_vars; with_reducible rfl) | (subst_vars; with_reducible refine (qL_X12_learn_58 _ _ _ _ _ _).trans ?_) | (subst_vars; with_reducible refine (qL_X12_learn_86 _ _ _ _ _ _ _).trans ?_) | (subst_vars; with_reducible refine (shp_sI _ _ _ _).trans ?_) | (subst_vars; with_reducible refine (shp_sJ _ _ _ _).trans ?_) | (subst_vars; with_reducible refine shi ?_ ?_) | (subst_vars; with_reducible refine shb (fun _ _ => ?_)))
theorem v_X12_learn (S : HSt) (_o : Nat) (a1 : Int32) (a2 : Int32) (a3 : Int32) : Fr [(64, 0), (81, 1000)] S ((f_X12_learn S _o a1 a2 a3).2) := by
  unfold f_X12_learn
  repeat' (first | with_reducible refine frpr1 ?_ | with_reducible exact Fr.refl _ _ | with_reducible refine Fr.lP (fun q : Int64 × HSt => q.2) (fun _ _ => ?_) | with_reducible refine Fr.iteP (fun q : Int64 × HSt => q.2) ?_ ?_ | with_reducible refine Fr.l1 (fun _ _ => ?_) | with_reducible refine Fr.ite ?_ ?_ | with_reducible refine Fr.sE (by assumption) (by first | decide | simp only [List.mem_cons, List.not_mem_nil, or_false, true_or, or_true, eq_self_iff_true]) ?_ | with_reducible refine Fr.jE (by assumption) ?_ | with_reducible refine Fr.rE (by assumption) (by first | decide | simp only [List.mem_cons, List.not_mem_nil, or_false, true_or, or_true, eq_self_iff_true]) ?_ | with_reducible refine Fr.iE (by assumption) ?_ ?_ | with_reducible refine Fr.tr (wL_X12_learn_58 _ _ _ _ _ _ _ (by assumption)) (by first | decide | simp only [List.mem_cons, List.not_mem_nil, or_false, forall_eq_or_imp, forall_eq, true_or, or_true, and_self, eq_self_iff_true]) ?_ | with_reducible refine Fr.tr (wL_X12_learn_86 _ _ _ _ _ _ _ _ (by assumption)) (by first | decide | simp only [List.mem_cons, List.not_mem_nil, or_false, forall_eq_or_imp, forall_eq, true_or, or_true, and_self, eq_self_iff_true]) ?_)
theorem w_X12_learn (S : HSt) (_o : Nat) (a1 : Int32) (a2 : Int32) (a3 : Int32) (r : Int64 × HSt) (e : f_X12_learn S _o a1 a2 a3 = r) : Fr [(64, 0), (81, 1000)] S r.2 := by
  rw [← e]
  exact v_X12_learn S _o a1 a2 a3
noncomputable def L_X12_film_108 : Nat → HSt → Int32 → Int32 → Int32 → Int32 → Int32 → Int32 → Int32 → Int32 × Int32 × Int32 × Int32 × Int32 × Int32 × Int32 × HSt
  | 0, S, v1, v2, v3, v4, v5, v6, v7 => (v1, v2, v3, v4, v5, v6, v7, S)
  | n + 1, S, v1, v2, v3, v4, v5, v6, v7 =>
    if v3 ≤ v7 then ((pr (v1) (pr (v2) (pr (v3) (pr (v4) (pr (v5) (pr (v6) (pr (v7) (S))))))))) else (if v6 = 0 then ((pr (v1) (pr (v2) (pr (v3) (pr (v4) (pr (v5) (pr (v6) (pr (v7) (S))))))))) else (bd ((if (f_X12_isStill S 64) = 0 then (bd (f_X12_doTick S 64 (0 : Int32) ((v5 / (3 : Int32)) + (1 : Int32)) ((4 : Int32) * (v5 - v5 / (3 : Int32) * (3 : Int32))) (-1000000 : Int32)) fun r2015 => r2015) else S)) fun S2016 => bd ((if (gI S2016 64 20) = (gI S2016 67 ((((40 : Int32) * v1) + v2) + v7).toNatClampNeg) then (1 : Int32) else (0 : Int32))) fun x2018 => L_X12_film_108 n S2016 v1 v2 v3 v4 v5 x2018 (v7 + (1 : Int32))))
def T_X12_film_108 : Nat → HSt → Int32 → Int32 → Int32 → Int32 → Int32 → Int32 → Int32 → Prop
  | 0, _, _, _, _, _, _, _, _ => False
  | n + 1, S, v1, v2, v3, v4, v5, v6, v7 => ((¬ v3 ≤ v7) → (¬ v6 = 0) → ((f_X12_isStill S 64) = 0) → p_X12_doTick S 64 (0 : Int32) ((v5 / (3 : Int32)) + (1 : Int32)) ((4 : Int32) * (v5 - v5 / (3 : Int32) * (3 : Int32))) (-1000000 : Int32)) ∧ ((¬ v3 ≤ v7) → (¬ v6 = 0) → ∀ S2016 : HSt, (if (f_X12_isStill S 64) = 0 then (bd (f_X12_doTick S 64 (0 : Int32) ((v5 / (3 : Int32)) + (1 : Int32)) ((4 : Int32) * (v5 - v5 / (3 : Int32) * (3 : Int32))) (-1000000 : Int32)) fun r2015 => r2015) else S) = S2016 → vp_in ((((40 : Int32) * v1) + v2) + v7) 320) ∧ ((¬ v3 ≤ v7) → (¬ v6 = 0) → ∀ S2016 : HSt, (if (f_X12_isStill S 64) = 0 then (bd (f_X12_doTick S 64 (0 : Int32) ((v5 / (3 : Int32)) + (1 : Int32)) ((4 : Int32) * (v5 - v5 / (3 : Int32) * (3 : Int32))) (-1000000 : Int32)) fun r2015 => r2015) else S) = S2016 → ∀ x2018 : Int32, (if (gI S2016 64 20) = (gI S2016 67 ((((40 : Int32) * v1) + v2) + v7).toNatClampNeg) then (1 : Int32) else (0 : Int32)) = x2018 → T_X12_film_108 n S2016 v1 v2 v3 v4 v5 x2018 (v7 + (1 : Int32)))
theorem qL_X12_film_108 : ∀ (n : Nat) (S : HSt) (v1 : Int32) (v2 : Int32) (v3 : Int32) (v4 : Int32) (v5 : Int32) (v6 : Int32) (v7 : Int32), shp (L_X12_film_108 n S v1 v2 v3 v4 v5 v6 v7).2.2.2.2.2.2.2 = shp S := by
  intro n
  induction n with
  | zero => intros; rfl
  | succ n ih =>
    intro S v1 v2 v3 v4 v5 v6 v7
    unfold L_X12_film_108
    repeat' (first | with_reducible refine shpr7 ?_ | with_reducible rfl | with_reducible refine (ih _ _ _ _ _ _ _ _).trans ?_ | with_reducible refine (q_X12_doTick _ _ _ _ _ _).trans ?_ | with_reducible refine (q_X12_finding _ _ _).trans ?_ | with_reducible refine (q_X12_first _ _).trans ?_ | with_reducible refine (shp_sI _ _ _ _).trans ?_ | with_reducible refine (shp_sJ _ _ _ _).trans ?_ | with_reducible refine shi ?_ ?_ | with_reducible refine shb (fun _ _ => ?_) | with_reducible refine shiP (fun q : Int32 × Int32 × Int32 × Int32 × Int32 × Int32 × Int32 × HSt => q.2.2.2.2.2.2.2) ?_ ?_ | with_reducible refine shbP (fun q : Int32 × Int32 × Int32 × Int32 × Int32 × Int32 × Int32 × HSt => q.2.2.2.2.2.2.2) (fun _ _ => ?_) | (subst_vars; with_reducible rfl) | (subst_vars; with_reducible refine (ih _ _ _ _ _ _ _ _).trans ?_) | (subst_vars; with_reducible refine (q_X12_doTick _ _ _ _ _ _).trans ?_) | (subst_vars; with_reducible refine (q_X12_finding _ _ _).trans ?_) | (subst_vars; with_reducible refine (q_X12_first _ _).trans ?_) | (subst_vars; with_reducible refine (shp_sI _ _ _ _).trans ?_) | (subst_vars; with_reducible refine (shp_sJ _ _ _ _).trans ?_) | (subst_vars; with_reducible refine shi ?_ ?_) | (subst_vars; with_reducible refine shb (fun _ _ => ?_)))
theorem vL_X12_film_108 : ∀ (n : Nat) (S : HSt) (v1 : Int32) (v2 : Int32) (v3 : Int32) (v4 : Int32) (v5 : Int32) (v6 : Int32) (v7 : Int32), Fr [(64, 20), (64, 21), (64, 22), (64, 23), (64, 24), (64, 25), (64, 26)] S (L_X12_film_108 n S v1 v2 v3 v4 v5 v6 v7).2.2.2.2.2.2.2 := by
  intro n
  induction n with
  | zero => intros; exact Fr.refl _ _
  | succ n ih =>
    intro S v1 v2 v3 v4 v5 v6 v7
    unfold L_X12_film_108
    repeat' (first | with_reducible refine frpr7 ?_ | with_reducible exact Fr.refl _ _ | with_reducible refine Fr.lP (fun q : Int32 × Int32 × Int32 × Int32 × Int32 × Int32 × Int32 × HSt => q.2.2.2.2.2.2.2) (fun _ _ => ?_) | with_reducible refine Fr.iteP (fun q : Int32 × Int32 × Int32 × Int32 × Int32 × Int32 × Int32 × HSt => q.2.2.2.2.2.2.2) ?_ ?_ | with_reducible refine Fr.l1 (fun _ _ => ?_) | with_reducible refine Fr.ite ?_ ?_ | with_reducible refine Fr.sE (by assumption) (by first | decide | simp only [List.mem_cons, List.not_mem_nil, or_false, true_or, or_true, eq_self_iff_true]) ?_ | with_reducible refine Fr.jE (by assumption) ?_ | with_reducible refine Fr.rE (by assumption) (by first | decide | simp only [List.mem_cons, List.not_mem_nil, or_false, true_or, or_true, eq_self_iff_true]) ?_ | with_reducible refine Fr.iE (by assumption) ?_ ?_ | with_reducible refine Fr.tr (ih _ _ _ _ _ _ _ _) (by first | decide | simp only [List.mem_cons, List.not_mem_nil, or_false, forall_eq_or_imp, forall_eq, true_or, or_true, and_self, eq_self_iff_true]) ?_ | with_reducible refine Fr.tr (w_X12_doTick _ _ _ _ _ _ _ (by assumption)) (by first | decide | simp only [List.mem_cons, List.not_mem_nil, or_false, forall_eq_or_imp, forall_eq, true_or, or_true, and_self, eq_self_iff_true]) ?_ | with_reducible refine Fr.tr (w_X12_finding _ _ _ _ (by assumption)) (by first | decide | simp only [List.mem_cons, List.not_mem_nil, or_false, forall_eq_or_imp, forall_eq, true_or, or_true, and_self, eq_self_iff_true]) ?_ | with_reducible refine Fr.tr (w_X12_first _ _ _ (by assumption)) (by first | decide | simp only [List.mem_cons, List.not_mem_nil, or_false, forall_eq_or_imp, forall_eq, true_or, or_true, and_self, eq_self_iff_true]) ?_)
theorem wL_X12_film_108 (n : Nat) (S : HSt) (v1 : Int32) (v2 : Int32) (v3 : Int32) (v4 : Int32) (v5 : Int32) (v6 : Int32) (v7 : Int32) (r : Int32 × Int32 × Int32 × Int32 × Int32 × Int32 × Int32 × HSt) (e : L_X12_film_108 n S v1 v2 v3 v4 v5 v6 v7 = r) : Fr [(64, 20), (64, 21), (64, 22), (64, 23), (64, 24), (64, 25), (64, 26)] S r.2.2.2.2.2.2.2 := by
  rw [← e]
  exact vL_X12_film_108 n S v1 v2 v3 v4 v5 v6 v7
set_option maxRecDepth 100000 in
theorem l_X12_film_108 {p : Program} {l : Launch} {e : Env} {s : State} {m : MethodId} {args : Array Value} {below : List Frame} {meth : Method} {c : Code} {G : GG} {Q : State → Prop} (hC : ACx p s m args meth c cX12_film RX12 8 (some .long)) (hSt : St G s)  : ∀ (n : Nat) (S : HSt) (v1 : Int32) (v2 : Int32) (v3 : Int32) (v4 : Int32) (v5 : Int32) (v6 : Int32) (v7 : Int32), MS S → T_X12_film_108 n S v1 v2 v3 v4 v5 v6 v7 → AW p l e (rmD 3 0 0) s m args below meth c G 8 Q (L_X12_film_108 n S v1 v2 v3 v4 v5 v6 v7).2.2.2.2.2.2.2 0 0 179 [(0, .ref 64), (1, .int (L_X12_film_108 n S v1 v2 v3 v4 v5 v6 v7).1), (2, .int (L_X12_film_108 n S v1 v2 v3 v4 v5 v6 v7).2.1), (3, .int (L_X12_film_108 n S v1 v2 v3 v4 v5 v6 v7).2.2.1), (4, .int (L_X12_film_108 n S v1 v2 v3 v4 v5 v6 v7).2.2.2.1), (5, .int (L_X12_film_108 n S v1 v2 v3 v4 v5 v6 v7).2.2.2.2.1), (6, .int (L_X12_film_108 n S v1 v2 v3 v4 v5 v6 v7).2.2.2.2.2.1), (7, .int (L_X12_film_108 n S v1 v2 v3 v4 v5 v6 v7).2.2.2.2.2.2.1)] [] → AW p l e (rmD 3 0 0) s m args below meth c G 8 Q S 0 0 108 [(0, .ref 64), (1, .int v1), (2, .int v2), (3, .int v3), (4, .int v4), (5, .int v5), (6, .int v6), (7, .int v7)] [] := by
  intro n
  induction n with
  | zero => intro S v1 v2 v3 v4 v5 v6 v7 _ hT; exact hT.elim
  | succ n ih =>
    intro S v1 v2 v3 v4 v5 v6 v7 hM hT hk
    unfold T_X12_film_108 at hT
    obtain ⟨h0, h1, h2⟩ := hT
    refine aw_iload hC 7 dX12_film_108 rfl ?_
    refine aw_iload_n hC 3 dX12_film_110 rfl rfl ?_
    refine aw_icmp_ge hC 179 dX12_film_111 (by decide) (fun c2012 => ?_) (fun c2012 => ?_)
    · refine aw_sub [0, 1, 2, 3, 4, 5, 6, 7] rfl ?_
      have E : L_X12_film_108 (n + 1) S v1 v2 v3 v4 v5 v6 v7 = _ := (if_pos c2012).trans (rfl)
      rw [E] at hk
      exact hk
    · refine aw_iload hC 6 dX12_film_114 rfl ?_
      refine aw_if_eq hC 179 dX12_film_116 (by decide) (fun c2013 => ?_) (fun c2013 => ?_)
      · refine aw_sub [0, 1, 2, 3, 4, 5, 6, 7] rfl ?_
        have E : L_X12_film_108 (n + 1) S v1 v2 v3 v4 v5 v6 v7 = _ := (if_neg c2012).trans ((if_pos c2013).trans (rfl))
        rw [E] at hk
        exact hk
      · refine aw_aload_n hC 0 dX12_film_119 rfl rfl ?_
        refine aw_cV0r hC hSt (t_X12_isStill G l hM ) w_1099 w_1118 w_1119 w_1120 w_953 rfl rfl (by decide +kernel) ⟨Nat.le_of_ble_eq_true rfl, Nat.le_of_ble_eq_true rfl⟩ (ms_lt 64 (by decide) hM) (ms_k 64 12 0 (by decide) hM) rfl (Nat.le_of_ble_eq_true rfl) dX12_film_120 ⟨Nat.zero_le _, Nat.zero_le _⟩ ?_
        refine aw_cut (S' := (if (f_X12_isStill S 64) = 0 then (bd (f_X12_doTick S 64 (0 : Int32) ((v5 / (3 : Int32)) + (1 : Int32)) ((4 : Int32) * (v5 - v5 / (3 : Int32) * (3 : Int32))) (-1000000 : Int32)) fun r2015 => r2015) else S)) (pc' := 145) (lv' := [(0, .ref 64), (1, .int v1), (2, .int v2), (3, .int v3), (4, .int v4), (5, .int v5), (6, .int v6), (7, .int v7)]) (st' := []) ?_ (fun Jc2014 => ?_)
        · generalize eS2016 : (if (f_X12_isStill S 64) = 0 then (bd (f_X12_doTick S 64 (0 : Int32) ((v5 / (3 : Int32)) + (1 : Int32)) ((4 : Int32) * (v5 - v5 / (3 : Int32) * (3 : Int32))) (-1000000 : Int32)) fun r2015 => r2015) else S) = S2016
          have hM : MS S2016 := MS.of (by rw [← eS2016]; repeat' (first | with_reducible rfl | with_reducible refine (q_X12_doTick _ _ _ _ _ _).trans ?_ | with_reducible refine (shp_sI _ _ _ _).trans ?_ | with_reducible refine (shp_sJ _ _ _ _).trans ?_ | with_reducible refine shi ?_ ?_ | with_reducible refine shb (fun _ _ => ?_) | (subst_vars; with_reducible rfl) | (subst_vars; with_reducible refine (q_X12_doTick _ _ _ _ _ _).trans ?_) | (subst_vars; with_reducible refine (shp_sI _ _ _ _).trans ?_) | (subst_vars; with_reducible refine (shp_sJ _ _ _ _).trans ?_) | (subst_vars; with_reducible refine shi ?_ ?_) | (subst_vars; with_reducible refine shb (fun _ _ => ?_)))) hM
          refine aw_aload_n hC 0 dX12_film_145 rfl rfl ?_
          refine aw_getI hC hSt 20 (ms_lt 64 (by decide) hM) (ms_k 64 12 0 (by decide) hM) rfl (by decide) w_1032 rfl dX12_film_146 ?_
          refine aw_aload_n hC 0 dX12_film_149 rfl rfl ?_
          refine aw_getP (b := 67) hC hSt 4 (ms_lt 64 (by decide) hM) (ms_k 64 12 0 (by decide) hM) rfl (by decide) w_919 rfl (ms_p 4 67 (by decide) hM) dX12_film_150 ?_
          refine aw_bipush (v := 40) hC dX12_film_153 (by decide) ?_
          refine aw_iload_n hC 1 dX12_film_155 rfl rfl ?_
          refine aw_imul hC dX12_film_156 ?_
          refine aw_iload_n hC 2 dX12_film_157 rfl rfl ?_
          refine aw_iadd hC dX12_film_158 ?_
          refine aw_iload hC 7 dX12_film_159 rfl ?_
          refine aw_iadd hC dX12_film_161 ?_
          refine aw_iald hC hSt (ms_lt 67 (by decide) hM) (ms_k 67 14 320 (by decide) hM) (vp_len (n := 320) (ms_l 67 14 320 (by decide) hM) (h1 c2012 c2013 S2016 eS2016)) dX12_film_162 ?_
          refine aw_cut (S' := S2016) (pc' := 171) (lv' := [(0, .ref 64), (1, .int v1), (2, .int v2), (3, .int v3), (4, .int v4), (5, .int v5), (6, .int v6), (7, .int v7)]) (st' := [.int (if (gI S2016 64 20) = (gI S2016 67 ((((40 : Int32) * v1) + v2) + v7).toNatClampNeg) then (1 : Int32) else (0 : Int32))]) ?_ (fun Jc2017 => ?_)
          · generalize ex2018 : (if (gI S2016 64 20) = (gI S2016 67 ((((40 : Int32) * v1) + v2) + v7).toNatClampNeg) then (1 : Int32) else (0 : Int32)) = x2018
            refine aw_istore hC [(6, .int _), (0, .ref 64), (1, .int _), (2, .int _), (3, .int _), (4, .int _), (5, .int _), (7, .int _)] dX12_film_171 (by decide) rfl ?_
            refine aw_iinc (v := (v7 + (1 : Int32))) hC 7 [(7, .int _), (6, .int _), (0, .ref 64), (1, .int _), (2, .int _), (3, .int _), (4, .int _), (5, .int _)] dX12_film_173 rfl rfl (by decide) rfl ?_
            refine aw_goto hC 108 dX12_film_176 (by decide) ?_
            refine aw_sub [2, 3, 4, 5, 6, 7, 1, 0] rfl ?_
            have hTn := (h2 c2012 c2013 S2016 eS2016 x2018 ex2018)
            have hMn : MS S2016 := hM
            have E : L_X12_film_108 (n + 1) S v1 v2 v3 v4 v5 v6 v7 = _ := (if_neg c2012).trans ((if_neg c2013).trans ((bd_eq eS2016).trans ((bd_eq ex2018).trans (rfl))))
            rw [E] at hk
            exact ih _ _ _ _ _ _ _ _ hMn hTn hk
          · refine aw_icmp_ne hC 170 dX12_film_163 (by decide) (fun c2017 => ?_) (fun c2017 => ?_)
            · refine aw_iconst (v := 0) hC dX12_film_170 (by decide) ?_
              simp only [bd_def, if_neg c2017] at Jc2017 ⊢
              exact Jc2017
            · refine aw_iconst (v := 1) hC dX12_film_166 (by decide) ?_
              refine aw_goto hC 171 dX12_film_167 (by decide) ?_
              simp only [bd_def, if_pos c2017] at Jc2017 ⊢
              exact Jc2017
        · refine aw_if_ne hC 145 dX12_film_123 (by decide) (fun c2014 => ?_) (fun c2014 => ?_)
          · simp only [bd_def, if_neg c2014] at Jc2014 ⊢
            exact Jc2014
          · refine aw_aload_n hC 0 dX12_film_126 rfl rfl ?_
            refine aw_iconst (v := 0) hC dX12_film_127 (by decide) ?_
            refine aw_iload hC 5 dX12_film_128 rfl ?_
            refine aw_iconst (v := 3) hC dX12_film_130 (by decide) ?_
            refine aw_idiv hC dX12_film_131 (by decide) ?_
            refine aw_iconst (v := 1) hC dX12_film_132 (by decide) ?_
            refine aw_iadd hC dX12_film_133 ?_
            refine aw_iconst (v := 4) hC dX12_film_134 (by decide) ?_
            refine aw_iload hC 5 dX12_film_135 rfl ?_
            refine aw_iconst (v := 3) hC dX12_film_137 (by decide) ?_
            refine aw_irem hC dX12_film_138 (by decide) ?_
            refine aw_imul hC dX12_film_139 ?_
            refine aw_ldc (v := -1000000) hC w_923 dX12_film_140 ?_
            refine aw_cV4v hC hSt (t_X12_doTick G l hM _ _ _ _ (h0 c2012 c2013 c2014)) w_1110 w_1155 w_1156 w_1157 w_953 rfl rfl (by decide +kernel) ⟨Nat.le_of_ble_eq_true rfl, Nat.le_of_ble_eq_true rfl⟩ (ms_lt 64 (by decide) hM) (ms_k 64 12 0 (by decide) hM) rfl (Nat.le_of_ble_eq_true rfl) dX12_film_142 ⟨Nat.zero_le _, Nat.zero_le _⟩ ?_
            generalize er2015 : f_X12_doTick S 64 (0 : Int32) ((v5 / (3 : Int32)) + (1 : Int32)) ((4 : Int32) * (v5 - v5 / (3 : Int32) * (3 : Int32))) (-1000000 : Int32) = r2015
            have hM : MS r2015 := MS.of (by rw [← er2015]; exact q_X12_doTick _ _ _ _ _ _) hM
            subst er2015
            simp only [bd_def, if_pos c2014] at Jc2014 ⊢
            exact Jc2014
noncomputable def L_X12_film_91 : Nat → HSt → Int32 → Int32 → Int32 → Int32 → Int32 → Int32 × Int32 × Int32 × Int32 × Int32 × HSt
  | 0, S, v1, v2, v3, v4, v5 => (v1, v2, v3, v4, v5, S)
  | n + 1, S, v1, v2, v3, v4, v5 =>
    if (9 : Int32) ≤ v5 then ((pr (v1) (pr (v2) (pr (v3) (pr (v4) (pr (v5) (S))))))) else (bd (f_X12_first S 64) fun r1011 => bd (L_X12_film_108 1000 r1011 v1 v2 v3 v4 v5 (1 : Int32) (0 : Int32)) fun r1012 => bd ((if r1012.2.2.2.2.2.1 = 0 then (0 : Int32) else ((1 : Int32) <<< (r1012.2.2.2.2.1 &&& 31)))) fun x1014 => bd ((r1012.2.2.2.1 ||| x1014)) fun x1015 => L_X12_film_91 n r1012.2.2.2.2.2.2.2 r1012.1 r1012.2.1 r1012.2.2.1 x1015 (r1012.2.2.2.2.1 + (1 : Int32)))
def T_X12_film_91 : Nat → HSt → Int32 → Int32 → Int32 → Int32 → Int32 → Prop
  | 0, _, _, _, _, _, _ => False
  | n + 1, S, v1, v2, v3, v4, v5 => ((¬ (9 : Int32) ≤ v5) → ∀ r1011, f_X12_first S 64 = r1011 → T_X12_film_108 1000 r1011 v1 v2 v3 v4 v5 (1 : Int32) (0 : Int32)) ∧ ((¬ (9 : Int32) ≤ v5) → ∀ r1011, f_X12_first S 64 = r1011 → ∀ r1012, L_X12_film_108 1000 r1011 v1 v2 v3 v4 v5 (1 : Int32) (0 : Int32) = r1012 → ∀ x1014 : Int32, (if r1012.2.2.2.2.2.1 = 0 then (0 : Int32) else ((1 : Int32) <<< (r1012.2.2.2.2.1 &&& 31))) = x1014 → ∀ x1015 : Int32, (r1012.2.2.2.1 ||| x1014) = x1015 → T_X12_film_91 n r1012.2.2.2.2.2.2.2 r1012.1 r1012.2.1 r1012.2.2.1 x1015 (r1012.2.2.2.2.1 + (1 : Int32)))
theorem qL_X12_film_91 : ∀ (n : Nat) (S : HSt) (v1 : Int32) (v2 : Int32) (v3 : Int32) (v4 : Int32) (v5 : Int32), shp (L_X12_film_91 n S v1 v2 v3 v4 v5).2.2.2.2.2 = shp S := by
  intro n
  induction n with
  | zero => intros; rfl
  | succ n ih =>
    intro S v1 v2 v3 v4 v5
    unfold L_X12_film_91
    repeat' (first | with_reducible refine shpr5 ?_ | with_reducible rfl | with_reducible refine (ih _ _ _ _ _ _).trans ?_ | with_reducible refine (q_X12_doTick _ _ _ _ _ _).trans ?_ | with_reducible refine (q_X12_finding _ _ _).trans ?_ | with_reducible refine (q_X12_first _ _).trans ?_ | with_reducible refine (qL_X12_film_108 _ _ _ _ _ _ _ _ _).trans ?_ | with_reducible refine (shp_sI _ _ _ _).trans ?_ | with_reducible refine (shp_sJ _ _ _ _).trans ?_ | with_reducible refine shi ?_ ?_ | with_reducible refine shb (fun _ _ => ?_) | with_reducible refine shiP (fun q : Int32 × Int32 × Int32 × Int32 × Int32 × HSt => q.2.2.2.2.2) ?_ ?_ | with_reducible refine shbP (fun q : Int32 × Int32 × Int32 × Int32 × Int32 × HSt => q.2.2.2.2.2) (fun _ _ => ?_) | (subst_vars; with_reducible rfl) | (subst_vars; with_reducible refine (ih _ _ _ _ _ _).trans ?_) | (subst_vars; with_reducible refine (q_X12_doTick _ _ _ _ _ _).trans ?_) | (subst_vars; with_reducible refine (q_X12_finding _ _ _).trans ?_) | (subst_vars; with_reducible refine (q_X12_first _ _).trans ?_) | (subst_vars; with_reducible refine (qL_X12_film_108 _ _ _ _ _ _ _ _ _).trans ?_) | (subst_vars; with_reducible refine (shp_sI _ _ _ _).trans ?_) | (subst_vars; with_reducible refine (shp_sJ _ _ _ _).trans ?_) | (subst_vars; with_reducible refine shi ?_ ?_) | (subst_vars; with_reducible refine shb (fun _ _ => ?_)))
theorem vL_X12_film_91 : ∀ (n : Nat) (S : HSt) (v1 : Int32) (v2 : Int32) (v3 : Int32) (v4 : Int32) (v5 : Int32), Fr [(64, 20), (64, 21), (64, 22), (64, 23), (64, 24), (64, 25), (64, 26)] S (L_X12_film_91 n S v1 v2 v3 v4 v5).2.2.2.2.2 := by
  intro n
  induction n with
  | zero => intros; exact Fr.refl _ _
  | succ n ih =>
    intro S v1 v2 v3 v4 v5
    unfold L_X12_film_91
    repeat' (first | with_reducible refine frpr5 ?_ | with_reducible exact Fr.refl _ _ | with_reducible refine Fr.lP (fun q : Int32 × Int32 × Int32 × Int32 × Int32 × HSt => q.2.2.2.2.2) (fun _ _ => ?_) | with_reducible refine Fr.iteP (fun q : Int32 × Int32 × Int32 × Int32 × Int32 × HSt => q.2.2.2.2.2) ?_ ?_ | with_reducible refine Fr.l1 (fun _ _ => ?_) | with_reducible refine Fr.ite ?_ ?_ | with_reducible refine Fr.sE (by assumption) (by first | decide | simp only [List.mem_cons, List.not_mem_nil, or_false, true_or, or_true, eq_self_iff_true]) ?_ | with_reducible refine Fr.jE (by assumption) ?_ | with_reducible refine Fr.rE (by assumption) (by first | decide | simp only [List.mem_cons, List.not_mem_nil, or_false, true_or, or_true, eq_self_iff_true]) ?_ | with_reducible refine Fr.iE (by assumption) ?_ ?_ | with_reducible refine Fr.tr (ih _ _ _ _ _ _) (by first | decide | simp only [List.mem_cons, List.not_mem_nil, or_false, forall_eq_or_imp, forall_eq, true_or, or_true, and_self, eq_self_iff_true]) ?_ | with_reducible refine Fr.tr (w_X12_doTick _ _ _ _ _ _ _ (by assumption)) (by first | decide | simp only [List.mem_cons, List.not_mem_nil, or_false, forall_eq_or_imp, forall_eq, true_or, or_true, and_self, eq_self_iff_true]) ?_ | with_reducible refine Fr.tr (w_X12_finding _ _ _ _ (by assumption)) (by first | decide | simp only [List.mem_cons, List.not_mem_nil, or_false, forall_eq_or_imp, forall_eq, true_or, or_true, and_self, eq_self_iff_true]) ?_ | with_reducible refine Fr.tr (w_X12_first _ _ _ (by assumption)) (by first | decide | simp only [List.mem_cons, List.not_mem_nil, or_false, forall_eq_or_imp, forall_eq, true_or, or_true, and_self, eq_self_iff_true]) ?_ | with_reducible refine Fr.tr (wL_X12_film_108 _ _ _ _ _ _ _ _ _ _ (by assumption)) (by first | decide | simp only [List.mem_cons, List.not_mem_nil, or_false, forall_eq_or_imp, forall_eq, true_or, or_true, and_self, eq_self_iff_true]) ?_)
theorem wL_X12_film_91 (n : Nat) (S : HSt) (v1 : Int32) (v2 : Int32) (v3 : Int32) (v4 : Int32) (v5 : Int32) (r : Int32 × Int32 × Int32 × Int32 × Int32 × HSt) (e : L_X12_film_91 n S v1 v2 v3 v4 v5 = r) : Fr [(64, 20), (64, 21), (64, 22), (64, 23), (64, 24), (64, 25), (64, 26)] S r.2.2.2.2.2 := by
  rw [← e]
  exact vL_X12_film_91 n S v1 v2 v3 v4 v5
set_option maxRecDepth 100000 in
theorem l_X12_film_91 {p : Program} {l : Launch} {e : Env} {s : State} {m : MethodId} {args : Array Value} {below : List Frame} {meth : Method} {c : Code} {G : GG} {Q : State → Prop} (hC : ACx p s m args meth c cX12_film RX12 8 (some .long)) (hSt : St G s)  : ∀ (n : Nat) (S : HSt) (v1 : Int32) (v2 : Int32) (v3 : Int32) (v4 : Int32) (v5 : Int32), MS S → T_X12_film_91 n S v1 v2 v3 v4 v5 → AW p l e (rmD 3 0 0) s m args below meth c G 8 Q (L_X12_film_91 n S v1 v2 v3 v4 v5).2.2.2.2.2 0 0 203 [(0, .ref 64), (1, .int (L_X12_film_91 n S v1 v2 v3 v4 v5).1), (2, .int (L_X12_film_91 n S v1 v2 v3 v4 v5).2.1), (3, .int (L_X12_film_91 n S v1 v2 v3 v4 v5).2.2.1), (4, .int (L_X12_film_91 n S v1 v2 v3 v4 v5).2.2.2.1), (5, .int (L_X12_film_91 n S v1 v2 v3 v4 v5).2.2.2.2.1)] [] → AW p l e (rmD 3 0 0) s m args below meth c G 8 Q S 0 0 91 [(0, .ref 64), (1, .int v1), (2, .int v2), (3, .int v3), (4, .int v4), (5, .int v5)] [] := by
  intro n
  induction n with
  | zero => intro S v1 v2 v3 v4 v5 _ hT; exact hT.elim
  | succ n ih =>
    intro S v1 v2 v3 v4 v5 hM hT hk
    unfold T_X12_film_91 at hT
    obtain ⟨h0, h1⟩ := hT
    refine aw_iload hC 5 dX12_film_91 rfl ?_
    refine aw_bipush (v := 9) hC dX12_film_93 (by decide) ?_
    refine aw_icmp_ge hC 203 dX12_film_95 (by decide) (fun c1010 => ?_) (fun c1010 => ?_)
    · refine aw_sub [0, 1, 2, 3, 4, 5] rfl ?_
      have E : L_X12_film_91 (n + 1) S v1 v2 v3 v4 v5 = _ := (if_pos c1010).trans (rfl)
      rw [E] at hk
      exact hk
    · refine aw_aload_n hC 0 dX12_film_98 rfl rfl ?_
      refine aw_cV0v hC hSt (t_X12_first G l hM ) w_1031 w_1071 w_1072 w_1073 w_953 rfl rfl (by decide +kernel) ⟨Nat.le_of_ble_eq_true rfl, Nat.le_of_ble_eq_true rfl⟩ (ms_lt 64 (by decide) hM) (ms_k 64 12 0 (by decide) hM) rfl (Nat.le_of_ble_eq_true rfl) dX12_film_99 ⟨Nat.zero_le _, Nat.zero_le _⟩ ?_
      generalize er1011 : f_X12_first S 64 = r1011
      have hM : MS r1011 := MS.of (by rw [← er1011]; exact q_X12_first _ _) hM
      refine aw_iconst (v := 1) hC dX12_film_102 (by decide) ?_
      refine aw_istore hC [(6, .int _), (0, .ref 64), (1, .int _), (2, .int _), (3, .int _), (4, .int _), (5, .int _)] dX12_film_103 (by decide) rfl ?_
      refine aw_iconst (v := 0) hC dX12_film_105 (by decide) ?_
      refine aw_istore hC [(7, .int _), (6, .int _), (0, .ref 64), (1, .int _), (2, .int _), (3, .int _), (4, .int _), (5, .int _)] dX12_film_106 (by decide) rfl ?_
      refine aw_sub [2, 3, 4, 5, 6, 7, 1, 0] rfl ?_
      refine l_X12_film_108 hC hSt 1000 _ _ _ _ _ _ _ _ hM (h0 c1010 r1011 er1011) ?_
      generalize er1012 : L_X12_film_108 1000 r1011 v1 v2 v3 v4 v5 (1 : Int32) (0 : Int32) = r1012
      have hM : MS r1012.2.2.2.2.2.2.2 := MS.of (by rw [← er1012]; exact qL_X12_film_108 _ _ _ _ _ _ _ _ _) hM
      refine aw_iload hC 4 dX12_film_179 rfl ?_
      refine aw_iload hC 6 dX12_film_181 rfl ?_
      refine aw_cut (S' := r1012.2.2.2.2.2.2.2) (pc' := 194) (lv' := [(0, .ref 64), (1, .int r1012.1), (2, .int r1012.2.1), (3, .int r1012.2.2.1), (4, .int r1012.2.2.2.1), (5, .int r1012.2.2.2.2.1), (6, .int r1012.2.2.2.2.2.1), (7, .int r1012.2.2.2.2.2.2.1)]) (st' := [.int (if r1012.2.2.2.2.2.1 = 0 then (0 : Int32) else ((1 : Int32) <<< (r1012.2.2.2.2.1 &&& 31))), .int r1012.2.2.2.1]) ?_ (fun Jc1013 => ?_)
      · generalize ex1014 : (if r1012.2.2.2.2.2.1 = 0 then (0 : Int32) else ((1 : Int32) <<< (r1012.2.2.2.2.1 &&& 31))) = x1014
        refine aw_ior hC dX12_film_194 ?_
        refine aw_istore hC [(4, .int _), (0, .ref 64), (1, .int _), (2, .int _), (3, .int _), (5, .int _), (6, .int _), (7, .int _)] dX12_film_195 (by decide) rfl ?_
        generalize ex1015 : (r1012.2.2.2.1 ||| x1014) = x1015
        refine aw_iinc (v := (r1012.2.2.2.2.1 + (1 : Int32))) hC 5 [(5, .int _), (4, .int _), (0, .ref 64), (1, .int _), (2, .int _), (3, .int _), (6, .int _), (7, .int _)] dX12_film_197 rfl rfl (by decide) rfl ?_
        refine aw_goto hC 91 dX12_film_200 (by decide) ?_
        refine aw_sub [2, 3, 4, 5, 1, 0] rfl ?_
        have hTn := (h1 c1010 r1011 er1011 r1012 er1012 x1014 ex1014 x1015 ex1015)
        have hMn : MS r1012.2.2.2.2.2.2.2 := hM
        have E : L_X12_film_91 (n + 1) S v1 v2 v3 v4 v5 = _ := (if_neg c1010).trans ((bd_eq er1011).trans ((bd_eq er1012).trans ((bd_eq ex1014).trans ((bd_eq ex1015).trans (rfl)))))
        rw [E] at hk
        exact ih _ _ _ _ _ _ hMn hTn hk
      · refine aw_if_eq hC 193 dX12_film_183 (by decide) (fun c1013 => ?_) (fun c1013 => ?_)
        · refine aw_iconst (v := 0) hC dX12_film_193 (by decide) ?_
          simp only [bd_def, if_pos c1013] at Jc1013 ⊢
          exact Jc1013
        · refine aw_iconst (v := 1) hC dX12_film_186 (by decide) ?_
          refine aw_iload hC 5 dX12_film_187 rfl ?_
          refine aw_ishl hC dX12_film_189 ?_
          refine aw_goto hC 194 dX12_film_190 (by decide) ?_
          simp only [bd_def, if_neg c1013] at Jc1013 ⊢
          exact Jc1013
noncomputable def f_X12_film (S : HSt) (_o : Nat) (a1 : Int32) (a2 : Int32) (a3 : Int32) : Int64 × HSt := bd ((sI S 64 0 (0 : Int32))) fun S1 => if (f_X12_isRow S1 a1) = 0 then (pr ((-9000000000000000001 : Int64)) (S1)) else (if (f_X12_in S1 a3.toInt64 (1 : Int64) (20 : Int64)) = 0 then (pr ((-9000000000000000001 : Int64)) (S1)) else (if (gI S1 64 7) = 0 then (pr ((-9000000000000000002 : Int64)) (S1)) else (if 0 ≤ (gI S1 65 a1.toNatClampNeg) then (if a2 < 0 then (bd (f_X12_finding S1 64 (2 : Int32)) fun r7 => pr (r7.1) (r7.2)) else (if (lg_cmp (a2.toInt64 + a3.toInt64) (gI S1 66 a1.toNatClampNeg).toInt64) ≤ 0 then (bd ((sI S1 64 1 (0 : Int32))) fun S9 => bd (L_X12_film_91 1000 S9 a1 a2 a3 (0 : Int32) (0 : Int32)) fun r10 => pr (r10.2.2.2.1.toInt64) (r10.2.2.2.2.2)) else (bd (f_X12_finding S1 64 (2 : Int32)) fun r11 => pr (r11.1) (r11.2)))) else (bd (f_X12_finding S1 64 (1 : Int32)) fun r12 => pr (r12.1) (r12.2)))))
def p_X12_film (S : HSt) (_o : Nat) (a1 : Int32) (a2 : Int32) (a3 : Int32) : Prop := (∀ S1 : HSt, (sI S 64 0 (0 : Int32)) = S1 → (¬ (f_X12_isRow S1 a1) = 0) → (¬ (f_X12_in S1 a3.toInt64 (1 : Int64) (20 : Int64)) = 0) → (¬ (gI S1 64 7) = 0) → vp_in a1 8) ∧ (∀ S1 : HSt, (sI S 64 0 (0 : Int32)) = S1 → (¬ (f_X12_isRow S1 a1) = 0) → (¬ (f_X12_in S1 a3.toInt64 (1 : Int64) (20 : Int64)) = 0) → (¬ (gI S1 64 7) = 0) → (0 ≤ (gI S1 65 a1.toNatClampNeg)) → (¬ a2 < 0) → vp_in a1 8) ∧ (∀ S1 : HSt, (sI S 64 0 (0 : Int32)) = S1 → (¬ (f_X12_isRow S1 a1) = 0) → (¬ (f_X12_in S1 a3.toInt64 (1 : Int64) (20 : Int64)) = 0) → (¬ (gI S1 64 7) = 0) → (0 ≤ (gI S1 65 a1.toNatClampNeg)) → (¬ a2 < 0) → ((lg_cmp (a2.toInt64 + a3.toInt64) (gI S1 66 a1.toNatClampNeg).toInt64) ≤ 0) → ∀ S9 : HSt, (sI S1 64 1 (0 : Int32)) = S9 → T_X12_film_91 1000 S9 a1 a2 a3 (0 : Int32) (0 : Int32))
set_option maxRecDepth 100000 in
theorem t_X12_film (G : GG) (l : Launch) {S : HSt} (hM : MS S) (a1 : Int32) (a2 : Int32) (a3 : Int32) (hp : p_X12_film S 64 a1 a2 a3) : AM G l yX12_film cX12_film 8 (some .long) (rmD 3 0 0) 0 0 [.ref 64, .int a1, .int a2, .int a3] S (FP (some (.long (f_X12_film S 64 a1 a2 a3).1)) ((f_X12_film S 64 a1 a2 a3).2)) := by
  obtain ⟨h0, h1, h2⟩ := hp
  refine AM.mk (by decide) (Nat.le_of_ble_eq_true rfl) ?_
  intro p e s m below meth c hC hSt _
  refine aw_aload_n hC 0 dX12_film_0 rfl rfl ?_
  refine aw_iconst (v := 0) hC dX12_film_1 (by decide) ?_
  refine aw_putI hC hSt 0 (ms_lt 64 (by decide) hM) (ms_k 64 12 0 (by decide) hM) rfl (by decide) w_955 rfl rfl rfl rfl dX12_film_2 ?_
  generalize eS1 : (sI S 64 0 (0 : Int32)) = S1
  have hM : MS S1 := MS.of (by rw [← eS1]; exact shp_sI _ _ _ _) hM
  refine aw_iload_n hC 1 dX12_film_5 rfl rfl ?_
  refine aw_cS1r hC hSt (t_X12_isRow G l  _) w_949 w_958 w_959 w_953 rfl rfl (by decide +kernel) ⟨Nat.le_of_ble_eq_true rfl, Nat.le_of_ble_eq_true rfl⟩ (Nat.le_of_ble_eq_true rfl) dX12_film_6 ⟨Nat.zero_le _, Nat.zero_le _⟩ ?_
  refine aw_if_eq hC 24 dX12_film_9 (by decide) (fun c2 => ?_) (fun c2 => ?_)
  · refine aw_ldc2 (v := -9000000000000000001) hC w_957 dX12_film_24 ?_
    refine aw_lret hC dX12_film_27 (Nat.le_refl _) (Nat.le_refl _) ?_
    exact FP.qJ ((bd_eq eS1).trans ((if_pos c2).trans (rfl)))
  · refine aw_iload_n hC 3 dX12_film_12 rfl rfl ?_
    refine aw_i2l hC dX12_film_13 ?_
    refine aw_lconst (v := 1) hC dX12_film_14 (by decide) ?_
    refine aw_ldc2 (v := 20) hC w_1265 dX12_film_15 ?_
    refine aw_cS3r hC hSt (t_X12_in G l  _ _ _) w_945 w_951 w_952 w_953 rfl rfl (by decide +kernel) ⟨Nat.le_of_ble_eq_true rfl, Nat.le_of_ble_eq_true rfl⟩ (Nat.le_of_ble_eq_true rfl) dX12_film_18 ⟨Nat.zero_le _, Nat.zero_le _⟩ ?_
    refine aw_if_ne hC 28 dX12_film_21 (by decide) (fun c3 => ?_) (fun c3 => ?_)
    · refine aw_aload_n hC 0 dX12_film_28 rfl rfl ?_
      refine aw_getI hC hSt 7 (ms_lt 64 (by decide) hM) (ms_k 64 12 0 (by decide) hM) rfl (by decide) w_1051 rfl dX12_film_29 ?_
      refine aw_if_ne hC 39 dX12_film_32 (by decide) (fun c4 => ?_) (fun c4 => ?_)
      · refine aw_aload_n hC 0 dX12_film_39 rfl rfl ?_
        refine aw_getP (b := 65) hC hSt 2 (ms_lt 64 (by decide) hM) (ms_k 64 12 0 (by decide) hM) rfl (by decide) w_917 rfl (ms_p 2 65 (by decide) hM) dX12_film_40 ?_
        refine aw_iload_n hC 1 dX12_film_43 rfl rfl ?_
        refine aw_iald hC hSt (ms_lt 65 (by decide) hM) (ms_k 65 14 8 (by decide) hM) (vp_len (n := 8) (ms_l 65 14 8 (by decide) hM) (h0 S1 eS1 c2 c3 c4)) dX12_film_44 ?_
        refine aw_if_ge hC 54 dX12_film_45 (by decide) (fun c5 => ?_) (fun c5 => ?_)
        · refine aw_iload_n hC 2 dX12_film_54 rfl rfl ?_
          refine aw_if_lt hC 74 dX12_film_55 (by decide) (fun c6 => ?_) (fun c6 => ?_)
          · refine aw_aload_n hC 0 dX12_film_74 rfl rfl ?_
            refine aw_iconst (v := 2) hC dX12_film_75 (by decide) ?_
            refine aw_cV1r hC hSt (t_X12_finding G l hM _) w_946 w_960 w_961 w_962 w_953 rfl rfl (by decide +kernel) ⟨Nat.le_of_ble_eq_true rfl, Nat.le_of_ble_eq_true rfl⟩ (ms_lt 64 (by decide) hM) (ms_k 64 12 0 (by decide) hM) rfl (Nat.le_of_ble_eq_true rfl) dX12_film_76 ⟨Nat.zero_le _, Nat.zero_le _⟩ ?_
            generalize er7 : f_X12_finding S1 64 (2 : Int32) = r7
            have hM : MS r7.2 := MS.of (by rw [← er7]; exact q_X12_finding _ _ _) hM
            refine aw_lret hC dX12_film_79 (Nat.le_refl _) (Nat.le_refl _) ?_
            exact FP.qJ ((bd_eq eS1).trans ((if_neg c2).trans ((if_neg c3).trans ((if_neg c4).trans ((if_pos c5).trans ((if_pos c6).trans ((bd_eq er7).trans (rfl))))))))
          · refine aw_iload_n hC 2 dX12_film_58 rfl rfl ?_
            refine aw_i2l hC dX12_film_59 ?_
            refine aw_iload_n hC 3 dX12_film_60 rfl rfl ?_
            refine aw_i2l hC dX12_film_61 ?_
            refine aw_ladd hC dX12_film_62 ?_
            refine aw_aload_n hC 0 dX12_film_63 rfl rfl ?_
            refine aw_getP (b := 66) hC hSt 3 (ms_lt 64 (by decide) hM) (ms_k 64 12 0 (by decide) hM) rfl (by decide) w_918 rfl (ms_p 3 66 (by decide) hM) dX12_film_64 ?_
            refine aw_iload_n hC 1 dX12_film_67 rfl rfl ?_
            refine aw_iald hC hSt (ms_lt 66 (by decide) hM) (ms_k 66 14 8 (by decide) hM) (vp_len (n := 8) (ms_l 66 14 8 (by decide) hM) (h1 S1 eS1 c2 c3 c4 c5 c6)) dX12_film_68 ?_
            refine aw_i2l hC dX12_film_69 ?_
            refine aw_lcmp hC dX12_film_70 ?_
            refine aw_if_le hC 80 dX12_film_71 (by decide) (fun c8 => ?_) (fun c8 => ?_)
            · refine aw_aload_n hC 0 dX12_film_80 rfl rfl ?_
              refine aw_iconst (v := 0) hC dX12_film_81 (by decide) ?_
              refine aw_putI hC hSt 1 (ms_lt 64 (by decide) hM) (ms_k 64 12 0 (by decide) hM) rfl (by decide) w_947 rfl rfl rfl rfl dX12_film_82 ?_
              generalize eS9 : (sI S1 64 1 (0 : Int32)) = S9
              have hM : MS S9 := MS.of (by rw [← eS9]; exact shp_sI _ _ _ _) hM
              refine aw_iconst (v := 0) hC dX12_film_85 (by decide) ?_
              refine aw_istore hC [(4, .int _), (0, .ref 64), (1, .int _), (2, .int _), (3, .int _)] dX12_film_86 (by decide) rfl ?_
              refine aw_iconst (v := 0) hC dX12_film_88 (by decide) ?_
              refine aw_istore hC [(5, .int _), (4, .int _), (0, .ref 64), (1, .int _), (2, .int _), (3, .int _)] dX12_film_89 (by decide) rfl ?_
              refine aw_sub [2, 3, 4, 5, 1, 0] rfl ?_
              refine l_X12_film_91 hC hSt 1000 _ _ _ _ _ _ hM (h2 S1 eS1 c2 c3 c4 c5 c6 c8 S9 eS9) ?_
              generalize er10 : L_X12_film_91 1000 S9 a1 a2 a3 (0 : Int32) (0 : Int32) = r10
              have hM : MS r10.2.2.2.2.2 := MS.of (by rw [← er10]; exact qL_X12_film_91 _ _ _ _ _ _ _) hM
              refine aw_iload hC 4 dX12_film_203 rfl ?_
              refine aw_i2l hC dX12_film_205 ?_
              refine aw_lret hC dX12_film_206 (Nat.le_refl _) (Nat.le_refl _) ?_
              exact FP.qJ ((bd_eq eS1).trans ((if_neg c2).trans ((if_neg c3).trans ((if_neg c4).trans ((if_pos c5).trans ((if_neg c6).trans ((if_pos c8).trans ((bd_eq eS9).trans ((bd_eq er10).trans (rfl))))))))))
            · refine aw_aload_n hC 0 dX12_film_74 rfl rfl ?_
              refine aw_iconst (v := 2) hC dX12_film_75 (by decide) ?_
              refine aw_cV1r hC hSt (t_X12_finding G l hM _) w_946 w_960 w_961 w_962 w_953 rfl rfl (by decide +kernel) ⟨Nat.le_of_ble_eq_true rfl, Nat.le_of_ble_eq_true rfl⟩ (ms_lt 64 (by decide) hM) (ms_k 64 12 0 (by decide) hM) rfl (Nat.le_of_ble_eq_true rfl) dX12_film_76 ⟨Nat.zero_le _, Nat.zero_le _⟩ ?_
              generalize er11 : f_X12_finding S1 64 (2 : Int32) = r11
              have hM : MS r11.2 := MS.of (by rw [← er11]; exact q_X12_finding _ _ _) hM
              refine aw_lret hC dX12_film_79 (Nat.le_refl _) (Nat.le_refl _) ?_
              exact FP.qJ ((bd_eq eS1).trans ((if_neg c2).trans ((if_neg c3).trans ((if_neg c4).trans ((if_pos c5).trans ((if_neg c6).trans ((if_neg c8).trans ((bd_eq er11).trans (rfl)))))))))
        · refine aw_aload_n hC 0 dX12_film_48 rfl rfl ?_
          refine aw_iconst (v := 1) hC dX12_film_49 (by decide) ?_
          refine aw_cV1r hC hSt (t_X12_finding G l hM _) w_946 w_960 w_961 w_962 w_953 rfl rfl (by decide +kernel) ⟨Nat.le_of_ble_eq_true rfl, Nat.le_of_ble_eq_true rfl⟩ (ms_lt 64 (by decide) hM) (ms_k 64 12 0 (by decide) hM) rfl (Nat.le_of_ble_eq_true rfl) dX12_film_50 ⟨Nat.zero_le _, Nat.zero_le _⟩ ?_
          generalize er12 : f_X12_finding S1 64 (1 : Int32) = r12
          have hM : MS r12.2 := MS.of (by rw [← er12]; exact q_X12_finding _ _ _) hM
          refine aw_lret hC dX12_film_53 (Nat.le_refl _) (Nat.le_refl _) ?_
          exact FP.qJ ((bd_eq eS1).trans ((if_neg c2).trans ((if_neg c3).trans ((if_neg c4).trans ((if_neg c5).trans ((bd_eq er12).trans (rfl)))))))
      · refine aw_ldc2 (v := -9000000000000000002) hC w_1151 dX12_film_35 ?_
        refine aw_lret hC dX12_film_38 (Nat.le_refl _) (Nat.le_refl _) ?_
        exact FP.qJ ((bd_eq eS1).trans ((if_neg c2).trans ((if_neg c3).trans ((if_pos c4).trans (rfl)))))
    · refine aw_ldc2 (v := -9000000000000000001) hC w_957 dX12_film_24 ?_
      refine aw_lret hC dX12_film_27 (Nat.le_refl _) (Nat.le_refl _) ?_
      exact FP.qJ ((bd_eq eS1).trans ((if_neg c2).trans ((if_pos c3).trans (rfl))))
theorem q_X12_film (S : HSt) (_o : Nat) (a1 : Int32) (a2 : Int32) (a3 : Int32) : shp ((f_X12_film S _o a1 a2 a3).2) = shp S := by
  unfold f_X12_film
  repeat' (first | with_reducible refine shpr1 ?_ | with_reducible rfl | with_reducible refine (q_X12_doTick _ _ _ _ _ _).trans ?_ | with_reducible refine (q_X12_finding _ _ _).trans ?_ | with_reducible refine (q_X12_first _ _).trans ?_ | with_reducible refine (qL_X12_film_91 _ _ _ _ _ _ _).trans ?_ | with_reducible refine (qL_X12_film_108 _ _ _ _ _ _ _ _ _).trans ?_ | with_reducible refine (shp_sI _ _ _ _).trans ?_ | with_reducible refine (shp_sJ _ _ _ _).trans ?_ | with_reducible refine shi ?_ ?_ | with_reducible refine shb (fun _ _ => ?_) | with_reducible refine shiP (fun q : Int64 × HSt => q.2) ?_ ?_ | with_reducible refine shbP (fun q : Int64 × HSt => q.2) (fun _ _ => ?_) | (subst_vars; with_reducible rfl) | (subst_vars; with_reducible refine (q_X12_doTick _ _ _ _ _ _).trans ?_) | (subst_vars; with_reducible refine (q_X12_finding _ _ _).trans ?_) | (subst_vars; with_reducible refine (q_X12_first _ _).trans ?_) | (subst_vars; with_reducible refine (qL_X12_film_91 _ _ _ _ _ _ _).trans ?_) | (subst_vars; with_reducible refine (qL_X12_film_108 _ _ _ _ _ _ _ _ _).trans ?_) | (subst_vars; with_reducible refine (shp_sI _ _ _ _).trans ?_) | (subst_vars; with_reducible refine (shp_sJ _ _ _ _).trans ?_) | (subst_vars; with_reducible refine shi ?_ ?_) | (subst_vars; with_reducible refine shb (fun _ _ => ?_)))
theorem v_X12_film (S : HSt) (_o : Nat) (a1 : Int32) (a2 : Int32) (a3 : Int32) : Fr [(64, 0), (64, 1), (64, 20), (64, 21), (64, 22), (64, 23), (64, 24), (64, 25), (64, 26)] S ((f_X12_film S _o a1 a2 a3).2) := by
  unfold f_X12_film
  repeat' (first | with_reducible refine frpr1 ?_ | with_reducible exact Fr.refl _ _ | with_reducible refine Fr.lP (fun q : Int64 × HSt => q.2) (fun _ _ => ?_) | with_reducible refine Fr.iteP (fun q : Int64 × HSt => q.2) ?_ ?_ | with_reducible refine Fr.l1 (fun _ _ => ?_) | with_reducible refine Fr.ite ?_ ?_ | with_reducible refine Fr.sE (by assumption) (by first | decide | simp only [List.mem_cons, List.not_mem_nil, or_false, true_or, or_true, eq_self_iff_true]) ?_ | with_reducible refine Fr.jE (by assumption) ?_ | with_reducible refine Fr.rE (by assumption) (by first | decide | simp only [List.mem_cons, List.not_mem_nil, or_false, true_or, or_true, eq_self_iff_true]) ?_ | with_reducible refine Fr.iE (by assumption) ?_ ?_ | with_reducible refine Fr.tr (w_X12_doTick _ _ _ _ _ _ _ (by assumption)) (by first | decide | simp only [List.mem_cons, List.not_mem_nil, or_false, forall_eq_or_imp, forall_eq, true_or, or_true, and_self, eq_self_iff_true]) ?_ | with_reducible refine Fr.tr (w_X12_finding _ _ _ _ (by assumption)) (by first | decide | simp only [List.mem_cons, List.not_mem_nil, or_false, forall_eq_or_imp, forall_eq, true_or, or_true, and_self, eq_self_iff_true]) ?_ | with_reducible refine Fr.tr (w_X12_first _ _ _ (by assumption)) (by first | decide | simp only [List.mem_cons, List.not_mem_nil, or_false, forall_eq_or_imp, forall_eq, true_or, or_true, and_self, eq_self_iff_true]) ?_ | with_reducible refine Fr.tr (wL_X12_film_91 _ _ _ _ _ _ _ _ (by assumption)) (by first | decide | simp only [List.mem_cons, List.not_mem_nil, or_false, forall_eq_or_imp, forall_eq, true_or, or_true, and_self, eq_self_iff_true]) ?_ | with_reducible refine Fr.tr (wL_X12_film_108 _ _ _ _ _ _ _ _ _ _ (by assumption)) (by first | decide | simp only [List.mem_cons, List.not_mem_nil, or_false, forall_eq_or_imp, forall_eq, true_or, or_true, and_self, eq_self_iff_true]) ?_)
theorem w_X12_film (S : HSt) (_o : Nat) (a1 : Int32) (a2 : Int32) (a3 : Int32) (r : Int64 × HSt) (e : f_X12_film S _o a1 a2 a3 = r) : Fr [(64, 0), (64, 1), (64, 20), (64, 21), (64, 22), (64, 23), (64, 24), (64, 25), (64, 26)] S r.2 := by
  rw [← e]
  exact v_X12_film S _o a1 a2 a3
noncomputable def L_X12_image_32 : Nat → HSt → Int32 → Int32 → Int32 × Int32 × HSt
  | 0, S, v1, v2 => (v1, v2, S)
  | n + 1, S, v1, v2 =>
    if (172 : Int32) ≤ v2 then ((pr (v1) (pr (v2) (S)))) else (bd ((sI S 83 (((172 : Int32) * v1) + v2).toNatClampNeg (gI S 68 v2.toNatClampNeg))) fun S1005 => L_X12_image_32 n S1005 v1 (v2 + (1 : Int32)))
def T_X12_image_32 : Nat → HSt → Int32 → Int32 → Prop
  | 0, _, _, _ => False
  | n + 1, S, v1, v2 => ((¬ (172 : Int32) ≤ v2) → vp_in v2 172) ∧ ((¬ (172 : Int32) ≤ v2) → vp_in (((172 : Int32) * v1) + v2) 344) ∧ ((¬ (172 : Int32) ≤ v2) → ∀ S1005 : HSt, (sI S 83 (((172 : Int32) * v1) + v2).toNatClampNeg (gI S 68 v2.toNatClampNeg)) = S1005 → T_X12_image_32 n S1005 v1 (v2 + (1 : Int32)))
theorem qL_X12_image_32 : ∀ (n : Nat) (S : HSt) (v1 : Int32) (v2 : Int32), shp (L_X12_image_32 n S v1 v2).2.2 = shp S := by
  intro n
  induction n with
  | zero => intros; rfl
  | succ n ih =>
    intro S v1 v2
    unfold L_X12_image_32
    repeat' (first | with_reducible refine shpr2 ?_ | with_reducible rfl | with_reducible refine (ih _ _ _).trans ?_ | with_reducible refine (shp_sI _ _ _ _).trans ?_ | with_reducible refine (shp_sJ _ _ _ _).trans ?_ | with_reducible refine shi ?_ ?_ | with_reducible refine shb (fun _ _ => ?_) | with_reducible refine shiP (fun q : Int32 × Int32 × HSt => q.2.2) ?_ ?_ | with_reducible refine shbP (fun q : Int32 × Int32 × HSt => q.2.2) (fun _ _ => ?_) | (subst_vars; with_reducible rfl) | (subst_vars; with_reducible refine (ih _ _ _).trans ?_) | (subst_vars; with_reducible refine (shp_sI _ _ _ _).trans ?_) | (subst_vars; with_reducible refine (shp_sJ _ _ _ _).trans ?_) | (subst_vars; with_reducible refine shi ?_ ?_) | (subst_vars; with_reducible refine shb (fun _ _ => ?_)))
theorem vL_X12_image_32 : ∀ (n : Nat) (S : HSt) (v1 : Int32) (v2 : Int32), Fr [(83, 1000)] S (L_X12_image_32 n S v1 v2).2.2 := by
  intro n
  induction n with
  | zero => intros; exact Fr.refl _ _
  | succ n ih =>
    intro S v1 v2
    unfold L_X12_image_32
    repeat' (first | with_reducible refine frpr2 ?_ | with_reducible exact Fr.refl _ _ | with_reducible refine Fr.lP (fun q : Int32 × Int32 × HSt => q.2.2) (fun _ _ => ?_) | with_reducible refine Fr.iteP (fun q : Int32 × Int32 × HSt => q.2.2) ?_ ?_ | with_reducible refine Fr.l1 (fun _ _ => ?_) | with_reducible refine Fr.ite ?_ ?_ | with_reducible refine Fr.sE (by assumption) (by first | decide | simp only [List.mem_cons, List.not_mem_nil, or_false, true_or, or_true, eq_self_iff_true]) ?_ | with_reducible refine Fr.jE (by assumption) ?_ | with_reducible refine Fr.rE (by assumption) (by first | decide | simp only [List.mem_cons, List.not_mem_nil, or_false, true_or, or_true, eq_self_iff_true]) ?_ | with_reducible refine Fr.iE (by assumption) ?_ ?_ | with_reducible refine Fr.tr (ih _ _ _) (by first | decide | simp only [List.mem_cons, List.not_mem_nil, or_false, forall_eq_or_imp, forall_eq, true_or, or_true, and_self, eq_self_iff_true]) ?_)
theorem wL_X12_image_32 (n : Nat) (S : HSt) (v1 : Int32) (v2 : Int32) (r : Int32 × Int32 × HSt) (e : L_X12_image_32 n S v1 v2 = r) : Fr [(83, 1000)] S r.2.2 := by
  rw [← e]
  exact vL_X12_image_32 n S v1 v2
set_option maxRecDepth 100000 in
theorem l_X12_image_32 {p : Program} {l : Launch} {e : Env} {s : State} {m : MethodId} {args : Array Value} {below : List Frame} {meth : Method} {c : Code} {G : GG} {Q : State → Prop} (hC : ACx p s m args meth c cX12_image RX12 3 (some .long)) (hSt : St G s)  : ∀ (n : Nat) (S : HSt) (v1 : Int32) (v2 : Int32), MS S → T_X12_image_32 n S v1 v2 → AW p l e (rmD 1 0 0) s m args below meth c G 3 Q (L_X12_image_32 n S v1 v2).2.2 0 0 63 [(0, .ref 64), (1, .int (L_X12_image_32 n S v1 v2).1), (2, .int (L_X12_image_32 n S v1 v2).2.1)] [] → AW p l e (rmD 1 0 0) s m args below meth c G 3 Q S 0 0 32 [(0, .ref 64), (1, .int v1), (2, .int v2)] [] := by
  intro n
  induction n with
  | zero => intro S v1 v2 _ hT; exact hT.elim
  | succ n ih =>
    intro S v1 v2 hM hT hk
    unfold T_X12_image_32 at hT
    obtain ⟨h0, h1, h2⟩ := hT
    refine aw_iload_n hC 2 dX12_image_32 rfl rfl ?_
    refine aw_sipush (v := 172) hC dX12_image_33 (by decide) ?_
    refine aw_icmp_ge hC 63 dX12_image_36 (by decide) (fun c1004 => ?_) (fun c1004 => ?_)
    · refine aw_sub [0, 1, 2] rfl ?_
      have E : L_X12_image_32 (n + 1) S v1 v2 = _ := (if_pos c1004).trans (rfl)
      rw [E] at hk
      exact hk
    · refine aw_aload_n hC 0 dX12_image_39 rfl rfl ?_
      refine aw_getP (b := 83) hC hSt 46 (ms_lt 64 (by decide) hM) (ms_k 64 12 0 (by decide) hM) rfl (by decide) w_939 rfl (ms_p 46 83 (by decide) hM) dX12_image_40 ?_
      refine aw_sipush (v := 172) hC dX12_image_43 (by decide) ?_
      refine aw_iload_n hC 1 dX12_image_46 rfl rfl ?_
      refine aw_imul hC dX12_image_47 ?_
      refine aw_iload_n hC 2 dX12_image_48 rfl rfl ?_
      refine aw_iadd hC dX12_image_49 ?_
      refine aw_aload_n hC 0 dX12_image_50 rfl rfl ?_
      refine aw_getP (b := 68) hC hSt 5 (ms_lt 64 (by decide) hM) (ms_k 64 12 0 (by decide) hM) rfl (by decide) w_920 rfl (ms_p 5 68 (by decide) hM) dX12_image_51 ?_
      refine aw_iload_n hC 2 dX12_image_54 rfl rfl ?_
      refine aw_iald hC hSt (ms_lt 68 (by decide) hM) (ms_k 68 14 172 (by decide) hM) (vp_len (n := 172) (ms_l 68 14 172 (by decide) hM) (h0 c1004)) dX12_image_55 ?_
      refine aw_iast hC hSt (ms_lt 83 (by decide) hM) (ms_k 83 14 344 (by decide) hM) (vp_len (n := 344) (ms_l 83 14 344 (by decide) hM) (h1 c1004)) dX12_image_56 ?_
      generalize eS1005 : (sI S 83 (((172 : Int32) * v1) + v2).toNatClampNeg (gI S 68 v2.toNatClampNeg)) = S1005
      have hM : MS S1005 := MS.of (by rw [← eS1005]; exact shp_sI _ _ _ _) hM
      refine aw_iinc (v := (v2 + (1 : Int32))) hC 2 [(2, .int _), (0, .ref 64), (1, .int _)] dX12_image_57 rfl rfl (by decide) rfl ?_
      refine aw_goto hC 32 dX12_image_60 (by decide) ?_
      refine aw_sub [1, 2, 0] rfl ?_
      have hTn := (h2 c1004 S1005 eS1005)
      have hMn : MS S1005 := hM
      have E : L_X12_image_32 (n + 1) S v1 v2 = _ := (if_neg c1004).trans ((bd_eq eS1005).trans (rfl))
      rw [E] at hk
      exact ih _ _ _ hMn hTn hk
noncomputable def L_X12_image_65 : Nat → HSt → Int32 → Int32 → Int32 × Int32 × HSt
  | 0, S, v1, v2 => (v1, v2, S)
  | n + 1, S, v1, v2 =>
    if (7 : Int32) ≤ v2 then ((pr (v1) (pr (v2) (S)))) else (bd ((sI S 84 (((7 : Int32) * v1) + v2).toNatClampNeg (gI S 71 v2.toNatClampNeg))) fun S1006 => L_X12_image_65 n S1006 v1 (v2 + (1 : Int32)))
def T_X12_image_65 : Nat → HSt → Int32 → Int32 → Prop
  | 0, _, _, _ => False
  | n + 1, S, v1, v2 => ((¬ (7 : Int32) ≤ v2) → vp_in v2 7) ∧ ((¬ (7 : Int32) ≤ v2) → vp_in (((7 : Int32) * v1) + v2) 14) ∧ ((¬ (7 : Int32) ≤ v2) → ∀ S1006 : HSt, (sI S 84 (((7 : Int32) * v1) + v2).toNatClampNeg (gI S 71 v2.toNatClampNeg)) = S1006 → T_X12_image_65 n S1006 v1 (v2 + (1 : Int32)))
theorem qL_X12_image_65 : ∀ (n : Nat) (S : HSt) (v1 : Int32) (v2 : Int32), shp (L_X12_image_65 n S v1 v2).2.2 = shp S := by
  intro n
  induction n with
  | zero => intros; rfl
  | succ n ih =>
    intro S v1 v2
    unfold L_X12_image_65
    repeat' (first | with_reducible refine shpr2 ?_ | with_reducible rfl | with_reducible refine (ih _ _ _).trans ?_ | with_reducible refine (qL_X12_image_32 _ _ _ _).trans ?_ | with_reducible refine (shp_sI _ _ _ _).trans ?_ | with_reducible refine (shp_sJ _ _ _ _).trans ?_ | with_reducible refine shi ?_ ?_ | with_reducible refine shb (fun _ _ => ?_) | with_reducible refine shiP (fun q : Int32 × Int32 × HSt => q.2.2) ?_ ?_ | with_reducible refine shbP (fun q : Int32 × Int32 × HSt => q.2.2) (fun _ _ => ?_) | (subst_vars; with_reducible rfl) | (subst_vars; with_reducible refine (ih _ _ _).trans ?_) | (subst_vars; with_reducible refine (qL_X12_image_32 _ _ _ _).trans ?_) | (subst_vars; with_reducible refine (shp_sI _ _ _ _).trans ?_) | (subst_vars; with_reducible refine (shp_sJ _ _ _ _).trans ?_) | (subst_vars; with_reducible refine shi ?_ ?_) | (subst_vars; with_reducible refine shb (fun _ _ => ?_)))
theorem vL_X12_image_65 : ∀ (n : Nat) (S : HSt) (v1 : Int32) (v2 : Int32), Fr [(84, 1000)] S (L_X12_image_65 n S v1 v2).2.2 := by
  intro n
  induction n with
  | zero => intros; exact Fr.refl _ _
  | succ n ih =>
    intro S v1 v2
    unfold L_X12_image_65
    repeat' (first | with_reducible refine frpr2 ?_ | with_reducible exact Fr.refl _ _ | with_reducible refine Fr.lP (fun q : Int32 × Int32 × HSt => q.2.2) (fun _ _ => ?_) | with_reducible refine Fr.iteP (fun q : Int32 × Int32 × HSt => q.2.2) ?_ ?_ | with_reducible refine Fr.l1 (fun _ _ => ?_) | with_reducible refine Fr.ite ?_ ?_ | with_reducible refine Fr.sE (by assumption) (by first | decide | simp only [List.mem_cons, List.not_mem_nil, or_false, true_or, or_true, eq_self_iff_true]) ?_ | with_reducible refine Fr.jE (by assumption) ?_ | with_reducible refine Fr.rE (by assumption) (by first | decide | simp only [List.mem_cons, List.not_mem_nil, or_false, true_or, or_true, eq_self_iff_true]) ?_ | with_reducible refine Fr.iE (by assumption) ?_ ?_ | with_reducible refine Fr.tr (ih _ _ _) (by first | decide | simp only [List.mem_cons, List.not_mem_nil, or_false, forall_eq_or_imp, forall_eq, true_or, or_true, and_self, eq_self_iff_true]) ?_ | with_reducible refine Fr.tr (wL_X12_image_32 _ _ _ _ _ (by assumption)) (by first | decide | simp only [List.mem_cons, List.not_mem_nil, or_false, forall_eq_or_imp, forall_eq, true_or, or_true, and_self, eq_self_iff_true]) ?_)
theorem wL_X12_image_65 (n : Nat) (S : HSt) (v1 : Int32) (v2 : Int32) (r : Int32 × Int32 × HSt) (e : L_X12_image_65 n S v1 v2 = r) : Fr [(84, 1000)] S r.2.2 := by
  rw [← e]
  exact vL_X12_image_65 n S v1 v2
set_option maxRecDepth 100000 in
theorem l_X12_image_65 {p : Program} {l : Launch} {e : Env} {s : State} {m : MethodId} {args : Array Value} {below : List Frame} {meth : Method} {c : Code} {G : GG} {Q : State → Prop} (hC : ACx p s m args meth c cX12_image RX12 3 (some .long)) (hSt : St G s)  : ∀ (n : Nat) (S : HSt) (v1 : Int32) (v2 : Int32), MS S → T_X12_image_65 n S v1 v2 → AW p l e (rmD 1 0 0) s m args below meth c G 3 Q (L_X12_image_65 n S v1 v2).2.2 0 0 94 [(0, .ref 64), (1, .int (L_X12_image_65 n S v1 v2).1), (2, .int (L_X12_image_65 n S v1 v2).2.1)] [] → AW p l e (rmD 1 0 0) s m args below meth c G 3 Q S 0 0 65 [(0, .ref 64), (1, .int v1), (2, .int v2)] [] := by
  intro n
  induction n with
  | zero => intro S v1 v2 _ hT; exact hT.elim
  | succ n ih =>
    intro S v1 v2 hM hT hk
    unfold T_X12_image_65 at hT
    obtain ⟨h0, h1, h2⟩ := hT
    refine aw_iload_n hC 2 dX12_image_65 rfl rfl ?_
    refine aw_bipush (v := 7) hC dX12_image_66 (by decide) ?_
    refine aw_icmp_ge hC 94 dX12_image_68 (by decide) (fun c1005 => ?_) (fun c1005 => ?_)
    · refine aw_sub [0, 1, 2] rfl ?_
      have E : L_X12_image_65 (n + 1) S v1 v2 = _ := (if_pos c1005).trans (rfl)
      rw [E] at hk
      exact hk
    · refine aw_aload_n hC 0 dX12_image_71 rfl rfl ?_
      refine aw_getP (b := 84) hC hSt 47 (ms_lt 64 (by decide) hM) (ms_k 64 12 0 (by decide) hM) rfl (by decide) w_940 rfl (ms_p 47 84 (by decide) hM) dX12_image_72 ?_
      refine aw_bipush (v := 7) hC dX12_image_75 (by decide) ?_
      refine aw_iload_n hC 1 dX12_image_77 rfl rfl ?_
      refine aw_imul hC dX12_image_78 ?_
      refine aw_iload_n hC 2 dX12_image_79 rfl rfl ?_
      refine aw_iadd hC dX12_image_80 ?_
      refine aw_aload_n hC 0 dX12_image_81 rfl rfl ?_
      refine aw_getP (b := 71) hC hSt 27 (ms_lt 64 (by decide) hM) (ms_k 64 12 0 (by decide) hM) rfl (by decide) w_925 rfl (ms_p 27 71 (by decide) hM) dX12_image_82 ?_
      refine aw_iload_n hC 2 dX12_image_85 rfl rfl ?_
      refine aw_iald hC hSt (ms_lt 71 (by decide) hM) (ms_k 71 14 7 (by decide) hM) (vp_len (n := 7) (ms_l 71 14 7 (by decide) hM) (h0 c1005)) dX12_image_86 ?_
      refine aw_iast hC hSt (ms_lt 84 (by decide) hM) (ms_k 84 14 14 (by decide) hM) (vp_len (n := 14) (ms_l 84 14 14 (by decide) hM) (h1 c1005)) dX12_image_87 ?_
      generalize eS1006 : (sI S 84 (((7 : Int32) * v1) + v2).toNatClampNeg (gI S 71 v2.toNatClampNeg)) = S1006
      have hM : MS S1006 := MS.of (by rw [← eS1006]; exact shp_sI _ _ _ _) hM
      refine aw_iinc (v := (v2 + (1 : Int32))) hC 2 [(2, .int _), (0, .ref 64), (1, .int _)] dX12_image_88 rfl rfl (by decide) rfl ?_
      refine aw_goto hC 65 dX12_image_91 (by decide) ?_
      refine aw_sub [1, 2, 0] rfl ?_
      have hTn := (h2 c1005 S1006 eS1006)
      have hMn : MS S1006 := hM
      have E : L_X12_image_65 (n + 1) S v1 v2 = _ := (if_neg c1005).trans ((bd_eq eS1006).trans (rfl))
      rw [E] at hk
      exact ih _ _ _ hMn hTn hk
noncomputable def f_X12_image (S : HSt) (_o : Nat) (a1 : Int32) : Int64 × HSt := bd ((sI S 64 0 (0 : Int32))) fun S1 => if (f_X12_in S1 a1.toInt64 (0 : Int64) (1 : Int64)) = 0 then (pr ((-9000000000000000001 : Int64)) (S1)) else (if (gI S1 64 7) = 0 then (pr ((-9000000000000000002 : Int64)) (S1)) else (bd (L_X12_image_32 1000 S1 a1 (0 : Int32)) fun r4 => bd (L_X12_image_65 1000 r4.2.2 r4.1 (0 : Int32)) fun r5 => bd ((sI r5.2.2 85 r5.1.toNatClampNeg (gI r5.2.2 64 18))) fun S6 => bd ((sI S6 86 r5.1.toNatClampNeg (gI S6 64 19))) fun S7 => bd ((sI S7 82 r5.1.toNatClampNeg (vp_nar .boolean (1 : Int32)))) fun S8 => pr ((1 : Int64)) (S8)))
def p_X12_image (S : HSt) (_o : Nat) (a1 : Int32) : Prop := (∀ S1 : HSt, (sI S 64 0 (0 : Int32)) = S1 → (¬ (f_X12_in S1 a1.toInt64 (0 : Int64) (1 : Int64)) = 0) → (¬ (gI S1 64 7) = 0) → T_X12_image_32 1000 S1 a1 (0 : Int32)) ∧ (∀ S1 : HSt, (sI S 64 0 (0 : Int32)) = S1 → (¬ (f_X12_in S1 a1.toInt64 (0 : Int64) (1 : Int64)) = 0) → (¬ (gI S1 64 7) = 0) → ∀ r4, L_X12_image_32 1000 S1 a1 (0 : Int32) = r4 → T_X12_image_65 1000 r4.2.2 r4.1 (0 : Int32)) ∧ (∀ S1 : HSt, (sI S 64 0 (0 : Int32)) = S1 → (¬ (f_X12_in S1 a1.toInt64 (0 : Int64) (1 : Int64)) = 0) → (¬ (gI S1 64 7) = 0) → ∀ r4, L_X12_image_32 1000 S1 a1 (0 : Int32) = r4 → ∀ r5, L_X12_image_65 1000 r4.2.2 r4.1 (0 : Int32) = r5 → vp_in r5.1 2) ∧ (∀ S1 : HSt, (sI S 64 0 (0 : Int32)) = S1 → (¬ (f_X12_in S1 a1.toInt64 (0 : Int64) (1 : Int64)) = 0) → (¬ (gI S1 64 7) = 0) → ∀ r4, L_X12_image_32 1000 S1 a1 (0 : Int32) = r4 → ∀ r5, L_X12_image_65 1000 r4.2.2 r4.1 (0 : Int32) = r5 → ∀ S6 : HSt, (sI r5.2.2 85 r5.1.toNatClampNeg (gI r5.2.2 64 18)) = S6 → vp_in r5.1 2) ∧ (∀ S1 : HSt, (sI S 64 0 (0 : Int32)) = S1 → (¬ (f_X12_in S1 a1.toInt64 (0 : Int64) (1 : Int64)) = 0) → (¬ (gI S1 64 7) = 0) → ∀ r4, L_X12_image_32 1000 S1 a1 (0 : Int32) = r4 → ∀ r5, L_X12_image_65 1000 r4.2.2 r4.1 (0 : Int32) = r5 → ∀ S6 : HSt, (sI r5.2.2 85 r5.1.toNatClampNeg (gI r5.2.2 64 18)) = S6 → ∀ S7 : HSt, (sI S6 86 r5.1.toNatClampNeg (gI S6 64 19)) = S7 → vp_in r5.1 2)
set_option maxRecDepth 100000 in
theorem t_X12_image (G : GG) (l : Launch) {S : HSt} (hM : MS S) (a1 : Int32) (hp : p_X12_image S 64 a1) : AM G l yX12_image cX12_image 3 (some .long) (rmD 1 0 0) 0 0 [.ref 64, .int a1] S (FP (some (.long (f_X12_image S 64 a1).1)) ((f_X12_image S 64 a1).2)) := by
  obtain ⟨h0, h1, h2, h3, h4⟩ := hp
  refine AM.mk (by decide) (Nat.le_of_ble_eq_true rfl) ?_
  intro p e s m below meth c hC hSt _
  refine aw_aload_n hC 0 dX12_image_0 rfl rfl ?_
  refine aw_iconst (v := 0) hC dX12_image_1 (by decide) ?_
  refine aw_putI hC hSt 0 (ms_lt 64 (by decide) hM) (ms_k 64 12 0 (by decide) hM) rfl (by decide) w_955 rfl rfl rfl rfl dX12_image_2 ?_
  generalize eS1 : (sI S 64 0 (0 : Int32)) = S1
  have hM : MS S1 := MS.of (by rw [← eS1]; exact shp_sI _ _ _ _) hM
  refine aw_iload_n hC 1 dX12_image_5 rfl rfl ?_
  refine aw_i2l hC dX12_image_6 ?_
  refine aw_lconst (v := 0) hC dX12_image_7 (by decide) ?_
  refine aw_lconst (v := 1) hC dX12_image_8 (by decide) ?_
  refine aw_cS3r hC hSt (t_X12_in G l  _ _ _) w_945 w_951 w_952 w_953 rfl rfl (by decide +kernel) ⟨Nat.le_of_ble_eq_true rfl, Nat.le_of_ble_eq_true rfl⟩ (Nat.le_of_ble_eq_true rfl) dX12_image_9 ⟨Nat.zero_le _, Nat.zero_le _⟩ ?_
  refine aw_if_ne hC 19 dX12_image_12 (by decide) (fun c2 => ?_) (fun c2 => ?_)
  · refine aw_aload_n hC 0 dX12_image_19 rfl rfl ?_
    refine aw_getI hC hSt 7 (ms_lt 64 (by decide) hM) (ms_k 64 12 0 (by decide) hM) rfl (by decide) w_1051 rfl dX12_image_20 ?_
    refine aw_if_ne hC 30 dX12_image_23 (by decide) (fun c3 => ?_) (fun c3 => ?_)
    · refine aw_iconst (v := 0) hC dX12_image_30 (by decide) ?_
      refine aw_istore_n hC [(2, .int _), (0, .ref 64), (1, .int _)] dX12_image_31 rfl (by decide) rfl ?_
      refine aw_sub [1, 2, 0] rfl ?_
      refine l_X12_image_32 hC hSt 1000 _ _ _ hM (h0 S1 eS1 c2 c3) ?_
      generalize er4 : L_X12_image_32 1000 S1 a1 (0 : Int32) = r4
      have hM : MS r4.2.2 := MS.of (by rw [← er4]; exact qL_X12_image_32 _ _ _ _) hM
      refine aw_iconst (v := 0) hC dX12_image_63 (by decide) ?_
      refine aw_istore_n hC [(2, .int _), (0, .ref 64), (1, .int _)] dX12_image_64 rfl (by decide) rfl ?_
      refine aw_sub [1, 2, 0] rfl ?_
      refine l_X12_image_65 hC hSt 1000 _ _ _ hM (h1 S1 eS1 c2 c3 r4 er4) ?_
      generalize er5 : L_X12_image_65 1000 r4.2.2 r4.1 (0 : Int32) = r5
      have hM : MS r5.2.2 := MS.of (by rw [← er5]; exact qL_X12_image_65 _ _ _ _) hM
      refine aw_aload_n hC 0 dX12_image_94 rfl rfl ?_
      refine aw_getP (b := 85) hC hSt 48 (ms_lt 64 (by decide) hM) (ms_k 64 12 0 (by decide) hM) rfl (by decide) w_941 rfl (ms_p 48 85 (by decide) hM) dX12_image_95 ?_
      refine aw_iload_n hC 1 dX12_image_98 rfl rfl ?_
      refine aw_aload_n hC 0 dX12_image_99 rfl rfl ?_
      refine aw_getI hC hSt 18 (ms_lt 64 (by decide) hM) (ms_k 64 12 0 (by decide) hM) rfl (by decide) w_1052 rfl dX12_image_100 ?_
      refine aw_iast hC hSt (ms_lt 85 (by decide) hM) (ms_k 85 14 2 (by decide) hM) (vp_len (n := 2) (ms_l 85 14 2 (by decide) hM) (h2 S1 eS1 c2 c3 r4 er4 r5 er5)) dX12_image_103 ?_
      generalize eS6 : (sI r5.2.2 85 r5.1.toNatClampNeg (gI r5.2.2 64 18)) = S6
      have hM : MS S6 := MS.of (by rw [← eS6]; exact shp_sI _ _ _ _) hM
      refine aw_aload_n hC 0 dX12_image_104 rfl rfl ?_
      refine aw_getP (b := 86) hC hSt 49 (ms_lt 64 (by decide) hM) (ms_k 64 12 0 (by decide) hM) rfl (by decide) w_942 rfl (ms_p 49 86 (by decide) hM) dX12_image_105 ?_
      refine aw_iload_n hC 1 dX12_image_108 rfl rfl ?_
      refine aw_aload_n hC 0 dX12_image_109 rfl rfl ?_
      refine aw_getI hC hSt 19 (ms_lt 64 (by decide) hM) (ms_k 64 12 0 (by decide) hM) rfl (by decide) w_924 rfl dX12_image_110 ?_
      refine aw_iast hC hSt (ms_lt 86 (by decide) hM) (ms_k 86 14 2 (by decide) hM) (vp_len (n := 2) (ms_l 86 14 2 (by decide) hM) (h3 S1 eS1 c2 c3 r4 er4 r5 er5 S6 eS6)) dX12_image_113 ?_
      generalize eS7 : (sI S6 86 r5.1.toNatClampNeg (gI S6 64 19)) = S7
      have hM : MS S7 := MS.of (by rw [← eS7]; exact shp_sI _ _ _ _) hM
      refine aw_aload_n hC 0 dX12_image_114 rfl rfl ?_
      refine aw_getP (b := 82) hC hSt 45 (ms_lt 64 (by decide) hM) (ms_k 64 12 0 (by decide) hM) rfl (by decide) w_938 rfl (ms_p 45 82 (by decide) hM) dX12_image_115 ?_
      refine aw_iload_n hC 1 dX12_image_118 rfl rfl ?_
      refine aw_iconst (v := 1) hC dX12_image_119 (by decide) ?_
      refine aw_zast hC hSt (ms_lt 82 (by decide) hM) (ms_k 82 16 2 (by decide) hM) (vp_len (n := 2) (ms_l 82 16 2 (by decide) hM) (h4 S1 eS1 c2 c3 r4 er4 r5 er5 S6 eS6 S7 eS7)) dX12_image_120 ?_
      generalize eS8 : (sI S7 82 r5.1.toNatClampNeg (vp_nar .boolean (1 : Int32))) = S8
      have hM : MS S8 := MS.of (by rw [← eS8]; exact shp_sI _ _ _ _) hM
      refine aw_lconst (v := 1) hC dX12_image_121 (by decide) ?_
      refine aw_lret hC dX12_image_122 (Nat.le_refl _) (Nat.le_refl _) ?_
      exact FP.qJ ((bd_eq eS1).trans ((if_neg c2).trans ((if_neg c3).trans ((bd_eq er4).trans ((bd_eq er5).trans ((bd_eq eS6).trans ((bd_eq eS7).trans ((bd_eq eS8).trans (rfl)))))))))
    · refine aw_ldc2 (v := -9000000000000000002) hC w_1151 dX12_image_26 ?_
      refine aw_lret hC dX12_image_29 (Nat.le_refl _) (Nat.le_refl _) ?_
      exact FP.qJ ((bd_eq eS1).trans ((if_neg c2).trans ((if_pos c3).trans (rfl))))
  · refine aw_ldc2 (v := -9000000000000000001) hC w_957 dX12_image_15 ?_
    refine aw_lret hC dX12_image_18 (Nat.le_refl _) (Nat.le_refl _) ?_
    exact FP.qJ ((bd_eq eS1).trans ((if_pos c2).trans (rfl)))
theorem q_X12_image (S : HSt) (_o : Nat) (a1 : Int32) : shp ((f_X12_image S _o a1).2) = shp S := by
  unfold f_X12_image
  repeat' (first | with_reducible refine shpr1 ?_ | with_reducible rfl | with_reducible refine (qL_X12_image_32 _ _ _ _).trans ?_ | with_reducible refine (qL_X12_image_65 _ _ _ _).trans ?_ | with_reducible refine (shp_sI _ _ _ _).trans ?_ | with_reducible refine (shp_sJ _ _ _ _).trans ?_ | with_reducible refine shi ?_ ?_ | with_reducible refine shb (fun _ _ => ?_) | with_reducible refine shiP (fun q : Int64 × HSt => q.2) ?_ ?_ | with_reducible refine shbP (fun q : Int64 × HSt => q.2) (fun _ _ => ?_) | (subst_vars; with_reducible rfl) | (subst_vars; with_reducible refine (qL_X12_image_32 _ _ _ _).trans ?_) | (subst_vars; with_reducible refine (qL_X12_image_65 _ _ _ _).trans ?_) | (subst_vars; with_reducible refine (shp_sI _ _ _ _).trans ?_) | (subst_vars; with_reducible refine (shp_sJ _ _ _ _).trans ?_) | (subst_vars; with_reducible refine shi ?_ ?_) | (subst_vars; with_reducible refine shb (fun _ _ => ?_)))
theorem v_X12_image (S : HSt) (_o : Nat) (a1 : Int32) : Fr [(64, 0), (82, 1000), (83, 1000), (84, 1000), (85, 1000), (86, 1000)] S ((f_X12_image S _o a1).2) := by
  unfold f_X12_image
  repeat' (first | with_reducible refine frpr1 ?_ | with_reducible exact Fr.refl _ _ | with_reducible refine Fr.lP (fun q : Int64 × HSt => q.2) (fun _ _ => ?_) | with_reducible refine Fr.iteP (fun q : Int64 × HSt => q.2) ?_ ?_ | with_reducible refine Fr.l1 (fun _ _ => ?_) | with_reducible refine Fr.ite ?_ ?_ | with_reducible refine Fr.sE (by assumption) (by first | decide | simp only [List.mem_cons, List.not_mem_nil, or_false, true_or, or_true, eq_self_iff_true]) ?_ | with_reducible refine Fr.jE (by assumption) ?_ | with_reducible refine Fr.rE (by assumption) (by first | decide | simp only [List.mem_cons, List.not_mem_nil, or_false, true_or, or_true, eq_self_iff_true]) ?_ | with_reducible refine Fr.iE (by assumption) ?_ ?_ | with_reducible refine Fr.tr (wL_X12_image_32 _ _ _ _ _ (by assumption)) (by first | decide | simp only [List.mem_cons, List.not_mem_nil, or_false, forall_eq_or_imp, forall_eq, true_or, or_true, and_self, eq_self_iff_true]) ?_ | with_reducible refine Fr.tr (wL_X12_image_65 _ _ _ _ _ (by assumption)) (by first | decide | simp only [List.mem_cons, List.not_mem_nil, or_false, forall_eq_or_imp, forall_eq, true_or, or_true, and_self, eq_self_iff_true]) ?_)
theorem w_X12_image (S : HSt) (_o : Nat) (a1 : Int32) (r : Int64 × HSt) (e : f_X12_image S _o a1 = r) : Fr [(64, 0), (82, 1000), (83, 1000), (84, 1000), (85, 1000), (86, 1000)] S r.2 := by
  rw [← e]
  exact v_X12_image S _o a1
noncomputable def L_X12_restore_34 : Nat → HSt → Int32 → Int32 → Int32 × Int32 × HSt
  | 0, S, v1, v2 => (v1, v2, S)
  | n + 1, S, v1, v2 =>
    if (172 : Int32) ≤ v2 then ((pr (v1) (pr (v2) (S)))) else (bd ((sI S 68 v2.toNatClampNeg (gI S 83 (((172 : Int32) * v1) + v2).toNatClampNeg))) fun S1005 => L_X12_restore_34 n S1005 v1 (v2 + (1 : Int32)))
def T_X12_restore_34 : Nat → HSt → Int32 → Int32 → Prop
  | 0, _, _, _ => False
  | n + 1, S, v1, v2 => ((¬ (172 : Int32) ≤ v2) → vp_in (((172 : Int32) * v1) + v2) 344) ∧ ((¬ (172 : Int32) ≤ v2) → vp_in v2 172) ∧ ((¬ (172 : Int32) ≤ v2) → ∀ S1005 : HSt, (sI S 68 v2.toNatClampNeg (gI S 83 (((172 : Int32) * v1) + v2).toNatClampNeg)) = S1005 → T_X12_restore_34 n S1005 v1 (v2 + (1 : Int32)))
theorem qL_X12_restore_34 : ∀ (n : Nat) (S : HSt) (v1 : Int32) (v2 : Int32), shp (L_X12_restore_34 n S v1 v2).2.2 = shp S := by
  intro n
  induction n with
  | zero => intros; rfl
  | succ n ih =>
    intro S v1 v2
    unfold L_X12_restore_34
    repeat' (first | with_reducible refine shpr2 ?_ | with_reducible rfl | with_reducible refine (ih _ _ _).trans ?_ | with_reducible refine (shp_sI _ _ _ _).trans ?_ | with_reducible refine (shp_sJ _ _ _ _).trans ?_ | with_reducible refine shi ?_ ?_ | with_reducible refine shb (fun _ _ => ?_) | with_reducible refine shiP (fun q : Int32 × Int32 × HSt => q.2.2) ?_ ?_ | with_reducible refine shbP (fun q : Int32 × Int32 × HSt => q.2.2) (fun _ _ => ?_) | (subst_vars; with_reducible rfl) | (subst_vars; with_reducible refine (ih _ _ _).trans ?_) | (subst_vars; with_reducible refine (shp_sI _ _ _ _).trans ?_) | (subst_vars; with_reducible refine (shp_sJ _ _ _ _).trans ?_) | (subst_vars; with_reducible refine shi ?_ ?_) | (subst_vars; with_reducible refine shb (fun _ _ => ?_)))
theorem vL_X12_restore_34 : ∀ (n : Nat) (S : HSt) (v1 : Int32) (v2 : Int32), Fr [(68, 1000)] S (L_X12_restore_34 n S v1 v2).2.2 := by
  intro n
  induction n with
  | zero => intros; exact Fr.refl _ _
  | succ n ih =>
    intro S v1 v2
    unfold L_X12_restore_34
    repeat' (first | with_reducible refine frpr2 ?_ | with_reducible exact Fr.refl _ _ | with_reducible refine Fr.lP (fun q : Int32 × Int32 × HSt => q.2.2) (fun _ _ => ?_) | with_reducible refine Fr.iteP (fun q : Int32 × Int32 × HSt => q.2.2) ?_ ?_ | with_reducible refine Fr.l1 (fun _ _ => ?_) | with_reducible refine Fr.ite ?_ ?_ | with_reducible refine Fr.sE (by assumption) (by first | decide | simp only [List.mem_cons, List.not_mem_nil, or_false, true_or, or_true, eq_self_iff_true]) ?_ | with_reducible refine Fr.jE (by assumption) ?_ | with_reducible refine Fr.rE (by assumption) (by first | decide | simp only [List.mem_cons, List.not_mem_nil, or_false, true_or, or_true, eq_self_iff_true]) ?_ | with_reducible refine Fr.iE (by assumption) ?_ ?_ | with_reducible refine Fr.tr (ih _ _ _) (by first | decide | simp only [List.mem_cons, List.not_mem_nil, or_false, forall_eq_or_imp, forall_eq, true_or, or_true, and_self, eq_self_iff_true]) ?_)
theorem wL_X12_restore_34 (n : Nat) (S : HSt) (v1 : Int32) (v2 : Int32) (r : Int32 × Int32 × HSt) (e : L_X12_restore_34 n S v1 v2 = r) : Fr [(68, 1000)] S r.2.2 := by
  rw [← e]
  exact vL_X12_restore_34 n S v1 v2
set_option maxRecDepth 100000 in
theorem l_X12_restore_34 {p : Program} {l : Launch} {e : Env} {s : State} {m : MethodId} {args : Array Value} {below : List Frame} {meth : Method} {c : Code} {G : GG} {Q : State → Prop} (hC : ACx p s m args meth c cX12_restore RX12 3 (some .long)) (hSt : St G s)  : ∀ (n : Nat) (S : HSt) (v1 : Int32) (v2 : Int32), MS S → T_X12_restore_34 n S v1 v2 → AW p l e (rmD 1 0 0) s m args below meth c G 3 Q (L_X12_restore_34 n S v1 v2).2.2 0 0 65 [(0, .ref 64), (1, .int (L_X12_restore_34 n S v1 v2).1), (2, .int (L_X12_restore_34 n S v1 v2).2.1)] [] → AW p l e (rmD 1 0 0) s m args below meth c G 3 Q S 0 0 34 [(0, .ref 64), (1, .int v1), (2, .int v2)] [] := by
  intro n
  induction n with
  | zero => intro S v1 v2 _ hT; exact hT.elim
  | succ n ih =>
    intro S v1 v2 hM hT hk
    unfold T_X12_restore_34 at hT
    obtain ⟨h0, h1, h2⟩ := hT
    refine aw_iload_n hC 2 dX12_restore_34 rfl rfl ?_
    refine aw_sipush (v := 172) hC dX12_restore_35 (by decide) ?_
    refine aw_icmp_ge hC 65 dX12_restore_38 (by decide) (fun c1004 => ?_) (fun c1004 => ?_)
    · refine aw_sub [0, 1, 2] rfl ?_
      have E : L_X12_restore_34 (n + 1) S v1 v2 = _ := (if_pos c1004).trans (rfl)
      rw [E] at hk
      exact hk
    · refine aw_aload_n hC 0 dX12_restore_41 rfl rfl ?_
      refine aw_getP (b := 68) hC hSt 5 (ms_lt 64 (by decide) hM) (ms_k 64 12 0 (by decide) hM) rfl (by decide) w_920 rfl (ms_p 5 68 (by decide) hM) dX12_restore_42 ?_
      refine aw_iload_n hC 2 dX12_restore_45 rfl rfl ?_
      refine aw_aload_n hC 0 dX12_restore_46 rfl rfl ?_
      refine aw_getP (b := 83) hC hSt 46 (ms_lt 64 (by decide) hM) (ms_k 64 12 0 (by decide) hM) rfl (by decide) w_939 rfl (ms_p 46 83 (by decide) hM) dX12_restore_47 ?_
      refine aw_sipush (v := 172) hC dX12_restore_50 (by decide) ?_
      refine aw_iload_n hC 1 dX12_restore_53 rfl rfl ?_
      refine aw_imul hC dX12_restore_54 ?_
      refine aw_iload_n hC 2 dX12_restore_55 rfl rfl ?_
      refine aw_iadd hC dX12_restore_56 ?_
      refine aw_iald hC hSt (ms_lt 83 (by decide) hM) (ms_k 83 14 344 (by decide) hM) (vp_len (n := 344) (ms_l 83 14 344 (by decide) hM) (h0 c1004)) dX12_restore_57 ?_
      refine aw_iast hC hSt (ms_lt 68 (by decide) hM) (ms_k 68 14 172 (by decide) hM) (vp_len (n := 172) (ms_l 68 14 172 (by decide) hM) (h1 c1004)) dX12_restore_58 ?_
      generalize eS1005 : (sI S 68 v2.toNatClampNeg (gI S 83 (((172 : Int32) * v1) + v2).toNatClampNeg)) = S1005
      have hM : MS S1005 := MS.of (by rw [← eS1005]; exact shp_sI _ _ _ _) hM
      refine aw_iinc (v := (v2 + (1 : Int32))) hC 2 [(2, .int _), (0, .ref 64), (1, .int _)] dX12_restore_59 rfl rfl (by decide) rfl ?_
      refine aw_goto hC 34 dX12_restore_62 (by decide) ?_
      refine aw_sub [1, 2, 0] rfl ?_
      have hTn := (h2 c1004 S1005 eS1005)
      have hMn : MS S1005 := hM
      have E : L_X12_restore_34 (n + 1) S v1 v2 = _ := (if_neg c1004).trans ((bd_eq eS1005).trans (rfl))
      rw [E] at hk
      exact ih _ _ _ hMn hTn hk
noncomputable def L_X12_restore_67 : Nat → HSt → Int32 → Int32 → Int32 × Int32 × HSt
  | 0, S, v1, v2 => (v1, v2, S)
  | n + 1, S, v1, v2 =>
    if (7 : Int32) ≤ v2 then ((pr (v1) (pr (v2) (S)))) else (bd ((sI S 71 v2.toNatClampNeg (gI S 84 (((7 : Int32) * v1) + v2).toNatClampNeg))) fun S1006 => L_X12_restore_67 n S1006 v1 (v2 + (1 : Int32)))
def T_X12_restore_67 : Nat → HSt → Int32 → Int32 → Prop
  | 0, _, _, _ => False
  | n + 1, S, v1, v2 => ((¬ (7 : Int32) ≤ v2) → vp_in (((7 : Int32) * v1) + v2) 14) ∧ ((¬ (7 : Int32) ≤ v2) → vp_in v2 7) ∧ ((¬ (7 : Int32) ≤ v2) → ∀ S1006 : HSt, (sI S 71 v2.toNatClampNeg (gI S 84 (((7 : Int32) * v1) + v2).toNatClampNeg)) = S1006 → T_X12_restore_67 n S1006 v1 (v2 + (1 : Int32)))
theorem qL_X12_restore_67 : ∀ (n : Nat) (S : HSt) (v1 : Int32) (v2 : Int32), shp (L_X12_restore_67 n S v1 v2).2.2 = shp S := by
  intro n
  induction n with
  | zero => intros; rfl
  | succ n ih =>
    intro S v1 v2
    unfold L_X12_restore_67
    repeat' (first | with_reducible refine shpr2 ?_ | with_reducible rfl | with_reducible refine (ih _ _ _).trans ?_ | with_reducible refine (qL_X12_restore_34 _ _ _ _).trans ?_ | with_reducible refine (shp_sI _ _ _ _).trans ?_ | with_reducible refine (shp_sJ _ _ _ _).trans ?_ | with_reducible refine shi ?_ ?_ | with_reducible refine shb (fun _ _ => ?_) | with_reducible refine shiP (fun q : Int32 × Int32 × HSt => q.2.2) ?_ ?_ | with_reducible refine shbP (fun q : Int32 × Int32 × HSt => q.2.2) (fun _ _ => ?_) | (subst_vars; with_reducible rfl) | (subst_vars; with_reducible refine (ih _ _ _).trans ?_) | (subst_vars; with_reducible refine (qL_X12_restore_34 _ _ _ _).trans ?_) | (subst_vars; with_reducible refine (shp_sI _ _ _ _).trans ?_) | (subst_vars; with_reducible refine (shp_sJ _ _ _ _).trans ?_) | (subst_vars; with_reducible refine shi ?_ ?_) | (subst_vars; with_reducible refine shb (fun _ _ => ?_)))
theorem vL_X12_restore_67 : ∀ (n : Nat) (S : HSt) (v1 : Int32) (v2 : Int32), Fr [(71, 1000)] S (L_X12_restore_67 n S v1 v2).2.2 := by
  intro n
  induction n with
  | zero => intros; exact Fr.refl _ _
  | succ n ih =>
    intro S v1 v2
    unfold L_X12_restore_67
    repeat' (first | with_reducible refine frpr2 ?_ | with_reducible exact Fr.refl _ _ | with_reducible refine Fr.lP (fun q : Int32 × Int32 × HSt => q.2.2) (fun _ _ => ?_) | with_reducible refine Fr.iteP (fun q : Int32 × Int32 × HSt => q.2.2) ?_ ?_ | with_reducible refine Fr.l1 (fun _ _ => ?_) | with_reducible refine Fr.ite ?_ ?_ | with_reducible refine Fr.sE (by assumption) (by first | decide | simp only [List.mem_cons, List.not_mem_nil, or_false, true_or, or_true, eq_self_iff_true]) ?_ | with_reducible refine Fr.jE (by assumption) ?_ | with_reducible refine Fr.rE (by assumption) (by first | decide | simp only [List.mem_cons, List.not_mem_nil, or_false, true_or, or_true, eq_self_iff_true]) ?_ | with_reducible refine Fr.iE (by assumption) ?_ ?_ | with_reducible refine Fr.tr (ih _ _ _) (by first | decide | simp only [List.mem_cons, List.not_mem_nil, or_false, forall_eq_or_imp, forall_eq, true_or, or_true, and_self, eq_self_iff_true]) ?_ | with_reducible refine Fr.tr (wL_X12_restore_34 _ _ _ _ _ (by assumption)) (by first | decide | simp only [List.mem_cons, List.not_mem_nil, or_false, forall_eq_or_imp, forall_eq, true_or, or_true, and_self, eq_self_iff_true]) ?_)
theorem wL_X12_restore_67 (n : Nat) (S : HSt) (v1 : Int32) (v2 : Int32) (r : Int32 × Int32 × HSt) (e : L_X12_restore_67 n S v1 v2 = r) : Fr [(71, 1000)] S r.2.2 := by
  rw [← e]
  exact vL_X12_restore_67 n S v1 v2
set_option maxRecDepth 100000 in
theorem l_X12_restore_67 {p : Program} {l : Launch} {e : Env} {s : State} {m : MethodId} {args : Array Value} {below : List Frame} {meth : Method} {c : Code} {G : GG} {Q : State → Prop} (hC : ACx p s m args meth c cX12_restore RX12 3 (some .long)) (hSt : St G s)  : ∀ (n : Nat) (S : HSt) (v1 : Int32) (v2 : Int32), MS S → T_X12_restore_67 n S v1 v2 → AW p l e (rmD 1 0 0) s m args below meth c G 3 Q (L_X12_restore_67 n S v1 v2).2.2 0 0 96 [(0, .ref 64), (1, .int (L_X12_restore_67 n S v1 v2).1), (2, .int (L_X12_restore_67 n S v1 v2).2.1)] [] → AW p l e (rmD 1 0 0) s m args below meth c G 3 Q S 0 0 67 [(0, .ref 64), (1, .int v1), (2, .int v2)] [] := by
  intro n
  induction n with
  | zero => intro S v1 v2 _ hT; exact hT.elim
  | succ n ih =>
    intro S v1 v2 hM hT hk
    unfold T_X12_restore_67 at hT
    obtain ⟨h0, h1, h2⟩ := hT
    refine aw_iload_n hC 2 dX12_restore_67 rfl rfl ?_
    refine aw_bipush (v := 7) hC dX12_restore_68 (by decide) ?_
    refine aw_icmp_ge hC 96 dX12_restore_70 (by decide) (fun c1005 => ?_) (fun c1005 => ?_)
    · refine aw_sub [0, 1, 2] rfl ?_
      have E : L_X12_restore_67 (n + 1) S v1 v2 = _ := (if_pos c1005).trans (rfl)
      rw [E] at hk
      exact hk
    · refine aw_aload_n hC 0 dX12_restore_73 rfl rfl ?_
      refine aw_getP (b := 71) hC hSt 27 (ms_lt 64 (by decide) hM) (ms_k 64 12 0 (by decide) hM) rfl (by decide) w_925 rfl (ms_p 27 71 (by decide) hM) dX12_restore_74 ?_
      refine aw_iload_n hC 2 dX12_restore_77 rfl rfl ?_
      refine aw_aload_n hC 0 dX12_restore_78 rfl rfl ?_
      refine aw_getP (b := 84) hC hSt 47 (ms_lt 64 (by decide) hM) (ms_k 64 12 0 (by decide) hM) rfl (by decide) w_940 rfl (ms_p 47 84 (by decide) hM) dX12_restore_79 ?_
      refine aw_bipush (v := 7) hC dX12_restore_82 (by decide) ?_
      refine aw_iload_n hC 1 dX12_restore_84 rfl rfl ?_
      refine aw_imul hC dX12_restore_85 ?_
      refine aw_iload_n hC 2 dX12_restore_86 rfl rfl ?_
      refine aw_iadd hC dX12_restore_87 ?_
      refine aw_iald hC hSt (ms_lt 84 (by decide) hM) (ms_k 84 14 14 (by decide) hM) (vp_len (n := 14) (ms_l 84 14 14 (by decide) hM) (h0 c1005)) dX12_restore_88 ?_
      refine aw_iast hC hSt (ms_lt 71 (by decide) hM) (ms_k 71 14 7 (by decide) hM) (vp_len (n := 7) (ms_l 71 14 7 (by decide) hM) (h1 c1005)) dX12_restore_89 ?_
      generalize eS1006 : (sI S 71 v2.toNatClampNeg (gI S 84 (((7 : Int32) * v1) + v2).toNatClampNeg)) = S1006
      have hM : MS S1006 := MS.of (by rw [← eS1006]; exact shp_sI _ _ _ _) hM
      refine aw_iinc (v := (v2 + (1 : Int32))) hC 2 [(2, .int _), (0, .ref 64), (1, .int _)] dX12_restore_90 rfl rfl (by decide) rfl ?_
      refine aw_goto hC 67 dX12_restore_93 (by decide) ?_
      refine aw_sub [1, 2, 0] rfl ?_
      have hTn := (h2 c1005 S1006 eS1006)
      have hMn : MS S1006 := hM
      have E : L_X12_restore_67 (n + 1) S v1 v2 = _ := (if_neg c1005).trans ((bd_eq eS1006).trans (rfl))
      rw [E] at hk
      exact ih _ _ _ hMn hTn hk
noncomputable def f_X12_restore (S : HSt) (_o : Nat) (a1 : Int32) : Int64 × HSt := bd ((sI S 64 0 (0 : Int32))) fun S1 => if (f_X12_in S1 a1.toInt64 (0 : Int64) (1 : Int64)) = 0 then (pr ((-9000000000000000001 : Int64)) (S1)) else (if (gI S1 82 a1.toNatClampNeg) = 0 then (pr ((-9000000000000000002 : Int64)) (S1)) else (bd (L_X12_restore_34 1000 S1 a1 (0 : Int32)) fun r4 => bd (L_X12_restore_67 1000 r4.2.2 r4.1 (0 : Int32)) fun r5 => bd ((sI r5.2.2 64 18 (gI r5.2.2 85 r5.1.toNatClampNeg))) fun S6 => bd ((sI S6 64 19 (gI S6 86 r5.1.toNatClampNeg))) fun S7 => pr ((1 : Int64)) (S7)))
def p_X12_restore (S : HSt) (_o : Nat) (a1 : Int32) : Prop := (∀ S1 : HSt, (sI S 64 0 (0 : Int32)) = S1 → (¬ (f_X12_in S1 a1.toInt64 (0 : Int64) (1 : Int64)) = 0) → vp_in a1 2) ∧ (∀ S1 : HSt, (sI S 64 0 (0 : Int32)) = S1 → (¬ (f_X12_in S1 a1.toInt64 (0 : Int64) (1 : Int64)) = 0) → (¬ (gI S1 82 a1.toNatClampNeg) = 0) → T_X12_restore_34 1000 S1 a1 (0 : Int32)) ∧ (∀ S1 : HSt, (sI S 64 0 (0 : Int32)) = S1 → (¬ (f_X12_in S1 a1.toInt64 (0 : Int64) (1 : Int64)) = 0) → (¬ (gI S1 82 a1.toNatClampNeg) = 0) → ∀ r4, L_X12_restore_34 1000 S1 a1 (0 : Int32) = r4 → T_X12_restore_67 1000 r4.2.2 r4.1 (0 : Int32)) ∧ (∀ S1 : HSt, (sI S 64 0 (0 : Int32)) = S1 → (¬ (f_X12_in S1 a1.toInt64 (0 : Int64) (1 : Int64)) = 0) → (¬ (gI S1 82 a1.toNatClampNeg) = 0) → ∀ r4, L_X12_restore_34 1000 S1 a1 (0 : Int32) = r4 → ∀ r5, L_X12_restore_67 1000 r4.2.2 r4.1 (0 : Int32) = r5 → vp_in r5.1 2) ∧ (∀ S1 : HSt, (sI S 64 0 (0 : Int32)) = S1 → (¬ (f_X12_in S1 a1.toInt64 (0 : Int64) (1 : Int64)) = 0) → (¬ (gI S1 82 a1.toNatClampNeg) = 0) → ∀ r4, L_X12_restore_34 1000 S1 a1 (0 : Int32) = r4 → ∀ r5, L_X12_restore_67 1000 r4.2.2 r4.1 (0 : Int32) = r5 → ∀ S6 : HSt, (sI r5.2.2 64 18 (gI r5.2.2 85 r5.1.toNatClampNeg)) = S6 → vp_in r5.1 2)
set_option maxRecDepth 100000 in
theorem t_X12_restore (G : GG) (l : Launch) {S : HSt} (hM : MS S) (a1 : Int32) (hp : p_X12_restore S 64 a1) : AM G l yX12_restore cX12_restore 3 (some .long) (rmD 1 0 0) 0 0 [.ref 64, .int a1] S (FP (some (.long (f_X12_restore S 64 a1).1)) ((f_X12_restore S 64 a1).2)) := by
  obtain ⟨h0, h1, h2, h3, h4⟩ := hp
  refine AM.mk (by decide) (Nat.le_of_ble_eq_true rfl) ?_
  intro p e s m below meth c hC hSt _
  refine aw_aload_n hC 0 dX12_restore_0 rfl rfl ?_
  refine aw_iconst (v := 0) hC dX12_restore_1 (by decide) ?_
  refine aw_putI hC hSt 0 (ms_lt 64 (by decide) hM) (ms_k 64 12 0 (by decide) hM) rfl (by decide) w_955 rfl rfl rfl rfl dX12_restore_2 ?_
  generalize eS1 : (sI S 64 0 (0 : Int32)) = S1
  have hM : MS S1 := MS.of (by rw [← eS1]; exact shp_sI _ _ _ _) hM
  refine aw_iload_n hC 1 dX12_restore_5 rfl rfl ?_
  refine aw_i2l hC dX12_restore_6 ?_
  refine aw_lconst (v := 0) hC dX12_restore_7 (by decide) ?_
  refine aw_lconst (v := 1) hC dX12_restore_8 (by decide) ?_
  refine aw_cS3r hC hSt (t_X12_in G l  _ _ _) w_945 w_951 w_952 w_953 rfl rfl (by decide +kernel) ⟨Nat.le_of_ble_eq_true rfl, Nat.le_of_ble_eq_true rfl⟩ (Nat.le_of_ble_eq_true rfl) dX12_restore_9 ⟨Nat.zero_le _, Nat.zero_le _⟩ ?_
  refine aw_if_ne hC 19 dX12_restore_12 (by decide) (fun c2 => ?_) (fun c2 => ?_)
  · refine aw_aload_n hC 0 dX12_restore_19 rfl rfl ?_
    refine aw_getP (b := 82) hC hSt 45 (ms_lt 64 (by decide) hM) (ms_k 64 12 0 (by decide) hM) rfl (by decide) w_938 rfl (ms_p 45 82 (by decide) hM) dX12_restore_20 ?_
    refine aw_iload_n hC 1 dX12_restore_23 rfl rfl ?_
    refine aw_zald hC hSt (ms_lt 82 (by decide) hM) (ms_k 82 16 2 (by decide) hM) (vp_len (n := 2) (ms_l 82 16 2 (by decide) hM) (h0 S1 eS1 c2)) dX12_restore_24 ?_
    refine aw_if_ne hC 32 dX12_restore_25 (by decide) (fun c3 => ?_) (fun c3 => ?_)
    · refine aw_iconst (v := 0) hC dX12_restore_32 (by decide) ?_
      refine aw_istore_n hC [(2, .int _), (0, .ref 64), (1, .int _)] dX12_restore_33 rfl (by decide) rfl ?_
      refine aw_sub [1, 2, 0] rfl ?_
      refine l_X12_restore_34 hC hSt 1000 _ _ _ hM (h1 S1 eS1 c2 c3) ?_
      generalize er4 : L_X12_restore_34 1000 S1 a1 (0 : Int32) = r4
      have hM : MS r4.2.2 := MS.of (by rw [← er4]; exact qL_X12_restore_34 _ _ _ _) hM
      refine aw_iconst (v := 0) hC dX12_restore_65 (by decide) ?_
      refine aw_istore_n hC [(2, .int _), (0, .ref 64), (1, .int _)] dX12_restore_66 rfl (by decide) rfl ?_
      refine aw_sub [1, 2, 0] rfl ?_
      refine l_X12_restore_67 hC hSt 1000 _ _ _ hM (h2 S1 eS1 c2 c3 r4 er4) ?_
      generalize er5 : L_X12_restore_67 1000 r4.2.2 r4.1 (0 : Int32) = r5
      have hM : MS r5.2.2 := MS.of (by rw [← er5]; exact qL_X12_restore_67 _ _ _ _) hM
      refine aw_aload_n hC 0 dX12_restore_96 rfl rfl ?_
      refine aw_aload_n hC 0 dX12_restore_97 rfl rfl ?_
      refine aw_getP (b := 85) hC hSt 48 (ms_lt 64 (by decide) hM) (ms_k 64 12 0 (by decide) hM) rfl (by decide) w_941 rfl (ms_p 48 85 (by decide) hM) dX12_restore_98 ?_
      refine aw_iload_n hC 1 dX12_restore_101 rfl rfl ?_
      refine aw_iald hC hSt (ms_lt 85 (by decide) hM) (ms_k 85 14 2 (by decide) hM) (vp_len (n := 2) (ms_l 85 14 2 (by decide) hM) (h3 S1 eS1 c2 c3 r4 er4 r5 er5)) dX12_restore_102 ?_
      refine aw_putI hC hSt 18 (ms_lt 64 (by decide) hM) (ms_k 64 12 0 (by decide) hM) rfl (by decide) w_1052 rfl rfl rfl rfl dX12_restore_103 ?_
      generalize eS6 : (sI r5.2.2 64 18 (gI r5.2.2 85 r5.1.toNatClampNeg)) = S6
      have hM : MS S6 := MS.of (by rw [← eS6]; exact shp_sI _ _ _ _) hM
      refine aw_aload_n hC 0 dX12_restore_106 rfl rfl ?_
      refine aw_aload_n hC 0 dX12_restore_107 rfl rfl ?_
      refine aw_getP (b := 86) hC hSt 49 (ms_lt 64 (by decide) hM) (ms_k 64 12 0 (by decide) hM) rfl (by decide) w_942 rfl (ms_p 49 86 (by decide) hM) dX12_restore_108 ?_
      refine aw_iload_n hC 1 dX12_restore_111 rfl rfl ?_
      refine aw_iald hC hSt (ms_lt 86 (by decide) hM) (ms_k 86 14 2 (by decide) hM) (vp_len (n := 2) (ms_l 86 14 2 (by decide) hM) (h4 S1 eS1 c2 c3 r4 er4 r5 er5 S6 eS6)) dX12_restore_112 ?_
      refine aw_putI hC hSt 19 (ms_lt 64 (by decide) hM) (ms_k 64 12 0 (by decide) hM) rfl (by decide) w_924 rfl rfl rfl rfl dX12_restore_113 ?_
      generalize eS7 : (sI S6 64 19 (gI S6 86 r5.1.toNatClampNeg)) = S7
      have hM : MS S7 := MS.of (by rw [← eS7]; exact shp_sI _ _ _ _) hM
      refine aw_lconst (v := 1) hC dX12_restore_116 (by decide) ?_
      refine aw_lret hC dX12_restore_117 (Nat.le_refl _) (Nat.le_refl _) ?_
      exact FP.qJ ((bd_eq eS1).trans ((if_neg c2).trans ((if_neg c3).trans ((bd_eq er4).trans ((bd_eq er5).trans ((bd_eq eS6).trans ((bd_eq eS7).trans (rfl))))))))
    · refine aw_ldc2 (v := -9000000000000000002) hC w_1151 dX12_restore_28 ?_
      refine aw_lret hC dX12_restore_31 (Nat.le_refl _) (Nat.le_refl _) ?_
      exact FP.qJ ((bd_eq eS1).trans ((if_neg c2).trans ((if_pos c3).trans (rfl))))
  · refine aw_ldc2 (v := -9000000000000000001) hC w_957 dX12_restore_15 ?_
    refine aw_lret hC dX12_restore_18 (Nat.le_refl _) (Nat.le_refl _) ?_
    exact FP.qJ ((bd_eq eS1).trans ((if_pos c2).trans (rfl)))
theorem q_X12_restore (S : HSt) (_o : Nat) (a1 : Int32) : shp ((f_X12_restore S _o a1).2) = shp S := by
  unfold f_X12_restore
  repeat' (first | with_reducible refine shpr1 ?_ | with_reducible rfl | with_reducible refine (qL_X12_restore_34 _ _ _ _).trans ?_ | with_reducible refine (qL_X12_restore_67 _ _ _ _).trans ?_ | with_reducible refine (shp_sI _ _ _ _).trans ?_ | with_reducible refine (shp_sJ _ _ _ _).trans ?_ | with_reducible refine shi ?_ ?_ | with_reducible refine shb (fun _ _ => ?_) | with_reducible refine shiP (fun q : Int64 × HSt => q.2) ?_ ?_ | with_reducible refine shbP (fun q : Int64 × HSt => q.2) (fun _ _ => ?_) | (subst_vars; with_reducible rfl) | (subst_vars; with_reducible refine (qL_X12_restore_34 _ _ _ _).trans ?_) | (subst_vars; with_reducible refine (qL_X12_restore_67 _ _ _ _).trans ?_) | (subst_vars; with_reducible refine (shp_sI _ _ _ _).trans ?_) | (subst_vars; with_reducible refine (shp_sJ _ _ _ _).trans ?_) | (subst_vars; with_reducible refine shi ?_ ?_) | (subst_vars; with_reducible refine shb (fun _ _ => ?_)))
theorem v_X12_restore (S : HSt) (_o : Nat) (a1 : Int32) : Fr [(64, 0), (64, 18), (64, 19), (68, 1000), (71, 1000)] S ((f_X12_restore S _o a1).2) := by
  unfold f_X12_restore
  repeat' (first | with_reducible refine frpr1 ?_ | with_reducible exact Fr.refl _ _ | with_reducible refine Fr.lP (fun q : Int64 × HSt => q.2) (fun _ _ => ?_) | with_reducible refine Fr.iteP (fun q : Int64 × HSt => q.2) ?_ ?_ | with_reducible refine Fr.l1 (fun _ _ => ?_) | with_reducible refine Fr.ite ?_ ?_ | with_reducible refine Fr.sE (by assumption) (by first | decide | simp only [List.mem_cons, List.not_mem_nil, or_false, true_or, or_true, eq_self_iff_true]) ?_ | with_reducible refine Fr.jE (by assumption) ?_ | with_reducible refine Fr.rE (by assumption) (by first | decide | simp only [List.mem_cons, List.not_mem_nil, or_false, true_or, or_true, eq_self_iff_true]) ?_ | with_reducible refine Fr.iE (by assumption) ?_ ?_ | with_reducible refine Fr.tr (wL_X12_restore_34 _ _ _ _ _ (by assumption)) (by first | decide | simp only [List.mem_cons, List.not_mem_nil, or_false, forall_eq_or_imp, forall_eq, true_or, or_true, and_self, eq_self_iff_true]) ?_ | with_reducible refine Fr.tr (wL_X12_restore_67 _ _ _ _ _ (by assumption)) (by first | decide | simp only [List.mem_cons, List.not_mem_nil, or_false, forall_eq_or_imp, forall_eq, true_or, or_true, and_self, eq_self_iff_true]) ?_)
theorem w_X12_restore (S : HSt) (_o : Nat) (a1 : Int32) (r : Int64 × HSt) (e : f_X12_restore S _o a1 = r) : Fr [(64, 0), (64, 18), (64, 19), (68, 1000), (71, 1000)] S r.2 := by
  rw [← e]
  exact v_X12_restore S _o a1
noncomputable def F_X12_isOf (S : HSt) (a1 : Int32) (a2 : Int32) : Int32 × HSt := bd ((if a2 = 0 then (1 : Int32) else (if a1 = a2 then (1 : Int32) else (if a2 = (1 : Int32) then (if a1 = (2 : Int32) then (1 : Int32) else (if a1 = (3 : Int32) then (1 : Int32) else (if a2 = (4 : Int32) then (if a1 = (5 : Int32) then (1 : Int32) else (0 : Int32)) else (0 : Int32)))) else (if a2 = (4 : Int32) then (if a1 = (5 : Int32) then (1 : Int32) else (0 : Int32)) else (0 : Int32)))))) fun x10 => pr (x10) (S)
noncomputable def f_X12_isOf (S : HSt) (a1 : Int32) (a2 : Int32) : Int32 := (F_X12_isOf S a1 a2).1
set_option maxRecDepth 100000 in
theorem t_X12_isOf (G : GG) (l : Launch) {S : HSt} (a1 : Int32) (a2 : Int32)  : AM G l yX12_isOf cX12_isOf 2 (some .boolean) (rmD 0 0 0) 0 0 [.int a1, .int a2] S (FP (some (.int (f_X12_isOf S a1 a2))) (S)) := by
  refine AM.mk (by decide) (Nat.le_of_ble_eq_true rfl) ?_
  intro p e s m below meth c hC hSt _
  refine aw_iload_n hC 1 dX12_isOf_0 rfl rfl ?_
  refine aw_cut (S' := S) (pc' := 39) (lv' := [(0, .int a1), (1, .int a2)]) (st' := [.int (if a2 = 0 then (1 : Int32) else (if a1 = a2 then (1 : Int32) else (if a2 = (1 : Int32) then (if a1 = (2 : Int32) then (1 : Int32) else (if a1 = (3 : Int32) then (1 : Int32) else (if a2 = (4 : Int32) then (if a1 = (5 : Int32) then (1 : Int32) else (0 : Int32)) else (0 : Int32)))) else (if a2 = (4 : Int32) then (if a1 = (5 : Int32) then (1 : Int32) else (0 : Int32)) else (0 : Int32)))))]) ?_ (fun Jc1 => ?_)
  · generalize ex10 : (if a2 = 0 then (1 : Int32) else (if a1 = a2 then (1 : Int32) else (if a2 = (1 : Int32) then (if a1 = (2 : Int32) then (1 : Int32) else (if a1 = (3 : Int32) then (1 : Int32) else (if a2 = (4 : Int32) then (if a1 = (5 : Int32) then (1 : Int32) else (0 : Int32)) else (0 : Int32)))) else (if a2 = (4 : Int32) then (if a1 = (5 : Int32) then (1 : Int32) else (0 : Int32)) else (0 : Int32))))) = x10
    refine aw_zret hC dX12_isOf_39 (Nat.le_refl _) (Nat.le_refl _) (Bz.n (ex10 ▸ (Bz.ite (Or.inr rfl) (Bz.ite (Or.inr rfl) (Bz.ite (Bz.ite (Or.inr rfl) (Bz.ite (Or.inr rfl) (Bz.ite (Bz.ite (Or.inr rfl) (Or.inl rfl)) (Or.inl rfl)))) (Bz.ite (Bz.ite (Or.inr rfl) (Or.inl rfl)) (Or.inl rfl))))))) ?_
    exact FP.pI ((bd_eq ex10).trans (rfl))
  · refine aw_if_eq hC 34 dX12_isOf_1 (by decide) (fun c1 => ?_) (fun c1 => ?_)
    · refine aw_iconst (v := 1) hC dX12_isOf_34 (by decide) ?_
      refine aw_goto hC 39 dX12_isOf_35 (by decide) ?_
      simp only [bd_def, if_pos c1] at Jc1 ⊢
      exact Jc1
    · refine aw_iload_n hC 0 dX12_isOf_4 rfl rfl ?_
      refine aw_iload_n hC 1 dX12_isOf_5 rfl rfl ?_
      refine aw_icmp_eq hC 34 dX12_isOf_6 (by decide) (fun c2 => ?_) (fun c2 => ?_)
      · refine aw_iconst (v := 1) hC dX12_isOf_34 (by decide) ?_
        refine aw_goto hC 39 dX12_isOf_35 (by decide) ?_
        simp only [bd_def, if_neg c1, if_pos c2] at Jc1 ⊢
        exact Jc1
      · refine aw_iload_n hC 1 dX12_isOf_9 rfl rfl ?_
        refine aw_iconst (v := 1) hC dX12_isOf_10 (by decide) ?_
        refine aw_icmp_ne hC 24 dX12_isOf_11 (by decide) (fun c3 => ?_) (fun c3 => ?_)
        · refine aw_iload_n hC 1 dX12_isOf_24 rfl rfl ?_
          refine aw_iconst (v := 4) hC dX12_isOf_25 (by decide) ?_
          refine aw_icmp_ne hC 38 dX12_isOf_26 (by decide) (fun c4 => ?_) (fun c4 => ?_)
          · refine aw_iconst (v := 0) hC dX12_isOf_38 (by decide) ?_
            simp only [bd_def, if_neg c1, if_neg c2, if_neg c3, if_neg c4] at Jc1 ⊢
            exact Jc1
          · refine aw_iload_n hC 0 dX12_isOf_29 rfl rfl ?_
            refine aw_iconst (v := 5) hC dX12_isOf_30 (by decide) ?_
            refine aw_icmp_ne hC 38 dX12_isOf_31 (by decide) (fun c5 => ?_) (fun c5 => ?_)
            · refine aw_iconst (v := 0) hC dX12_isOf_38 (by decide) ?_
              simp only [bd_def, if_neg c1, if_neg c2, if_neg c3, if_pos c4, if_neg c5] at Jc1 ⊢
              exact Jc1
            · refine aw_iconst (v := 1) hC dX12_isOf_34 (by decide) ?_
              refine aw_goto hC 39 dX12_isOf_35 (by decide) ?_
              simp only [bd_def, if_neg c1, if_neg c2, if_neg c3, if_pos c4, if_pos c5] at Jc1 ⊢
              exact Jc1
        · refine aw_iload_n hC 0 dX12_isOf_14 rfl rfl ?_
          refine aw_iconst (v := 2) hC dX12_isOf_15 (by decide) ?_
          refine aw_icmp_eq hC 34 dX12_isOf_16 (by decide) (fun c6 => ?_) (fun c6 => ?_)
          · refine aw_iconst (v := 1) hC dX12_isOf_34 (by decide) ?_
            refine aw_goto hC 39 dX12_isOf_35 (by decide) ?_
            simp only [bd_def, if_neg c1, if_neg c2, if_pos c3, if_pos c6] at Jc1 ⊢
            exact Jc1
          · refine aw_iload_n hC 0 dX12_isOf_19 rfl rfl ?_
            refine aw_iconst (v := 3) hC dX12_isOf_20 (by decide) ?_
            refine aw_icmp_eq hC 34 dX12_isOf_21 (by decide) (fun c7 => ?_) (fun c7 => ?_)
            · refine aw_iconst (v := 1) hC dX12_isOf_34 (by decide) ?_
              refine aw_goto hC 39 dX12_isOf_35 (by decide) ?_
              simp only [bd_def, if_neg c1, if_neg c2, if_pos c3, if_neg c6, if_pos c7] at Jc1 ⊢
              exact Jc1
            · refine aw_iload_n hC 1 dX12_isOf_24 rfl rfl ?_
              refine aw_iconst (v := 4) hC dX12_isOf_25 (by decide) ?_
              refine aw_icmp_ne hC 38 dX12_isOf_26 (by decide) (fun c8 => ?_) (fun c8 => ?_)
              · refine aw_iconst (v := 0) hC dX12_isOf_38 (by decide) ?_
                simp only [bd_def, if_neg c1, if_neg c2, if_pos c3, if_neg c6, if_neg c7, if_neg c8] at Jc1 ⊢
                exact Jc1
              · refine aw_iload_n hC 0 dX12_isOf_29 rfl rfl ?_
                refine aw_iconst (v := 5) hC dX12_isOf_30 (by decide) ?_
                refine aw_icmp_ne hC 38 dX12_isOf_31 (by decide) (fun c9 => ?_) (fun c9 => ?_)
                · refine aw_iconst (v := 0) hC dX12_isOf_38 (by decide) ?_
                  simp only [bd_def, if_neg c1, if_neg c2, if_pos c3, if_neg c6, if_neg c7, if_pos c8, if_neg c9] at Jc1 ⊢
                  exact Jc1
                · refine aw_iconst (v := 1) hC dX12_isOf_34 (by decide) ?_
                  refine aw_goto hC 39 dX12_isOf_35 (by decide) ?_
                  simp only [bd_def, if_neg c1, if_neg c2, if_pos c3, if_neg c6, if_neg c7, if_pos c8, if_pos c9] at Jc1 ⊢
                  exact Jc1
theorem b_X12_isOf (S : HSt) (a1 : Int32) (a2 : Int32) : Bz (f_X12_isOf S a1 a2) := by
  unfold f_X12_isOf F_X12_isOf
  (try dsimp only [bd])
  (repeat' split) <;> first | exact Or.inl rfl | exact Or.inr rfl
noncomputable def f_X12_kind (S : HSt) (_o : Nat) (a1 : Int32) : Int64 × HSt := bd ((sI S 64 0 (0 : Int32))) fun S1 => bd ((if (f_X12_isAct S1 64 a1) = 0 then (-9000000000000000001 : Int64) else (f_X12_deed S1 64 a1 (0 : Int32)).toInt64)) fun x3 => pr (x3) (S1)
def p_X12_kind (S : HSt) (_o : Nat) (a1 : Int32) : Prop := (∀ S1 : HSt, (sI S 64 0 (0 : Int32)) = S1 → (¬ (f_X12_isAct S1 64 a1) = 0) → p_X12_deed S1 64 a1 (0 : Int32))
set_option maxRecDepth 100000 in
theorem t_X12_kind (G : GG) (l : Launch) {S : HSt} (hM : MS S) (a1 : Int32) (hp : p_X12_kind S 64 a1) : AM G l yX12_kind cX12_kind 2 (some .long) (rmD 2 0 0) 0 0 [.ref 64, .int a1] S (FP (some (.long (f_X12_kind S 64 a1).1)) ((f_X12_kind S 64 a1).2)) := by
  have h0 := hp
  unfold p_X12_kind at h0
  refine AM.mk (by decide) (Nat.le_of_ble_eq_true rfl) ?_
  intro p e s m below meth c hC hSt _
  refine aw_aload_n hC 0 dX12_kind_0 rfl rfl ?_
  refine aw_iconst (v := 0) hC dX12_kind_1 (by decide) ?_
  refine aw_putI hC hSt 0 (ms_lt 64 (by decide) hM) (ms_k 64 12 0 (by decide) hM) rfl (by decide) w_955 rfl rfl rfl rfl dX12_kind_2 ?_
  generalize eS1 : (sI S 64 0 (0 : Int32)) = S1
  have hM : MS S1 := MS.of (by rw [← eS1]; exact shp_sI _ _ _ _) hM
  refine aw_aload_n hC 0 dX12_kind_5 rfl rfl ?_
  refine aw_iload_n hC 1 dX12_kind_6 rfl rfl ?_
  refine aw_cV1r hC hSt (t_X12_isAct G l hM _) w_1079 w_1085 w_1086 w_1087 w_953 rfl rfl (by decide +kernel) ⟨Nat.le_of_ble_eq_true rfl, Nat.le_of_ble_eq_true rfl⟩ (ms_lt 64 (by decide) hM) (ms_k 64 12 0 (by decide) hM) rfl (Nat.le_of_ble_eq_true rfl) dX12_kind_7 ⟨Nat.zero_le _, Nat.zero_le _⟩ ?_
  refine aw_cut (S' := S1) (pc' := 26) (lv' := [(0, .ref 64), (1, .int a1)]) (st' := [.long (if (f_X12_isAct S1 64 a1) = 0 then (-9000000000000000001 : Int64) else (f_X12_deed S1 64 a1 (0 : Int32)).toInt64)]) ?_ (fun Jc2 => ?_)
  · generalize ex3 : (if (f_X12_isAct S1 64 a1) = 0 then (-9000000000000000001 : Int64) else (f_X12_deed S1 64 a1 (0 : Int32)).toInt64) = x3
    refine aw_lret hC dX12_kind_26 (Nat.le_refl _) (Nat.le_refl _) ?_
    exact FP.qJ ((bd_eq eS1).trans ((bd_eq ex3).trans (rfl)))
  · refine aw_if_eq hC 23 dX12_kind_10 (by decide) (fun c2 => ?_) (fun c2 => ?_)
    · refine aw_ldc2 (v := -9000000000000000001) hC w_957 dX12_kind_23 ?_
      simp only [bd_def, if_pos c2] at Jc2 ⊢
      exact Jc2
    · refine aw_aload_n hC 0 dX12_kind_13 rfl rfl ?_
      refine aw_iload_n hC 1 dX12_kind_14 rfl rfl ?_
      refine aw_iconst (v := 0) hC dX12_kind_15 (by decide) ?_
      refine aw_cV2r hC hSt (t_X12_deed G l hM _ _ (h0 S1 eS1 c2)) w_1080 w_1088 w_1089 w_1090 w_953 rfl rfl (by decide +kernel) ⟨Nat.le_of_ble_eq_true rfl, Nat.le_of_ble_eq_true rfl⟩ (ms_lt 64 (by decide) hM) (ms_k 64 12 0 (by decide) hM) rfl (Nat.le_of_ble_eq_true rfl) dX12_kind_16 ⟨Nat.zero_le _, Nat.zero_le _⟩ ?_
      refine aw_i2l hC dX12_kind_19 ?_
      refine aw_goto hC 26 dX12_kind_20 (by decide) ?_
      simp only [bd_def, if_neg c2] at Jc2 ⊢
      exact Jc2
theorem q_X12_kind (S : HSt) (_o : Nat) (a1 : Int32) : shp ((f_X12_kind S _o a1).2) = shp S := by
  unfold f_X12_kind
  repeat' (first | with_reducible refine shpr1 ?_ | with_reducible rfl | with_reducible refine (shp_sI _ _ _ _).trans ?_ | with_reducible refine (shp_sJ _ _ _ _).trans ?_ | with_reducible refine shi ?_ ?_ | with_reducible refine shb (fun _ _ => ?_) | with_reducible refine shiP (fun q : Int64 × HSt => q.2) ?_ ?_ | with_reducible refine shbP (fun q : Int64 × HSt => q.2) (fun _ _ => ?_) | (subst_vars; with_reducible rfl) | (subst_vars; with_reducible refine (shp_sI _ _ _ _).trans ?_) | (subst_vars; with_reducible refine (shp_sJ _ _ _ _).trans ?_) | (subst_vars; with_reducible refine shi ?_ ?_) | (subst_vars; with_reducible refine shb (fun _ _ => ?_)))
theorem v_X12_kind (S : HSt) (_o : Nat) (a1 : Int32) : Fr [(64, 0)] S ((f_X12_kind S _o a1).2) := by
  unfold f_X12_kind
  repeat' (first | with_reducible refine frpr1 ?_ | with_reducible exact Fr.refl _ _ | with_reducible refine Fr.lP (fun q : Int64 × HSt => q.2) (fun _ _ => ?_) | with_reducible refine Fr.iteP (fun q : Int64 × HSt => q.2) ?_ ?_ | with_reducible refine Fr.l1 (fun _ _ => ?_) | with_reducible refine Fr.ite ?_ ?_ | with_reducible refine Fr.sE (by assumption) (by first | decide | simp only [List.mem_cons, List.not_mem_nil, or_false, true_or, or_true, eq_self_iff_true]) ?_ | with_reducible refine Fr.jE (by assumption) ?_ | with_reducible refine Fr.rE (by assumption) (by first | decide | simp only [List.mem_cons, List.not_mem_nil, or_false, true_or, or_true, eq_self_iff_true]) ?_ | with_reducible refine Fr.iE (by assumption) ?_ ?_)
theorem w_X12_kind (S : HSt) (_o : Nat) (a1 : Int32) (r : Int64 × HSt) (e : f_X12_kind S _o a1 = r) : Fr [(64, 0)] S r.2 := by
  rw [← e]
  exact v_X12_kind S _o a1
noncomputable def f_X12_as (S : HSt) (_o : Nat) (a1 : Int32) (a2 : Int32) : Int64 × HSt := bd ((sI S 64 0 (0 : Int32))) fun S1 => if (f_X12_isAct S1 64 a1) = 0 then (pr ((-9000000000000000001 : Int64)) (S1)) else (if (f_X12_in S1 a2.toInt64 (0 : Int64) (6 : Int64)) = 0 then (pr ((-9000000000000000001 : Int64)) (S1)) else (bd ((sI S1 64 1 (0 : Int32))) fun S4 => bd ((if (f_X12_isOf S4 (f_X12_deed S4 64 a1 (0 : Int32)) a2) = 0 then (bd (f_X12_finding S4 64 (3 : Int32)) fun r6 => r6.1) else a1.toInt64)) fun x7 => bd ((if (f_X12_isOf S4 (f_X12_deed S4 64 a1 (0 : Int32)) a2) = 0 then (bd (f_X12_finding S4 64 (3 : Int32)) fun r6 => r6.2) else S4)) fun S8 => pr (x7) (S8)))
def p_X12_as (S : HSt) (_o : Nat) (a1 : Int32) (a2 : Int32) : Prop := (∀ S1 : HSt, (sI S 64 0 (0 : Int32)) = S1 → (¬ (f_X12_isAct S1 64 a1) = 0) → (¬ (f_X12_in S1 a2.toInt64 (0 : Int64) (6 : Int64)) = 0) → ∀ S4 : HSt, (sI S1 64 1 (0 : Int32)) = S4 → p_X12_deed S4 64 a1 (0 : Int32))
set_option maxRecDepth 100000 in
theorem t_X12_as (G : GG) (l : Launch) {S : HSt} (hM : MS S) (a1 : Int32) (a2 : Int32) (hp : p_X12_as S 64 a1 a2) : AM G l yX12_as cX12_as 3 (some .long) (rmD 2 0 0) 0 0 [.ref 64, .int a1, .int a2] S (FP (some (.long (f_X12_as S 64 a1 a2).1)) ((f_X12_as S 64 a1 a2).2)) := by
  have h0 := hp
  unfold p_X12_as at h0
  refine AM.mk (by decide) (Nat.le_of_ble_eq_true rfl) ?_
  intro p e s m below meth c hC hSt _
  refine aw_aload_n hC 0 dX12_as_0 rfl rfl ?_
  refine aw_iconst (v := 0) hC dX12_as_1 (by decide) ?_
  refine aw_putI hC hSt 0 (ms_lt 64 (by decide) hM) (ms_k 64 12 0 (by decide) hM) rfl (by decide) w_955 rfl rfl rfl rfl dX12_as_2 ?_
  generalize eS1 : (sI S 64 0 (0 : Int32)) = S1
  have hM : MS S1 := MS.of (by rw [← eS1]; exact shp_sI _ _ _ _) hM
  refine aw_aload_n hC 0 dX12_as_5 rfl rfl ?_
  refine aw_iload_n hC 1 dX12_as_6 rfl rfl ?_
  refine aw_cV1r hC hSt (t_X12_isAct G l hM _) w_1079 w_1085 w_1086 w_1087 w_953 rfl rfl (by decide +kernel) ⟨Nat.le_of_ble_eq_true rfl, Nat.le_of_ble_eq_true rfl⟩ (ms_lt 64 (by decide) hM) (ms_k 64 12 0 (by decide) hM) rfl (Nat.le_of_ble_eq_true rfl) dX12_as_7 ⟨Nat.zero_le _, Nat.zero_le _⟩ ?_
  refine aw_if_eq hC 25 dX12_as_10 (by decide) (fun c2 => ?_) (fun c2 => ?_)
  · refine aw_ldc2 (v := -9000000000000000001) hC w_957 dX12_as_25 ?_
    refine aw_lret hC dX12_as_28 (Nat.le_refl _) (Nat.le_refl _) ?_
    exact FP.qJ ((bd_eq eS1).trans ((if_pos c2).trans (rfl)))
  · refine aw_iload_n hC 2 dX12_as_13 rfl rfl ?_
    refine aw_i2l hC dX12_as_14 ?_
    refine aw_lconst (v := 0) hC dX12_as_15 (by decide) ?_
    refine aw_ldc2 (v := 6) hC w_1168 dX12_as_16 ?_
    refine aw_cS3r hC hSt (t_X12_in G l  _ _ _) w_945 w_951 w_952 w_953 rfl rfl (by decide +kernel) ⟨Nat.le_of_ble_eq_true rfl, Nat.le_of_ble_eq_true rfl⟩ (Nat.le_of_ble_eq_true rfl) dX12_as_19 ⟨Nat.zero_le _, Nat.zero_le _⟩ ?_
    refine aw_if_ne hC 29 dX12_as_22 (by decide) (fun c3 => ?_) (fun c3 => ?_)
    · refine aw_aload_n hC 0 dX12_as_29 rfl rfl ?_
      refine aw_iconst (v := 0) hC dX12_as_30 (by decide) ?_
      refine aw_putI hC hSt 1 (ms_lt 64 (by decide) hM) (ms_k 64 12 0 (by decide) hM) rfl (by decide) w_947 rfl rfl rfl rfl dX12_as_31 ?_
      generalize eS4 : (sI S1 64 1 (0 : Int32)) = S4
      have hM : MS S4 := MS.of (by rw [← eS4]; exact shp_sI _ _ _ _) hM
      refine aw_aload_n hC 0 dX12_as_34 rfl rfl ?_
      refine aw_iload_n hC 1 dX12_as_35 rfl rfl ?_
      refine aw_iconst (v := 0) hC dX12_as_36 (by decide) ?_
      refine aw_cV2r hC hSt (t_X12_deed G l hM _ _ (h0 S1 eS1 c2 c3 S4 eS4)) w_1080 w_1088 w_1089 w_1090 w_953 rfl rfl (by decide +kernel) ⟨Nat.le_of_ble_eq_true rfl, Nat.le_of_ble_eq_true rfl⟩ (ms_lt 64 (by decide) hM) (ms_k 64 12 0 (by decide) hM) rfl (Nat.le_of_ble_eq_true rfl) dX12_as_37 ⟨Nat.zero_le _, Nat.zero_le _⟩ ?_
      refine aw_iload_n hC 2 dX12_as_40 rfl rfl ?_
      refine aw_cS2r hC hSt (t_X12_isOf G l  _ _) w_1269 w_1271 w_1272 w_953 rfl rfl (by decide +kernel) ⟨Nat.le_of_ble_eq_true rfl, Nat.le_of_ble_eq_true rfl⟩ (Nat.le_of_ble_eq_true rfl) dX12_as_41 ⟨Nat.zero_le _, Nat.zero_le _⟩ ?_
      refine aw_cut (S' := (if (f_X12_isOf S4 (f_X12_deed S4 64 a1 (0 : Int32)) a2) = 0 then (bd (f_X12_finding S4 64 (3 : Int32)) fun r6 => r6.2) else S4)) (pc' := 57) (lv' := [(0, .ref 64), (1, .int a1), (2, .int a2)]) (st' := [.long (if (f_X12_isOf S4 (f_X12_deed S4 64 a1 (0 : Int32)) a2) = 0 then (bd (f_X12_finding S4 64 (3 : Int32)) fun r6 => r6.1) else a1.toInt64)]) ?_ (fun Jc5 => ?_)
      · generalize ex7 : (if (f_X12_isOf S4 (f_X12_deed S4 64 a1 (0 : Int32)) a2) = 0 then (bd (f_X12_finding S4 64 (3 : Int32)) fun r6 => r6.1) else a1.toInt64) = x7
        generalize eS8 : (if (f_X12_isOf S4 (f_X12_deed S4 64 a1 (0 : Int32)) a2) = 0 then (bd (f_X12_finding S4 64 (3 : Int32)) fun r6 => r6.2) else S4) = S8
        have hM : MS S8 := MS.of (by rw [← eS8]; repeat' (first | with_reducible rfl | with_reducible refine (q_X12_finding _ _ _).trans ?_ | with_reducible refine (shp_sI _ _ _ _).trans ?_ | with_reducible refine (shp_sJ _ _ _ _).trans ?_ | with_reducible refine shi ?_ ?_ | with_reducible refine shb (fun _ _ => ?_) | (subst_vars; with_reducible rfl) | (subst_vars; with_reducible refine (q_X12_finding _ _ _).trans ?_) | (subst_vars; with_reducible refine (shp_sI _ _ _ _).trans ?_) | (subst_vars; with_reducible refine (shp_sJ _ _ _ _).trans ?_) | (subst_vars; with_reducible refine shi ?_ ?_) | (subst_vars; with_reducible refine shb (fun _ _ => ?_)))) hM
        refine aw_lret hC dX12_as_57 (Nat.le_refl _) (Nat.le_refl _) ?_
        exact FP.qJ ((bd_eq eS1).trans ((if_neg c2).trans ((if_neg c3).trans ((bd_eq eS4).trans ((bd_eq ex7).trans ((bd_eq eS8).trans (rfl)))))))
      · refine aw_if_eq hC 52 dX12_as_44 (by decide) (fun c5 => ?_) (fun c5 => ?_)
        · refine aw_aload_n hC 0 dX12_as_52 rfl rfl ?_
          refine aw_iconst (v := 3) hC dX12_as_53 (by decide) ?_
          refine aw_cV1r hC hSt (t_X12_finding G l hM _) w_946 w_960 w_961 w_962 w_953 rfl rfl (by decide +kernel) ⟨Nat.le_of_ble_eq_true rfl, Nat.le_of_ble_eq_true rfl⟩ (ms_lt 64 (by decide) hM) (ms_k 64 12 0 (by decide) hM) rfl (Nat.le_of_ble_eq_true rfl) dX12_as_54 ⟨Nat.zero_le _, Nat.zero_le _⟩ ?_
          generalize er6 : f_X12_finding S4 64 (3 : Int32) = r6
          have hM : MS r6.2 := MS.of (by rw [← er6]; exact q_X12_finding _ _ _) hM
          subst er6
          simp only [bd_def, if_pos c5] at Jc5 ⊢
          exact Jc5
        · refine aw_iload_n hC 1 dX12_as_47 rfl rfl ?_
          refine aw_i2l hC dX12_as_48 ?_
          refine aw_goto hC 57 dX12_as_49 (by decide) ?_
          simp only [bd_def, if_neg c5] at Jc5 ⊢
          exact Jc5
    · refine aw_ldc2 (v := -9000000000000000001) hC w_957 dX12_as_25 ?_
      refine aw_lret hC dX12_as_28 (Nat.le_refl _) (Nat.le_refl _) ?_
      exact FP.qJ ((bd_eq eS1).trans ((if_neg c2).trans ((if_pos c3).trans (rfl))))
theorem q_X12_as (S : HSt) (_o : Nat) (a1 : Int32) (a2 : Int32) : shp ((f_X12_as S _o a1 a2).2) = shp S := by
  unfold f_X12_as
  repeat' (first | with_reducible refine shpr1 ?_ | with_reducible rfl | with_reducible refine (q_X12_finding _ _ _).trans ?_ | with_reducible refine (shp_sI _ _ _ _).trans ?_ | with_reducible refine (shp_sJ _ _ _ _).trans ?_ | with_reducible refine shi ?_ ?_ | with_reducible refine shb (fun _ _ => ?_) | with_reducible refine shiP (fun q : Int64 × HSt => q.2) ?_ ?_ | with_reducible refine shbP (fun q : Int64 × HSt => q.2) (fun _ _ => ?_) | (subst_vars; with_reducible rfl) | (subst_vars; with_reducible refine (q_X12_finding _ _ _).trans ?_) | (subst_vars; with_reducible refine (shp_sI _ _ _ _).trans ?_) | (subst_vars; with_reducible refine (shp_sJ _ _ _ _).trans ?_) | (subst_vars; with_reducible refine shi ?_ ?_) | (subst_vars; with_reducible refine shb (fun _ _ => ?_)))
theorem v_X12_as (S : HSt) (_o : Nat) (a1 : Int32) (a2 : Int32) : Fr [(64, 0), (64, 1)] S ((f_X12_as S _o a1 a2).2) := by
  unfold f_X12_as
  repeat' (first | with_reducible refine frpr1 ?_ | with_reducible exact Fr.refl _ _ | with_reducible refine Fr.lP (fun q : Int64 × HSt => q.2) (fun _ _ => ?_) | with_reducible refine Fr.iteP (fun q : Int64 × HSt => q.2) ?_ ?_ | with_reducible refine Fr.l1 (fun _ _ => ?_) | with_reducible refine Fr.ite ?_ ?_ | with_reducible refine Fr.sE (by assumption) (by first | decide | simp only [List.mem_cons, List.not_mem_nil, or_false, true_or, or_true, eq_self_iff_true]) ?_ | with_reducible refine Fr.jE (by assumption) ?_ | with_reducible refine Fr.rE (by assumption) (by first | decide | simp only [List.mem_cons, List.not_mem_nil, or_false, true_or, or_true, eq_self_iff_true]) ?_ | with_reducible refine Fr.iE (by assumption) ?_ ?_ | with_reducible refine Fr.tr (w_X12_finding _ _ _ _ (by assumption)) (by first | decide | simp only [List.mem_cons, List.not_mem_nil, or_false, forall_eq_or_imp, forall_eq, true_or, or_true, and_self, eq_self_iff_true]) ?_)
theorem w_X12_as (S : HSt) (_o : Nat) (a1 : Int32) (a2 : Int32) (r : Int64 × HSt) (e : f_X12_as S _o a1 a2 = r) : Fr [(64, 0), (64, 1)] S r.2 := by
  rw [← e]
  exact v_X12_as S _o a1 a2
noncomputable def f_X12_began (S : HSt) (_o : Nat) (a1 : Int32) : HSt := bd ((if (16 : Int32) ≤ (gI S 64 51) then S else (bd ((sI S 87 (gI S 64 51).toNatClampNeg a1)) fun S2 => bd ((sI S2 64 51 ((gI S2 64 51) + (1 : Int32)))) fun S3 => S3))) fun S4 => S4
def p_X12_began (S : HSt) (_o : Nat) (a1 : Int32) : Prop := ((¬ (16 : Int32) ≤ (gI S 64 51)) → vp_in (gI S 64 51) 16)
set_option maxRecDepth 100000 in
theorem t_X12_began (G : GG) (l : Launch) {S : HSt} (hM : MS S) (a1 : Int32) (hp : p_X12_began S 64 a1) : AM G l yX12_began cX12_began 2 none (rmD 0 0 0) 0 0 [.ref 64, .int a1] S (FP none (f_X12_began S 64 a1)) := by
  have h0 := hp
  unfold p_X12_began at h0
  refine AM.mk (by decide) (Nat.le_of_ble_eq_true rfl) ?_
  intro p e s m below meth c hC hSt _
  refine aw_aload_n hC 0 dX12_began_0 rfl rfl ?_
  refine aw_getI hC hSt 51 (ms_lt 64 (by decide) hM) (ms_k 64 12 0 (by decide) hM) rfl (by decide) w_1275 rfl dX12_began_1 ?_
  refine aw_bipush (v := 16) hC dX12_began_4 (by decide) ?_
  refine aw_cut (S' := (if (16 : Int32) ≤ (gI S 64 51) then S else (bd ((sI S 87 (gI S 64 51).toNatClampNeg a1)) fun S2 => bd ((sI S2 64 51 ((gI S2 64 51) + (1 : Int32)))) fun S3 => S3))) (pc' := 29) (lv' := [(0, .ref 64), (1, .int a1)]) (st' := []) ?_ (fun Jc1 => ?_)
  · generalize eS4 : (if (16 : Int32) ≤ (gI S 64 51) then S else (bd ((sI S 87 (gI S 64 51).toNatClampNeg a1)) fun S2 => bd ((sI S2 64 51 ((gI S2 64 51) + (1 : Int32)))) fun S3 => S3)) = S4
    have hM : MS S4 := MS.of (by rw [← eS4]; repeat' (first | with_reducible rfl | with_reducible refine (shp_sI _ _ _ _).trans ?_ | with_reducible refine (shp_sJ _ _ _ _).trans ?_ | with_reducible refine shi ?_ ?_ | with_reducible refine shb (fun _ _ => ?_) | (subst_vars; with_reducible rfl) | (subst_vars; with_reducible refine (shp_sI _ _ _ _).trans ?_) | (subst_vars; with_reducible refine (shp_sJ _ _ _ _).trans ?_) | (subst_vars; with_reducible refine shi ?_ ?_) | (subst_vars; with_reducible refine shb (fun _ _ => ?_)))) hM
    refine aw_vret hC dX12_began_29 (Nat.le_refl _) (Nat.le_refl _) ?_
    exact FP.qV ((bd_eq eS4).trans (rfl))
  · refine aw_icmp_ge hC 29 dX12_began_6 (by decide) (fun c1 => ?_) (fun c1 => ?_)
    · simp only [bd_def, if_pos c1] at Jc1 ⊢
      exact Jc1
    · refine aw_aload_n hC 0 dX12_began_9 rfl rfl ?_
      refine aw_getP (b := 87) hC hSt 50 (ms_lt 64 (by decide) hM) (ms_k 64 12 0 (by decide) hM) rfl (by decide) w_943 rfl (ms_p 50 87 (by decide) hM) dX12_began_10 ?_
      refine aw_aload_n hC 0 dX12_began_13 rfl rfl ?_
      refine aw_getI hC hSt 51 (ms_lt 64 (by decide) hM) (ms_k 64 12 0 (by decide) hM) rfl (by decide) w_1275 rfl dX12_began_14 ?_
      refine aw_iload_n hC 1 dX12_began_17 rfl rfl ?_
      refine aw_iast hC hSt (ms_lt 87 (by decide) hM) (ms_k 87 14 16 (by decide) hM) (vp_len (n := 16) (ms_l 87 14 16 (by decide) hM) (h0 c1)) dX12_began_18 ?_
      generalize eS2 : (sI S 87 (gI S 64 51).toNatClampNeg a1) = S2
      have hM : MS S2 := MS.of (by rw [← eS2]; exact shp_sI _ _ _ _) hM
      refine aw_aload_n hC 0 dX12_began_19 rfl rfl ?_
      refine aw_dup hC dX12_began_20 rfl ?_
      refine aw_getI hC hSt 51 (ms_lt 64 (by decide) hM) (ms_k 64 12 0 (by decide) hM) rfl (by decide) w_1275 rfl dX12_began_21 ?_
      refine aw_iconst (v := 1) hC dX12_began_24 (by decide) ?_
      refine aw_iadd hC dX12_began_25 ?_
      refine aw_putI hC hSt 51 (ms_lt 64 (by decide) hM) (ms_k 64 12 0 (by decide) hM) rfl (by decide) w_1275 rfl rfl rfl rfl dX12_began_26 ?_
      generalize eS3 : (sI S2 64 51 ((gI S2 64 51) + (1 : Int32))) = S3
      have hM : MS S3 := MS.of (by rw [← eS3]; exact shp_sI _ _ _ _) hM
      subst eS3
      subst eS2
      simp only [bd_def, if_neg c1] at Jc1 ⊢
      exact Jc1
theorem q_X12_began (S : HSt) (_o : Nat) (a1 : Int32) : shp (f_X12_began S _o a1) = shp S := by
  unfold f_X12_began
  repeat' (first | with_reducible rfl | with_reducible refine (shp_sI _ _ _ _).trans ?_ | with_reducible refine (shp_sJ _ _ _ _).trans ?_ | with_reducible refine shi ?_ ?_ | with_reducible refine shb (fun _ _ => ?_) | (subst_vars; with_reducible rfl) | (subst_vars; with_reducible refine (shp_sI _ _ _ _).trans ?_) | (subst_vars; with_reducible refine (shp_sJ _ _ _ _).trans ?_) | (subst_vars; with_reducible refine shi ?_ ?_) | (subst_vars; with_reducible refine shb (fun _ _ => ?_)))
theorem v_X12_began (S : HSt) (_o : Nat) (a1 : Int32) : Fr [(64, 51), (87, 1000)] S (f_X12_began S _o a1) := by
  unfold f_X12_began
  repeat' (first | with_reducible exact Fr.refl _ _ | with_reducible refine Fr.l1 (fun _ _ => ?_) | with_reducible refine Fr.ite ?_ ?_ | with_reducible refine Fr.sE (by assumption) (by first | decide | simp only [List.mem_cons, List.not_mem_nil, or_false, true_or, or_true, eq_self_iff_true]) ?_ | with_reducible refine Fr.jE (by assumption) ?_ | with_reducible refine Fr.rE (by assumption) (by first | decide | simp only [List.mem_cons, List.not_mem_nil, or_false, true_or, or_true, eq_self_iff_true]) ?_ | with_reducible refine Fr.iE (by assumption) ?_ ?_)
theorem w_X12_began (S : HSt) (_o : Nat) (a1 : Int32) (r : HSt) (e : f_X12_began S _o a1 = r) : Fr [(64, 51), (87, 1000)] S r := by
  rw [← e]
  exact v_X12_began S _o a1
noncomputable def f_X12_edgedMark (S : HSt) (_o : Nat) (a1 : Int32) : Int32 × HSt := bd (f_X12_began S 64 (24 : Int32)) fun r1 => bd (f_X12_began r1 64 (20 : Int32)) fun r2 => pr ((a1 + (50 : Int32))) (r2)
def p_X12_edgedMark (S : HSt) (_o : Nat) (a1 : Int32) : Prop := (p_X12_began S 64 (24 : Int32)) ∧ (∀ r1, f_X12_began S 64 (24 : Int32) = r1 → p_X12_began r1 64 (20 : Int32))
set_option maxRecDepth 100000 in
theorem t_X12_edgedMark (G : GG) (l : Launch) {S : HSt} (hM : MS S) (a1 : Int32) (hp : p_X12_edgedMark S 64 a1) : AM G l yX12_edgedMark cX12_edgedMark 2 (some .int) (rmD 1 0 0) 0 0 [.ref 64, .int a1] S (FP (some (.int (f_X12_edgedMark S 64 a1).1)) ((f_X12_edgedMark S 64 a1).2)) := by
  obtain ⟨h0, h1⟩ := hp
  refine AM.mk (by decide) (Nat.le_of_ble_eq_true rfl) ?_
  intro p e s m below meth c hC hSt _
  refine aw_aload_n hC 0 dX12_edgedMark_0 rfl rfl ?_
  refine aw_bipush (v := 24) hC dX12_edgedMark_1 (by decide) ?_
  refine aw_cV1v hC hSt (t_X12_began G l hM _ (h0)) w_1274 w_1277 w_1278 w_1279 w_953 rfl rfl (by decide +kernel) ⟨Nat.le_of_ble_eq_true rfl, Nat.le_of_ble_eq_true rfl⟩ (ms_lt 64 (by decide) hM) (ms_k 64 12 0 (by decide) hM) rfl (Nat.le_of_ble_eq_true rfl) dX12_edgedMark_3 ⟨Nat.zero_le _, Nat.zero_le _⟩ ?_
  generalize er1 : f_X12_began S 64 (24 : Int32) = r1
  have hM : MS r1 := MS.of (by rw [← er1]; exact q_X12_began _ _ _) hM
  refine aw_aload_n hC 0 dX12_edgedMark_6 rfl rfl ?_
  refine aw_bipush (v := 20) hC dX12_edgedMark_7 (by decide) ?_
  refine aw_cV1v hC hSt (t_X12_began G l hM _ (h1 r1 er1)) w_1274 w_1277 w_1278 w_1279 w_953 rfl rfl (by decide +kernel) ⟨Nat.le_of_ble_eq_true rfl, Nat.le_of_ble_eq_true rfl⟩ (ms_lt 64 (by decide) hM) (ms_k 64 12 0 (by decide) hM) rfl (Nat.le_of_ble_eq_true rfl) dX12_edgedMark_9 ⟨Nat.zero_le _, Nat.zero_le _⟩ ?_
  generalize er2 : f_X12_began r1 64 (20 : Int32) = r2
  have hM : MS r2 := MS.of (by rw [← er2]; exact q_X12_began _ _ _) hM
  refine aw_iload_n hC 1 dX12_edgedMark_12 rfl rfl ?_
  refine aw_bipush (v := 50) hC dX12_edgedMark_13 (by decide) ?_
  refine aw_iadd hC dX12_edgedMark_15 ?_
  refine aw_iret hC dX12_edgedMark_16 (Nat.le_refl _) (Nat.le_refl _) ?_
  exact FP.qI ((bd_eq er1).trans ((bd_eq er2).trans (rfl)))
theorem q_X12_edgedMark (S : HSt) (_o : Nat) (a1 : Int32) : shp ((f_X12_edgedMark S _o a1).2) = shp S := by
  unfold f_X12_edgedMark
  repeat' (first | with_reducible refine shpr1 ?_ | with_reducible rfl | with_reducible refine (q_X12_began _ _ _).trans ?_ | with_reducible refine (shp_sI _ _ _ _).trans ?_ | with_reducible refine (shp_sJ _ _ _ _).trans ?_ | with_reducible refine shi ?_ ?_ | with_reducible refine shb (fun _ _ => ?_) | with_reducible refine shiP (fun q : Int32 × HSt => q.2) ?_ ?_ | with_reducible refine shbP (fun q : Int32 × HSt => q.2) (fun _ _ => ?_) | (subst_vars; with_reducible rfl) | (subst_vars; with_reducible refine (q_X12_began _ _ _).trans ?_) | (subst_vars; with_reducible refine (shp_sI _ _ _ _).trans ?_) | (subst_vars; with_reducible refine (shp_sJ _ _ _ _).trans ?_) | (subst_vars; with_reducible refine shi ?_ ?_) | (subst_vars; with_reducible refine shb (fun _ _ => ?_)))
theorem v_X12_edgedMark (S : HSt) (_o : Nat) (a1 : Int32) : Fr [(64, 51), (87, 1000)] S ((f_X12_edgedMark S _o a1).2) := by
  unfold f_X12_edgedMark
  repeat' (first | with_reducible refine frpr1 ?_ | with_reducible exact Fr.refl _ _ | with_reducible refine Fr.lP (fun q : Int32 × HSt => q.2) (fun _ _ => ?_) | with_reducible refine Fr.iteP (fun q : Int32 × HSt => q.2) ?_ ?_ | with_reducible refine Fr.l1 (fun _ _ => ?_) | with_reducible refine Fr.ite ?_ ?_ | with_reducible refine Fr.sE (by assumption) (by first | decide | simp only [List.mem_cons, List.not_mem_nil, or_false, true_or, or_true, eq_self_iff_true]) ?_ | with_reducible refine Fr.jE (by assumption) ?_ | with_reducible refine Fr.rE (by assumption) (by first | decide | simp only [List.mem_cons, List.not_mem_nil, or_false, true_or, or_true, eq_self_iff_true]) ?_ | with_reducible refine Fr.iE (by assumption) ?_ ?_ | with_reducible refine Fr.tr (w_X12_began _ _ _ _ (by assumption)) (by first | decide | simp only [List.mem_cons, List.not_mem_nil, or_false, forall_eq_or_imp, forall_eq, true_or, or_true, and_self, eq_self_iff_true]) ?_)
theorem w_X12_edgedMark (S : HSt) (_o : Nat) (a1 : Int32) (r : Int32 × HSt) (e : f_X12_edgedMark S _o a1 = r) : Fr [(64, 51), (87, 1000)] S r.2 := by
  rw [← e]
  exact v_X12_edgedMark S _o a1
noncomputable def f_X12_sizeAsked (S : HSt) (_o : Nat) (a1 : Int32) (a2 : Int32) : Int32 × HSt := bd ((if a2 = (3 : Int32) then (bd ((if a2 = (3 : Int32) then (12 : Int32) else (14 : Int32))) fun x3 => bd (f_X12_began S 64 x3) fun r4 => r4) else (if a2 = (5 : Int32) then (bd ((if a2 = (3 : Int32) then (12 : Int32) else (14 : Int32))) fun x7 => bd (f_X12_began S 64 x7) fun r8 => r8) else S))) fun S9 => bd ((f_X12_isOf S9 a2 (1 : Int32))) fun x10 => bd ((f_X12_isOf S9 a2 (4 : Int32))) fun x11 => bd ((if x10 = 0 then (if x11 = 0 then S9 else (bd ((if x10 = 0 then (13 : Int32) else (11 : Int32))) fun x18 => bd (f_X12_began S9 64 x18) fun r19 => r19)) else (bd ((if x10 = 0 then (13 : Int32) else (11 : Int32))) fun x14 => bd (f_X12_began S9 64 x14) fun r15 => r15))) fun S20 => bd (f_X12_began S20 64 (10 : Int32)) fun r21 => bd ((if x10 = 0 then (if x11 = 0 then (0 : Int32) else (f_X12_beast r21 64 (f_X12_deed r21 64 a1 (1 : Int32)) (0 : Int32))) else (f_X12_deed r21 64 a1 (1 : Int32)))) fun x24 => bd (((1 : Int32) + x24)) fun x25 => bd ((if a2 = (3 : Int32) then ((2 : Int32) * x25) else (if a2 = (5 : Int32) then (bd (f_X12_edgedMark r21 64 a1) fun r28 => (x25 - r28.1)) else x25))) fun x29 => bd ((if a2 = (3 : Int32) then r21 else (if a2 = (5 : Int32) then (bd (f_X12_edgedMark r21 64 a1) fun r28 => r28.2) else r21))) fun S30 => pr (x29) (S30)
def p_X12_sizeAsked (S : HSt) (_o : Nat) (a1 : Int32) (a2 : Int32) : Prop := ((a2 = (3 : Int32)) → ∀ x3 : Int32, (if a2 = (3 : Int32) then (12 : Int32) else (14 : Int32)) = x3 → p_X12_began S 64 x3) ∧ ((¬ a2 = (3 : Int32)) → (a2 = (5 : Int32)) → ∀ x7 : Int32, (if a2 = (3 : Int32) then (12 : Int32) else (14 : Int32)) = x7 → p_X12_began S 64 x7) ∧ (∀ S9 : HSt, (if a2 = (3 : Int32) then (bd ((if a2 = (3 : Int32) then (12 : Int32) else (14 : Int32))) fun x3 => bd (f_X12_began S 64 x3) fun r4 => r4) else (if a2 = (5 : Int32) then (bd ((if a2 = (3 : Int32) then (12 : Int32) else (14 : Int32))) fun x7 => bd (f_X12_began S 64 x7) fun r8 => r8) else S)) = S9 → ∀ x10 : Int32, (f_X12_isOf S9 a2 (1 : Int32)) = x10 → ∀ x11 : Int32, (f_X12_isOf S9 a2 (4 : Int32)) = x11 → (¬ x10 = 0) → ∀ x14 : Int32, (if x10 = 0 then (13 : Int32) else (11 : Int32)) = x14 → p_X12_began S9 64 x14) ∧ (∀ S9 : HSt, (if a2 = (3 : Int32) then (bd ((if a2 = (3 : Int32) then (12 : Int32) else (14 : Int32))) fun x3 => bd (f_X12_began S 64 x3) fun r4 => r4) else (if a2 = (5 : Int32) then (bd ((if a2 = (3 : Int32) then (12 : Int32) else (14 : Int32))) fun x7 => bd (f_X12_began S 64 x7) fun r8 => r8) else S)) = S9 → ∀ x10 : Int32, (f_X12_isOf S9 a2 (1 : Int32)) = x10 → ∀ x11 : Int32, (f_X12_isOf S9 a2 (4 : Int32)) = x11 → (x10 = 0) → (¬ x11 = 0) → ∀ x18 : Int32, (if x10 = 0 then (13 : Int32) else (11 : Int32)) = x18 → p_X12_began S9 64 x18) ∧ (∀ S9 : HSt, (if a2 = (3 : Int32) then (bd ((if a2 = (3 : Int32) then (12 : Int32) else (14 : Int32))) fun x3 => bd (f_X12_began S 64 x3) fun r4 => r4) else (if a2 = (5 : Int32) then (bd ((if a2 = (3 : Int32) then (12 : Int32) else (14 : Int32))) fun x7 => bd (f_X12_began S 64 x7) fun r8 => r8) else S)) = S9 → ∀ x10 : Int32, (f_X12_isOf S9 a2 (1 : Int32)) = x10 → ∀ x11 : Int32, (f_X12_isOf S9 a2 (4 : Int32)) = x11 → ∀ S20 : HSt, (if x10 = 0 then (if x11 = 0 then S9 else (bd ((if x10 = 0 then (13 : Int32) else (11 : Int32))) fun x18 => bd (f_X12_began S9 64 x18) fun r19 => r19)) else (bd ((if x10 = 0 then (13 : Int32) else (11 : Int32))) fun x14 => bd (f_X12_began S9 64 x14) fun r15 => r15)) = S20 → p_X12_began S20 64 (10 : Int32)) ∧ (∀ S9 : HSt, (if a2 = (3 : Int32) then (bd ((if a2 = (3 : Int32) then (12 : Int32) else (14 : Int32))) fun x3 => bd (f_X12_began S 64 x3) fun r4 => r4) else (if a2 = (5 : Int32) then (bd ((if a2 = (3 : Int32) then (12 : Int32) else (14 : Int32))) fun x7 => bd (f_X12_began S 64 x7) fun r8 => r8) else S)) = S9 → ∀ x10 : Int32, (f_X12_isOf S9 a2 (1 : Int32)) = x10 → ∀ x11 : Int32, (f_X12_isOf S9 a2 (4 : Int32)) = x11 → ∀ S20 : HSt, (if x10 = 0 then (if x11 = 0 then S9 else (bd ((if x10 = 0 then (13 : Int32) else (11 : Int32))) fun x18 => bd (f_X12_began S9 64 x18) fun r19 => r19)) else (bd ((if x10 = 0 then (13 : Int32) else (11 : Int32))) fun x14 => bd (f_X12_began S9 64 x14) fun r15 => r15)) = S20 → ∀ r21, f_X12_began S20 64 (10 : Int32) = r21 → (x10 = 0) → (¬ x11 = 0) → p_X12_deed r21 64 a1 (1 : Int32)) ∧ (∀ S9 : HSt, (if a2 = (3 : Int32) then (bd ((if a2 = (3 : Int32) then (12 : Int32) else (14 : Int32))) fun x3 => bd (f_X12_began S 64 x3) fun r4 => r4) else (if a2 = (5 : Int32) then (bd ((if a2 = (3 : Int32) then (12 : Int32) else (14 : Int32))) fun x7 => bd (f_X12_began S 64 x7) fun r8 => r8) else S)) = S9 → ∀ x10 : Int32, (f_X12_isOf S9 a2 (1 : Int32)) = x10 → ∀ x11 : Int32, (f_X12_isOf S9 a2 (4 : Int32)) = x11 → ∀ S20 : HSt, (if x10 = 0 then (if x11 = 0 then S9 else (bd ((if x10 = 0 then (13 : Int32) else (11 : Int32))) fun x18 => bd (f_X12_began S9 64 x18) fun r19 => r19)) else (bd ((if x10 = 0 then (13 : Int32) else (11 : Int32))) fun x14 => bd (f_X12_began S9 64 x14) fun r15 => r15)) = S20 → ∀ r21, f_X12_began S20 64 (10 : Int32) = r21 → (x10 = 0) → (¬ x11 = 0) → p_X12_beast r21 64 (f_X12_deed r21 64 a1 (1 : Int32)) (0 : Int32)) ∧ (∀ S9 : HSt, (if a2 = (3 : Int32) then (bd ((if a2 = (3 : Int32) then (12 : Int32) else (14 : Int32))) fun x3 => bd (f_X12_began S 64 x3) fun r4 => r4) else (if a2 = (5 : Int32) then (bd ((if a2 = (3 : Int32) then (12 : Int32) else (14 : Int32))) fun x7 => bd (f_X12_began S 64 x7) fun r8 => r8) else S)) = S9 → ∀ x10 : Int32, (f_X12_isOf S9 a2 (1 : Int32)) = x10 → ∀ x11 : Int32, (f_X12_isOf S9 a2 (4 : Int32)) = x11 → ∀ S20 : HSt, (if x10 = 0 then (if x11 = 0 then S9 else (bd ((if x10 = 0 then (13 : Int32) else (11 : Int32))) fun x18 => bd (f_X12_began S9 64 x18) fun r19 => r19)) else (bd ((if x10 = 0 then (13 : Int32) else (11 : Int32))) fun x14 => bd (f_X12_began S9 64 x14) fun r15 => r15)) = S20 → ∀ r21, f_X12_began S20 64 (10 : Int32) = r21 → (¬ x10 = 0) → p_X12_deed r21 64 a1 (1 : Int32)) ∧ (∀ S9 : HSt, (if a2 = (3 : Int32) then (bd ((if a2 = (3 : Int32) then (12 : Int32) else (14 : Int32))) fun x3 => bd (f_X12_began S 64 x3) fun r4 => r4) else (if a2 = (5 : Int32) then (bd ((if a2 = (3 : Int32) then (12 : Int32) else (14 : Int32))) fun x7 => bd (f_X12_began S 64 x7) fun r8 => r8) else S)) = S9 → ∀ x10 : Int32, (f_X12_isOf S9 a2 (1 : Int32)) = x10 → ∀ x11 : Int32, (f_X12_isOf S9 a2 (4 : Int32)) = x11 → ∀ S20 : HSt, (if x10 = 0 then (if x11 = 0 then S9 else (bd ((if x10 = 0 then (13 : Int32) else (11 : Int32))) fun x18 => bd (f_X12_began S9 64 x18) fun r19 => r19)) else (bd ((if x10 = 0 then (13 : Int32) else (11 : Int32))) fun x14 => bd (f_X12_began S9 64 x14) fun r15 => r15)) = S20 → ∀ r21, f_X12_began S20 64 (10 : Int32) = r21 → ∀ x24 : Int32, (if x10 = 0 then (if x11 = 0 then (0 : Int32) else (f_X12_beast r21 64 (f_X12_deed r21 64 a1 (1 : Int32)) (0 : Int32))) else (f_X12_deed r21 64 a1 (1 : Int32))) = x24 → ∀ x25 : Int32, ((1 : Int32) + x24) = x25 → (¬ a2 = (3 : Int32)) → (a2 = (5 : Int32)) → p_X12_edgedMark r21 64 a1)
set_option maxRecDepth 100000 in
theorem t_X12_sizeAsked (G : GG) (l : Launch) {S : HSt} (hM : MS S) (a1 : Int32) (a2 : Int32) (hp : p_X12_sizeAsked S 64 a1 a2) : AM G l yX12_sizeAsked cX12_sizeAsked 6 (some .int) (rmD 2 0 0) 0 0 [.ref 64, .int a1, .int a2] S (FP (some (.int (f_X12_sizeAsked S 64 a1 a2).1)) ((f_X12_sizeAsked S 64 a1 a2).2)) := by
  obtain ⟨h0, h1, h2, h3, h4, h5, h6, h7, h8⟩ := hp
  refine AM.mk (by decide) (Nat.le_of_ble_eq_true rfl) ?_
  intro p e s m below meth c hC hSt _
  refine aw_iload_n hC 2 dX12_sizeAsked_0 rfl rfl ?_
  refine aw_iconst (v := 3) hC dX12_sizeAsked_1 (by decide) ?_
  refine aw_cut (S' := (if a2 = (3 : Int32) then (bd ((if a2 = (3 : Int32) then (12 : Int32) else (14 : Int32))) fun x3 => bd (f_X12_began S 64 x3) fun r4 => r4) else (if a2 = (5 : Int32) then (bd ((if a2 = (3 : Int32) then (12 : Int32) else (14 : Int32))) fun x7 => bd (f_X12_began S 64 x7) fun r8 => r8) else S))) (pc' := 26) (lv' := [(0, .ref 64), (1, .int a1), (2, .int a2)]) (st' := []) ?_ (fun Jc1 => ?_)
  · generalize eS9 : (if a2 = (3 : Int32) then (bd ((if a2 = (3 : Int32) then (12 : Int32) else (14 : Int32))) fun x3 => bd (f_X12_began S 64 x3) fun r4 => r4) else (if a2 = (5 : Int32) then (bd ((if a2 = (3 : Int32) then (12 : Int32) else (14 : Int32))) fun x7 => bd (f_X12_began S 64 x7) fun r8 => r8) else S)) = S9
    have hM : MS S9 := MS.of (by rw [← eS9]; repeat' (first | with_reducible rfl | with_reducible refine (q_X12_began _ _ _).trans ?_ | with_reducible refine (q_X12_edgedMark _ _ _).trans ?_ | with_reducible refine (shp_sI _ _ _ _).trans ?_ | with_reducible refine (shp_sJ _ _ _ _).trans ?_ | with_reducible refine shi ?_ ?_ | with_reducible refine shb (fun _ _ => ?_) | (subst_vars; with_reducible rfl) | (subst_vars; with_reducible refine (q_X12_began _ _ _).trans ?_) | (subst_vars; with_reducible refine (q_X12_edgedMark _ _ _).trans ?_) | (subst_vars; with_reducible refine (shp_sI _ _ _ _).trans ?_) | (subst_vars; with_reducible refine (shp_sJ _ _ _ _).trans ?_) | (subst_vars; with_reducible refine shi ?_ ?_) | (subst_vars; with_reducible refine shb (fun _ _ => ?_)))) hM
    refine aw_iload_n hC 2 dX12_sizeAsked_26 rfl rfl ?_
    refine aw_iconst (v := 1) hC dX12_sizeAsked_27 (by decide) ?_
    refine aw_cS2r hC hSt (t_X12_isOf G l  _ _) w_1269 w_1271 w_1272 w_953 rfl rfl (by decide +kernel) ⟨Nat.le_of_ble_eq_true rfl, Nat.le_of_ble_eq_true rfl⟩ (Nat.le_of_ble_eq_true rfl) dX12_sizeAsked_28 ⟨Nat.zero_le _, Nat.zero_le _⟩ ?_
    refine aw_istore_n hC [(3, .int _), (0, .ref 64), (1, .int _), (2, .int _)] dX12_sizeAsked_31 rfl (by decide) rfl ?_
    generalize ex10 : (f_X12_isOf S9 a2 (1 : Int32)) = x10
    refine aw_iload_n hC 3 dX12_sizeAsked_32 rfl rfl ?_
    refine aw_iconst (v := 4) hC dX12_sizeAsked_33 (by decide) ?_
    refine aw_cS2r hC hSt (t_X12_isOf G l  _ _) w_1269 w_1271 w_1272 w_953 rfl rfl (by decide +kernel) ⟨Nat.le_of_ble_eq_true rfl, Nat.le_of_ble_eq_true rfl⟩ (Nat.le_of_ble_eq_true rfl) dX12_sizeAsked_34 ⟨Nat.zero_le _, Nat.zero_le _⟩ ?_
    refine aw_istore hC [(4, .int _), (3, .int _), (0, .ref 64), (1, .int _), (2, .int _)] dX12_sizeAsked_37 (by decide) rfl ?_
    generalize ex11 : (f_X12_isOf S9 a2 (4 : Int32)) = x11
    refine aw_iload_n hC 1 dX12_sizeAsked_39 rfl rfl ?_
    refine aw_cut (S' := (if x10 = 0 then (if x11 = 0 then S9 else (bd ((if x10 = 0 then (13 : Int32) else (11 : Int32))) fun x18 => bd (f_X12_began S9 64 x18) fun r19 => r19)) else (bd ((if x10 = 0 then (13 : Int32) else (11 : Int32))) fun x14 => bd (f_X12_began S9 64 x14) fun r15 => r15))) (pc' := 63) (lv' := [(4, .int x11), (3, .int x10), (0, .ref 64), (1, .int a1), (2, .int a2)]) (st' := []) ?_ (fun Jc12 => ?_)
    · generalize eS20 : (if x10 = 0 then (if x11 = 0 then S9 else (bd ((if x10 = 0 then (13 : Int32) else (11 : Int32))) fun x18 => bd (f_X12_began S9 64 x18) fun r19 => r19)) else (bd ((if x10 = 0 then (13 : Int32) else (11 : Int32))) fun x14 => bd (f_X12_began S9 64 x14) fun r15 => r15)) = S20
      have hM : MS S20 := MS.of (by rw [← eS20]; repeat' (first | with_reducible rfl | with_reducible refine (q_X12_began _ _ _).trans ?_ | with_reducible refine (q_X12_edgedMark _ _ _).trans ?_ | with_reducible refine (shp_sI _ _ _ _).trans ?_ | with_reducible refine (shp_sJ _ _ _ _).trans ?_ | with_reducible refine shi ?_ ?_ | with_reducible refine shb (fun _ _ => ?_) | (subst_vars; with_reducible rfl) | (subst_vars; with_reducible refine (q_X12_began _ _ _).trans ?_) | (subst_vars; with_reducible refine (q_X12_edgedMark _ _ _).trans ?_) | (subst_vars; with_reducible refine (shp_sI _ _ _ _).trans ?_) | (subst_vars; with_reducible refine (shp_sJ _ _ _ _).trans ?_) | (subst_vars; with_reducible refine shi ?_ ?_) | (subst_vars; with_reducible refine shb (fun _ _ => ?_)))) hM
      refine aw_aload_n hC 2 dX12_sizeAsked_63 rfl rfl ?_
      refine aw_bipush (v := 10) hC dX12_sizeAsked_64 (by decide) ?_
      refine aw_cV1v hC hSt (t_X12_began G l hM _ (h4 S9 eS9 x10 ex10 x11 ex11 S20 eS20)) w_1274 w_1277 w_1278 w_1279 w_953 rfl rfl (by decide +kernel) ⟨Nat.le_of_ble_eq_true rfl, Nat.le_of_ble_eq_true rfl⟩ (ms_lt 64 (by decide) hM) (ms_k 64 12 0 (by decide) hM) rfl (Nat.le_of_ble_eq_true rfl) dX12_sizeAsked_66 ⟨Nat.zero_le _, Nat.zero_le _⟩ ?_
      generalize er21 : f_X12_began S20 64 (10 : Int32) = r21
      have hM : MS r21 := MS.of (by rw [← er21]; exact q_X12_began _ _ _) hM
      refine aw_iconst (v := 1) hC dX12_sizeAsked_69 (by decide) ?_
      refine aw_iload_n hC 1 dX12_sizeAsked_70 rfl rfl ?_
      refine aw_cut (S' := r21) (pc' := 103) (lv' := [(4, .int x11), (3, .int x10), (0, .ref 64), (1, .int a1), (2, .int a2)]) (st' := [.int (if x10 = 0 then (if x11 = 0 then (0 : Int32) else (f_X12_beast r21 64 (f_X12_deed r21 64 a1 (1 : Int32)) (0 : Int32))) else (f_X12_deed r21 64 a1 (1 : Int32))), .int (1 : Int32)]) ?_ (fun Jc22 => ?_)
      · generalize ex24 : (if x10 = 0 then (if x11 = 0 then (0 : Int32) else (f_X12_beast r21 64 (f_X12_deed r21 64 a1 (1 : Int32)) (0 : Int32))) else (f_X12_deed r21 64 a1 (1 : Int32))) = x24
        refine aw_iadd hC dX12_sizeAsked_103 ?_
        refine aw_istore hC [(5, .int _), (4, .int _), (3, .int _), (0, .ref 64), (1, .int _), (2, .int _)] dX12_sizeAsked_104 (by decide) rfl ?_
        generalize ex25 : ((1 : Int32) + x24) = x25
        refine aw_iload_n hC 5 dX12_sizeAsked_106 rfl rfl ?_
        refine aw_iconst (v := 3) hC dX12_sizeAsked_107 (by decide) ?_
        refine aw_cut (S' := (if a2 = (3 : Int32) then r21 else (if a2 = (5 : Int32) then (bd (f_X12_edgedMark r21 64 a1) fun r28 => r28.2) else r21))) (pc' := 136) (lv' := [(5, .int x25), (4, .int x11), (3, .int x10), (0, .ref 64), (1, .int a1), (2, .int a2)]) (st' := [.int (if a2 = (3 : Int32) then ((2 : Int32) * x25) else (if a2 = (5 : Int32) then (bd (f_X12_edgedMark r21 64 a1) fun r28 => (x25 - r28.1)) else x25))]) ?_ (fun Jc26 => ?_)
        · generalize ex29 : (if a2 = (3 : Int32) then ((2 : Int32) * x25) else (if a2 = (5 : Int32) then (bd (f_X12_edgedMark r21 64 a1) fun r28 => (x25 - r28.1)) else x25)) = x29
          generalize eS30 : (if a2 = (3 : Int32) then r21 else (if a2 = (5 : Int32) then (bd (f_X12_edgedMark r21 64 a1) fun r28 => r28.2) else r21)) = S30
          have hM : MS S30 := MS.of (by rw [← eS30]; repeat' (first | with_reducible rfl | with_reducible refine (q_X12_began _ _ _).trans ?_ | with_reducible refine (q_X12_edgedMark _ _ _).trans ?_ | with_reducible refine (shp_sI _ _ _ _).trans ?_ | with_reducible refine (shp_sJ _ _ _ _).trans ?_ | with_reducible refine shi ?_ ?_ | with_reducible refine shb (fun _ _ => ?_) | (subst_vars; with_reducible rfl) | (subst_vars; with_reducible refine (q_X12_began _ _ _).trans ?_) | (subst_vars; with_reducible refine (q_X12_edgedMark _ _ _).trans ?_) | (subst_vars; with_reducible refine (shp_sI _ _ _ _).trans ?_) | (subst_vars; with_reducible refine (shp_sJ _ _ _ _).trans ?_) | (subst_vars; with_reducible refine shi ?_ ?_) | (subst_vars; with_reducible refine shb (fun _ _ => ?_)))) hM
          refine aw_iret hC dX12_sizeAsked_136 (Nat.le_refl _) (Nat.le_refl _) ?_
          exact FP.qI ((bd_eq eS9).trans ((bd_eq ex10).trans ((bd_eq ex11).trans ((bd_eq eS20).trans ((bd_eq er21).trans ((bd_eq ex24).trans ((bd_eq ex25).trans ((bd_eq ex29).trans ((bd_eq eS30).trans (rfl))))))))))
        · refine aw_icmp_ne hC 118 dX12_sizeAsked_108 (by decide) (fun c26 => ?_) (fun c26 => ?_)
          · refine aw_iload_n hC 5 dX12_sizeAsked_118 rfl rfl ?_
            refine aw_iconst (v := 5) hC dX12_sizeAsked_119 (by decide) ?_
            refine aw_icmp_ne hC 134 dX12_sizeAsked_120 (by decide) (fun c27 => ?_) (fun c27 => ?_)
            · refine aw_iload hC 0 dX12_sizeAsked_134 rfl ?_
              simp only [bd_def, if_neg c26, if_neg c27] at Jc26 ⊢
              exact Jc26
            · refine aw_iload hC 0 dX12_sizeAsked_123 rfl ?_
              refine aw_aload_n hC 3 dX12_sizeAsked_125 rfl rfl ?_
              refine aw_iload_n hC 4 dX12_sizeAsked_126 rfl rfl ?_
              refine aw_cV1r hC hSt (t_X12_edgedMark G l hM _ (h8 S9 eS9 x10 ex10 x11 ex11 S20 eS20 r21 er21 x24 ex24 x25 ex25 c26 c27)) w_1276 w_1281 w_1282 w_1283 w_953 rfl rfl (by decide +kernel) ⟨Nat.le_of_ble_eq_true rfl, Nat.le_of_ble_eq_true rfl⟩ (ms_lt 64 (by decide) hM) (ms_k 64 12 0 (by decide) hM) rfl (Nat.le_of_ble_eq_true rfl) dX12_sizeAsked_127 ⟨Nat.zero_le _, Nat.zero_le _⟩ ?_
              generalize er28 : f_X12_edgedMark r21 64 a1 = r28
              have hM : MS r28.2 := MS.of (by rw [← er28]; exact q_X12_edgedMark _ _ _) hM
              refine aw_isub hC dX12_sizeAsked_130 ?_
              refine aw_goto hC 136 dX12_sizeAsked_131 (by decide) ?_
              subst er28
              simp only [bd_def, if_neg c26, if_pos c27] at Jc26 ⊢
              exact Jc26
          · refine aw_iconst (v := 2) hC dX12_sizeAsked_111 (by decide) ?_
            refine aw_iload hC 0 dX12_sizeAsked_112 rfl ?_
            refine aw_imul hC dX12_sizeAsked_114 ?_
            refine aw_goto hC 136 dX12_sizeAsked_115 (by decide) ?_
            simp only [bd_def, if_pos c26] at Jc26 ⊢
            exact Jc26
      · refine aw_if_eq hC 83 dX12_sizeAsked_71 (by decide) (fun c22 => ?_) (fun c22 => ?_)
        · refine aw_iload hC 0 dX12_sizeAsked_83 rfl ?_
          refine aw_if_eq hC 102 dX12_sizeAsked_85 (by decide) (fun c23 => ?_) (fun c23 => ?_)
          · refine aw_iconst (v := 0) hC dX12_sizeAsked_102 (by decide) ?_
            simp only [bd_def, if_pos c22, if_pos c23] at Jc22 ⊢
            exact Jc22
          · refine aw_aload_n hC 2 dX12_sizeAsked_88 rfl rfl ?_
            refine aw_aload_n hC 2 dX12_sizeAsked_89 rfl rfl ?_
            refine aw_iload_n hC 3 dX12_sizeAsked_90 rfl rfl ?_
            refine aw_iconst (v := 1) hC dX12_sizeAsked_91 (by decide) ?_
            refine aw_cV2r hC hSt (t_X12_deed G l hM _ _ (h5 S9 eS9 x10 ex10 x11 ex11 S20 eS20 r21 er21 c22 c23)) w_1080 w_1088 w_1089 w_1090 w_953 rfl rfl (by decide +kernel) ⟨Nat.le_of_ble_eq_true rfl, Nat.le_of_ble_eq_true rfl⟩ (ms_lt 64 (by decide) hM) (ms_k 64 12 0 (by decide) hM) rfl (Nat.le_of_ble_eq_true rfl) dX12_sizeAsked_92 ⟨Nat.zero_le _, Nat.zero_le _⟩ ?_
            refine aw_iconst (v := 0) hC dX12_sizeAsked_95 (by decide) ?_
            refine aw_cV2r hC hSt (t_X12_beast G l hM _ _ (h6 S9 eS9 x10 ex10 x11 ex11 S20 eS20 r21 er21 c22 c23)) w_1082 w_1124 w_1125 w_1126 w_953 rfl rfl (by decide +kernel) ⟨Nat.le_of_ble_eq_true rfl, Nat.le_of_ble_eq_true rfl⟩ (ms_lt 64 (by decide) hM) (ms_k 64 12 0 (by decide) hM) rfl (Nat.le_of_ble_eq_true rfl) dX12_sizeAsked_96 ⟨Nat.zero_le _, Nat.zero_le _⟩ ?_
            refine aw_goto hC 103 dX12_sizeAsked_99 (by decide) ?_
            simp only [bd_def, if_pos c22, if_neg c23] at Jc22 ⊢
            exact Jc22
        · refine aw_aload_n hC 2 dX12_sizeAsked_74 rfl rfl ?_
          refine aw_iload_n hC 3 dX12_sizeAsked_75 rfl rfl ?_
          refine aw_iconst (v := 1) hC dX12_sizeAsked_76 (by decide) ?_
          refine aw_cV2r hC hSt (t_X12_deed G l hM _ _ (h7 S9 eS9 x10 ex10 x11 ex11 S20 eS20 r21 er21 c22)) w_1080 w_1088 w_1089 w_1090 w_953 rfl rfl (by decide +kernel) ⟨Nat.le_of_ble_eq_true rfl, Nat.le_of_ble_eq_true rfl⟩ (ms_lt 64 (by decide) hM) (ms_k 64 12 0 (by decide) hM) rfl (Nat.le_of_ble_eq_true rfl) dX12_sizeAsked_77 ⟨Nat.zero_le _, Nat.zero_le _⟩ ?_
          refine aw_goto hC 103 dX12_sizeAsked_80 (by decide) ?_
          simp only [bd_def, if_neg c22] at Jc22 ⊢
          exact Jc22
    · refine aw_if_ne hC 48 dX12_sizeAsked_40 (by decide) (fun c12 => ?_) (fun c12 => ?_)
      · refine aw_aload_n hC 2 dX12_sizeAsked_48 rfl rfl ?_
        refine aw_iload_n hC 1 dX12_sizeAsked_49 rfl rfl ?_
        refine aw_cut (S' := S9) (pc' := 60) (lv' := [(4, .int x11), (3, .int x10), (0, .ref 64), (1, .int a1), (2, .int a2)]) (st' := [.int (if x10 = 0 then (13 : Int32) else (11 : Int32)), .ref 64]) ?_ (fun Jc13 => ?_)
        · generalize ex14 : (if x10 = 0 then (13 : Int32) else (11 : Int32)) = x14
          refine aw_cV1v hC hSt (t_X12_began G l hM _ (h2 S9 eS9 x10 ex10 x11 ex11 c12 x14 ex14)) w_1274 w_1277 w_1278 w_1279 w_953 rfl rfl (by decide +kernel) ⟨Nat.le_of_ble_eq_true rfl, Nat.le_of_ble_eq_true rfl⟩ (ms_lt 64 (by decide) hM) (ms_k 64 12 0 (by decide) hM) rfl (Nat.le_of_ble_eq_true rfl) dX12_sizeAsked_60 ⟨Nat.zero_le _, Nat.zero_le _⟩ ?_
          generalize er15 : f_X12_began S9 64 x14 = r15
          have hM : MS r15 := MS.of (by rw [← er15]; exact q_X12_began _ _ _) hM
          subst er15
          subst ex14
          simp only [bd_def, if_neg c12] at Jc12 ⊢
          exact Jc12
        · refine aw_if_eq hC 58 dX12_sizeAsked_50 (by decide) (fun c13 => ?_) (fun c13 => ?_)
          · refine aw_bipush (v := 13) hC dX12_sizeAsked_58 (by decide) ?_
            simp only [bd_def, if_pos c13] at Jc13 ⊢
            exact Jc13
          · refine aw_bipush (v := 11) hC dX12_sizeAsked_53 (by decide) ?_
            refine aw_goto hC 60 dX12_sizeAsked_55 (by decide) ?_
            simp only [bd_def, if_neg c13] at Jc13 ⊢
            exact Jc13
      · refine aw_iload hC 0 dX12_sizeAsked_43 rfl ?_
        refine aw_if_eq hC 63 dX12_sizeAsked_45 (by decide) (fun c16 => ?_) (fun c16 => ?_)
        · simp only [bd_def, if_pos c12, if_pos c16] at Jc12 ⊢
          exact Jc12
        · refine aw_aload_n hC 2 dX12_sizeAsked_48 rfl rfl ?_
          refine aw_iload_n hC 1 dX12_sizeAsked_49 rfl rfl ?_
          refine aw_cut (S' := S9) (pc' := 60) (lv' := [(4, .int x11), (3, .int x10), (0, .ref 64), (1, .int a1), (2, .int a2)]) (st' := [.int (if x10 = 0 then (13 : Int32) else (11 : Int32)), .ref 64]) ?_ (fun Jc17 => ?_)
          · generalize ex18 : (if x10 = 0 then (13 : Int32) else (11 : Int32)) = x18
            refine aw_cV1v hC hSt (t_X12_began G l hM _ (h3 S9 eS9 x10 ex10 x11 ex11 c12 c16 x18 ex18)) w_1274 w_1277 w_1278 w_1279 w_953 rfl rfl (by decide +kernel) ⟨Nat.le_of_ble_eq_true rfl, Nat.le_of_ble_eq_true rfl⟩ (ms_lt 64 (by decide) hM) (ms_k 64 12 0 (by decide) hM) rfl (Nat.le_of_ble_eq_true rfl) dX12_sizeAsked_60 ⟨Nat.zero_le _, Nat.zero_le _⟩ ?_
            generalize er19 : f_X12_began S9 64 x18 = r19
            have hM : MS r19 := MS.of (by rw [← er19]; exact q_X12_began _ _ _) hM
            subst er19
            subst ex18
            simp only [bd_def, if_pos c12, if_neg c16] at Jc12 ⊢
            exact Jc12
          · refine aw_if_eq hC 58 dX12_sizeAsked_50 (by decide) (fun c17 => ?_) (fun c17 => ?_)
            · refine aw_bipush (v := 13) hC dX12_sizeAsked_58 (by decide) ?_
              simp only [bd_def, if_pos c17] at Jc17 ⊢
              exact Jc17
            · refine aw_bipush (v := 11) hC dX12_sizeAsked_53 (by decide) ?_
              refine aw_goto hC 60 dX12_sizeAsked_55 (by decide) ?_
              simp only [bd_def, if_neg c17] at Jc17 ⊢
              exact Jc17
  · refine aw_icmp_eq hC 10 dX12_sizeAsked_2 (by decide) (fun c1 => ?_) (fun c1 => ?_)
    · refine aw_aload_n hC 0 dX12_sizeAsked_10 rfl rfl ?_
      refine aw_iload_n hC 2 dX12_sizeAsked_11 rfl rfl ?_
      refine aw_iconst (v := 3) hC dX12_sizeAsked_12 (by decide) ?_
      refine aw_cut (S' := S) (pc' := 23) (lv' := [(0, .ref 64), (1, .int a1), (2, .int a2)]) (st' := [.int (if a2 = (3 : Int32) then (12 : Int32) else (14 : Int32)), .ref 64]) ?_ (fun Jc2 => ?_)
      · generalize ex3 : (if a2 = (3 : Int32) then (12 : Int32) else (14 : Int32)) = x3
        refine aw_cV1v hC hSt (t_X12_began G l hM _ (h0 c1 x3 ex3)) w_1274 w_1277 w_1278 w_1279 w_953 rfl rfl (by decide +kernel) ⟨Nat.le_of_ble_eq_true rfl, Nat.le_of_ble_eq_true rfl⟩ (ms_lt 64 (by decide) hM) (ms_k 64 12 0 (by decide) hM) rfl (Nat.le_of_ble_eq_true rfl) dX12_sizeAsked_23 ⟨Nat.zero_le _, Nat.zero_le _⟩ ?_
        generalize er4 : f_X12_began S 64 x3 = r4
        have hM : MS r4 := MS.of (by rw [← er4]; exact q_X12_began _ _ _) hM
        subst er4
        subst ex3
        simp only [bd_def, if_pos c1] at Jc1 ⊢
        exact Jc1
      · refine aw_icmp_ne hC 21 dX12_sizeAsked_13 (by decide) (fun c2 => ?_) (fun c2 => ?_)
        · refine aw_bipush (v := 14) hC dX12_sizeAsked_21 (by decide) ?_
          simp only [bd_def, if_neg c2] at Jc2 ⊢
          exact Jc2
        · refine aw_bipush (v := 12) hC dX12_sizeAsked_16 (by decide) ?_
          refine aw_goto hC 23 dX12_sizeAsked_18 (by decide) ?_
          simp only [bd_def, if_pos c2] at Jc2 ⊢
          exact Jc2
    · refine aw_iload_n hC 2 dX12_sizeAsked_5 rfl rfl ?_
      refine aw_iconst (v := 5) hC dX12_sizeAsked_6 (by decide) ?_
      refine aw_icmp_ne hC 26 dX12_sizeAsked_7 (by decide) (fun c5 => ?_) (fun c5 => ?_)
      · simp only [bd_def, if_neg c1, if_neg c5] at Jc1 ⊢
        exact Jc1
      · refine aw_aload_n hC 0 dX12_sizeAsked_10 rfl rfl ?_
        refine aw_iload_n hC 2 dX12_sizeAsked_11 rfl rfl ?_
        refine aw_iconst (v := 3) hC dX12_sizeAsked_12 (by decide) ?_
        refine aw_cut (S' := S) (pc' := 23) (lv' := [(0, .ref 64), (1, .int a1), (2, .int a2)]) (st' := [.int (if a2 = (3 : Int32) then (12 : Int32) else (14 : Int32)), .ref 64]) ?_ (fun Jc6 => ?_)
        · generalize ex7 : (if a2 = (3 : Int32) then (12 : Int32) else (14 : Int32)) = x7
          refine aw_cV1v hC hSt (t_X12_began G l hM _ (h1 c1 c5 x7 ex7)) w_1274 w_1277 w_1278 w_1279 w_953 rfl rfl (by decide +kernel) ⟨Nat.le_of_ble_eq_true rfl, Nat.le_of_ble_eq_true rfl⟩ (ms_lt 64 (by decide) hM) (ms_k 64 12 0 (by decide) hM) rfl (Nat.le_of_ble_eq_true rfl) dX12_sizeAsked_23 ⟨Nat.zero_le _, Nat.zero_le _⟩ ?_
          generalize er8 : f_X12_began S 64 x7 = r8
          have hM : MS r8 := MS.of (by rw [← er8]; exact q_X12_began _ _ _) hM
          subst er8
          subst ex7
          simp only [bd_def, if_neg c1, if_pos c5] at Jc1 ⊢
          exact Jc1
        · refine aw_icmp_ne hC 21 dX12_sizeAsked_13 (by decide) (fun c6 => ?_) (fun c6 => ?_)
          · refine aw_bipush (v := 14) hC dX12_sizeAsked_21 (by decide) ?_
            simp only [bd_def, if_neg c6] at Jc6 ⊢
            exact Jc6
          · refine aw_bipush (v := 12) hC dX12_sizeAsked_16 (by decide) ?_
            refine aw_goto hC 23 dX12_sizeAsked_18 (by decide) ?_
            simp only [bd_def, if_pos c6] at Jc6 ⊢
            exact Jc6
theorem q_X12_sizeAsked (S : HSt) (_o : Nat) (a1 : Int32) (a2 : Int32) : shp ((f_X12_sizeAsked S _o a1 a2).2) = shp S := by
  unfold f_X12_sizeAsked
  repeat' (first | with_reducible refine shpr1 ?_ | with_reducible rfl | with_reducible refine (q_X12_began _ _ _).trans ?_ | with_reducible refine (q_X12_edgedMark _ _ _).trans ?_ | with_reducible refine (shp_sI _ _ _ _).trans ?_ | with_reducible refine (shp_sJ _ _ _ _).trans ?_ | with_reducible refine shi ?_ ?_ | with_reducible refine shb (fun _ _ => ?_) | with_reducible refine shiP (fun q : Int32 × HSt => q.2) ?_ ?_ | with_reducible refine shbP (fun q : Int32 × HSt => q.2) (fun _ _ => ?_) | (subst_vars; with_reducible rfl) | (subst_vars; with_reducible refine (q_X12_began _ _ _).trans ?_) | (subst_vars; with_reducible refine (q_X12_edgedMark _ _ _).trans ?_) | (subst_vars; with_reducible refine (shp_sI _ _ _ _).trans ?_) | (subst_vars; with_reducible refine (shp_sJ _ _ _ _).trans ?_) | (subst_vars; with_reducible refine shi ?_ ?_) | (subst_vars; with_reducible refine shb (fun _ _ => ?_)))
theorem v_X12_sizeAsked (S : HSt) (_o : Nat) (a1 : Int32) (a2 : Int32) : Fr [(64, 51), (87, 1000)] S ((f_X12_sizeAsked S _o a1 a2).2) := by
  unfold f_X12_sizeAsked
  repeat' (first | with_reducible refine frpr1 ?_ | with_reducible exact Fr.refl _ _ | with_reducible refine Fr.lP (fun q : Int32 × HSt => q.2) (fun _ _ => ?_) | with_reducible refine Fr.iteP (fun q : Int32 × HSt => q.2) ?_ ?_ | with_reducible refine Fr.l1 (fun _ _ => ?_) | with_reducible refine Fr.ite ?_ ?_ | with_reducible refine Fr.sE (by assumption) (by first | decide | simp only [List.mem_cons, List.not_mem_nil, or_false, true_or, or_true, eq_self_iff_true]) ?_ | with_reducible refine Fr.jE (by assumption) ?_ | with_reducible refine Fr.rE (by assumption) (by first | decide | simp only [List.mem_cons, List.not_mem_nil, or_false, true_or, or_true, eq_self_iff_true]) ?_ | with_reducible refine Fr.iE (by assumption) ?_ ?_ | with_reducible refine Fr.tr (w_X12_began _ _ _ _ (by assumption)) (by first | decide | simp only [List.mem_cons, List.not_mem_nil, or_false, forall_eq_or_imp, forall_eq, true_or, or_true, and_self, eq_self_iff_true]) ?_ | with_reducible refine Fr.tr (w_X12_edgedMark _ _ _ _ (by assumption)) (by first | decide | simp only [List.mem_cons, List.not_mem_nil, or_false, forall_eq_or_imp, forall_eq, true_or, or_true, and_self, eq_self_iff_true]) ?_)
theorem w_X12_sizeAsked (S : HSt) (_o : Nat) (a1 : Int32) (a2 : Int32) (r : Int32 × HSt) (e : f_X12_sizeAsked S _o a1 a2 = r) : Fr [(64, 51), (87, 1000)] S r.2 := by
  rw [← e]
  exact v_X12_sizeAsked S _o a1 a2