def f_X11_show (S : HSt) (_o0 : Nat) (a1 : Int32) : Int64 × HSt := if (-1 : Int32) ≤ a1 then (if (gI S 18 2) = 0 then (pr ((-9000000000000000002 : Int64)) (S)) else (bd (f_X8_seekShow S 38 19) fun r3 => bd ((if a1 = (-1 : Int32) then (f_X8_showLength r3 38).toInt64 else (f_X8_formAt r3 38 a1).toInt64)) fun x5 => pr (x5) (r3))) else (pr ((-9000000000000000001 : Int64)) (S))
def p_X11_show (S : HSt) (_o0 : Nat) (a1 : Int32) : Prop := (((-1 : Int32) ≤ a1) → (¬ (gI S 18 2) = 0) → p_X8_seekShow S 38 19) ∧ (((-1 : Int32) ≤ a1) → (¬ (gI S 18 2) = 0) → ∀ r3, f_X8_seekShow S 38 19 = r3 → (¬ a1 = (-1 : Int32)) → p_X8_formAt r3 38 a1)
set_option maxRecDepth 100000 in
theorem t_X11_show (G : GG) (l : Launch) {S : HSt} (hM : CS S) (a1 : Int32)  (hp : p_X11_show S 0 a1) : AM G l yX11_show cX11_show 2 (some .long) (rmD 5 0 0) 0 0 [.ref 0, .int a1] S (FP (some (.long (f_X11_show S 0 a1).1)) ((f_X11_show S 0 a1).2)) := by
  obtain ⟨h0, h1⟩ := hp
  refine AM.mk (by decide) (Nat.le_of_ble_eq_true rfl) ?_
  intro p e s m below meth c hC hSt _
  refine aw_iload_n hC 1 dX11_show_0 rfl rfl ?_
  refine aw_iconst (v := -1) hC dX11_show_1 (by decide) ?_
  refine aw_icmp_ge hC 9 dX11_show_2 (by decide) (fun c1 => ?_) (fun c1 => ?_)
  · refine aw_aload_n hC 0 dX11_show_9 rfl rfl ?_
    refine aw_getP (b := 18) hC hSt 2 (cs_lt 0 11 0 (by decide) hM) (cs_k 0 11 0 (by decide) hM) rfl (by decide) w_678 rfl (cs_p 0 2 18 (by decide) hM) dX11_show_10 ?_
    refine aw_getI hC hSt 2 (cs_lt 18 7 0 (by decide) hM) (cs_k 18 7 0 (by decide) hM) rfl (by decide) w_783 rfl dX11_show_13 ?_
    refine aw_if_ne hC 23 dX11_show_16 (by decide) (fun c2 => ?_) (fun c2 => ?_)
    · refine aw_aload_n hC 0 dX11_show_23 rfl rfl ?_
      refine aw_getP (b := 38) hC hSt 6 (cs_lt 0 11 0 (by decide) hM) (cs_k 0 11 0 (by decide) hM) rfl (by decide) w_687 rfl (cs_p 0 6 38 (by decide) hM) dX11_show_24 ?_
      refine aw_aload_n hC 0 dX11_show_27 rfl rfl ?_
      refine aw_getP (b := 18) hC hSt 2 (cs_lt 0 11 0 (by decide) hM) (cs_k 0 11 0 (by decide) hM) rfl (by decide) w_678 rfl (cs_p 0 2 18 (by decide) hM) dX11_show_28 ?_
      refine aw_getP (b := 19) hC hSt 0 (cs_lt 18 7 0 (by decide) hM) (cs_k 18 7 0 (by decide) hM) rfl (by decide) w_750 rfl (cs_p 18 0 19 (by decide) hM) dX11_show_31 ?_
      refine aw_cV1v hC hSt (t_X8_seekShow G l hM _ (by decide) (h0 c1 c2)) w_637 w_863 w_864 w_865 w_625 rfl rfl (by decide +kernel) ⟨Nat.le_of_ble_eq_true rfl, Nat.le_of_ble_eq_true rfl⟩ (cs_lt 38 8 0 (by decide) hM) (cs_k 38 8 0 (by decide) hM) rfl (Nat.le_of_ble_eq_true rfl) dX11_show_34 ⟨Nat.zero_le _, Nat.zero_le _⟩ ?_
      generalize er3 : f_X8_seekShow S 38 19 = r3
      have hM : CS r3 := CS.of (by rw [← er3]; exact q_X8_seekShow _ _ _) hM
      refine aw_iload_n hC 1 dX11_show_37 rfl rfl ?_
      refine aw_iconst (v := -1) hC dX11_show_38 (by decide) ?_
      refine aw_cut (S' := r3) (pc' := 62) (lv' := [(0, .ref 0), (1, .int a1)]) (st' := [.long (if a1 = (-1 : Int32) then (f_X8_showLength r3 38).toInt64 else (f_X8_formAt r3 38 a1).toInt64)]) ?_ (fun Jc4 => ?_)
      · generalize ex5 : (if a1 = (-1 : Int32) then (f_X8_showLength r3 38).toInt64 else (f_X8_formAt r3 38 a1).toInt64) = x5
        refine aw_lret hC dX11_show_62 (Nat.le_refl _) (Nat.le_refl _) ?_
        exact FP.qJ ((if_pos c1).trans ((if_neg c2).trans ((bd_eq er3).trans ((bd_eq ex5).trans (rfl)))))
      · refine aw_icmp_ne hC 53 dX11_show_39 (by decide) (fun c4 => ?_) (fun c4 => ?_)
        · refine aw_aload_n hC 0 dX11_show_53 rfl rfl ?_
          refine aw_getP (b := 38) hC hSt 6 (cs_lt 0 11 0 (by decide) hM) (cs_k 0 11 0 (by decide) hM) rfl (by decide) w_687 rfl (cs_p 0 6 38 (by decide) hM) dX11_show_54 ?_
          refine aw_iload_n hC 1 dX11_show_57 rfl rfl ?_
          refine aw_cV1r hC hSt (t_X8_formAt G l hM _ (h1 c1 c2 r3 er3 c4)) w_639 w_869 w_870 w_871 w_625 rfl rfl (by decide +kernel) ⟨Nat.le_of_ble_eq_true rfl, Nat.le_of_ble_eq_true rfl⟩ (cs_lt 38 8 0 (by decide) hM) (cs_k 38 8 0 (by decide) hM) rfl (Nat.le_of_ble_eq_true rfl) dX11_show_58 ⟨Nat.zero_le _, Nat.zero_le _⟩ ?_
          refine aw_i2l hC dX11_show_61 ?_
          simp only [bd_def, if_neg c4] at Jc4 ⊢
          exact Jc4
        · refine aw_aload_n hC 0 dX11_show_42 rfl rfl ?_
          refine aw_getP (b := 38) hC hSt 6 (cs_lt 0 11 0 (by decide) hM) (cs_k 0 11 0 (by decide) hM) rfl (by decide) w_687 rfl (cs_p 0 6 38 (by decide) hM) dX11_show_43 ?_
          refine aw_cV0r hC hSt (t_X8_showLength G l hM ) w_638 w_866 w_867 w_868 w_625 rfl rfl (by decide +kernel) ⟨Nat.le_of_ble_eq_true rfl, Nat.le_of_ble_eq_true rfl⟩ (cs_lt 38 8 0 (by decide) hM) (cs_k 38 8 0 (by decide) hM) rfl (Nat.le_of_ble_eq_true rfl) dX11_show_46 ⟨Nat.zero_le _, Nat.zero_le _⟩ ?_
          refine aw_i2l hC dX11_show_49 ?_
          refine aw_goto hC 62 dX11_show_50 (by decide) ?_
          simp only [bd_def, if_pos c4] at Jc4 ⊢
          exact Jc4
    · refine aw_ldc2 (v := -9000000000000000002) hC w_785 dX11_show_19 ?_
      refine aw_lret hC dX11_show_22 (Nat.le_refl _) (Nat.le_refl _) ?_
      exact FP.qJ ((if_pos c1).trans ((if_pos c2).trans (rfl)))
  · refine aw_ldc2 (v := -9000000000000000001) hC w_710 dX11_show_5 ?_
    refine aw_lret hC dX11_show_8 (Nat.le_refl _) (Nat.le_refl _) ?_
    exact FP.qJ ((if_neg c1).trans (rfl))
theorem q_X11_show (S : HSt) (_o0 : Nat) (a1 : Int32) : shp ((f_X11_show S _o0 a1).2) = shp S := by
  unfold f_X11_show
  repeat' (first | with_reducible refine shpr1 ?_ | with_reducible rfl | with_reducible refine (q_X8_seekShow _ _ _).trans ?_ | with_reducible refine (shp_sI _ _ _ _).trans ?_ | with_reducible refine (shp_sJ _ _ _ _).trans ?_ | with_reducible refine shi ?_ ?_ | with_reducible refine shb (fun _ _ => ?_) | with_reducible refine shiP (fun q : Int64 × HSt => q.2) ?_ ?_ | with_reducible refine shbP (fun q : Int64 × HSt => q.2) (fun _ _ => ?_) | (subst_vars; with_reducible rfl) | (subst_vars; with_reducible refine (q_X8_seekShow _ _ _).trans ?_) | (subst_vars; with_reducible refine (shp_sI _ _ _ _).trans ?_) | (subst_vars; with_reducible refine (shp_sJ _ _ _ _).trans ?_) | (subst_vars; with_reducible refine shi ?_ ?_) | (subst_vars; with_reducible refine shb (fun _ _ => ?_)))
def f_X11_learn (S : HSt) (_o0 : Nat) (a1 : Int32) (a2 : Int32) (a3 : Int32) : Int64 × HSt := if (f_X11_within S a1 (0 : Int32) (100 : Int32)) = 0 then (pr ((-9000000000000000001 : Int64)) (S)) else (if (f_X11_within S a2 (0 : Int32) (100 : Int32)) = 0 then (pr ((-9000000000000000001 : Int64)) (S)) else (if (f_X11_within S a3 (0 : Int32) (1 : Int32)) = 0 then (pr ((-9000000000000000001 : Int64)) (S)) else (if (gI S 18 2) = 0 then (pr ((-9000000000000000002 : Int64)) (S)) else (bd (f_X8_seekTries S 38 19 a2) fun r5 => bd ((if a3 = 0 then (f_X8_triesFrom r5 38 a1).toInt64 else (f_X8_firstRope r5 38 19 a1).toInt64)) fun x7 => pr (x7) (r5)))))
def p_X11_learn (S : HSt) (_o0 : Nat) (a1 : Int32) (a2 : Int32) (a3 : Int32) : Prop := ((¬ (f_X11_within S a1 (0 : Int32) (100 : Int32)) = 0) → (¬ (f_X11_within S a2 (0 : Int32) (100 : Int32)) = 0) → (¬ (f_X11_within S a3 (0 : Int32) (1 : Int32)) = 0) → (¬ (gI S 18 2) = 0) → p_X8_seekTries S 38 19 a2) ∧ ((¬ (f_X11_within S a1 (0 : Int32) (100 : Int32)) = 0) → (¬ (f_X11_within S a2 (0 : Int32) (100 : Int32)) = 0) → (¬ (f_X11_within S a3 (0 : Int32) (1 : Int32)) = 0) → (¬ (gI S 18 2) = 0) → ∀ r5, f_X8_seekTries S 38 19 a2 = r5 → (¬ a3 = 0) → p_X8_firstRope r5 38 19 a1) ∧ ((¬ (f_X11_within S a1 (0 : Int32) (100 : Int32)) = 0) → (¬ (f_X11_within S a2 (0 : Int32) (100 : Int32)) = 0) → (¬ (f_X11_within S a3 (0 : Int32) (1 : Int32)) = 0) → (¬ (gI S 18 2) = 0) → ∀ r5, f_X8_seekTries S 38 19 a2 = r5 → (a3 = 0) → p_X8_triesFrom r5 38 a1)
set_option maxRecDepth 100000 in
theorem t_X11_learn (G : GG) (l : Launch) {S : HSt} (hM : CS S) (a1 : Int32) (a2 : Int32) (a3 : Int32)  (hp : p_X11_learn S 0 a1 a2 a3) : AM G l yX11_learn cX11_learn 4 (some .long) (rmD 4 0 0) 0 0 [.ref 0, .int a1, .int a2, .int a3] S (FP (some (.long (f_X11_learn S 0 a1 a2 a3).1)) ((f_X11_learn S 0 a1 a2 a3).2)) := by
  obtain ⟨h0, h1, h2⟩ := hp
  refine AM.mk (by decide) (Nat.le_of_ble_eq_true rfl) ?_
  intro p e s m below meth c hC hSt _
  refine aw_iload_n hC 1 dX11_learn_0 rfl rfl ?_
  refine aw_iconst (v := 0) hC dX11_learn_1 (by decide) ?_
  refine aw_bipush (v := 100) hC dX11_learn_2 (by decide) ?_
  refine aw_cS3r hC hSt (t_X11_within G l  _ _ _) w_706 w_712 w_713 w_517 rfl rfl (by decide +kernel) ⟨Nat.le_of_ble_eq_true rfl, Nat.le_of_ble_eq_true rfl⟩ (Nat.le_of_ble_eq_true rfl) dX11_learn_4 ⟨Nat.zero_le _, Nat.zero_le _⟩ ?_
  refine aw_if_eq hC 29 dX11_learn_7 (by decide) (fun c1 => ?_) (fun c1 => ?_)
  · refine aw_ldc2 (v := -9000000000000000001) hC w_710 dX11_learn_29 ?_
    refine aw_lret hC dX11_learn_32 (Nat.le_refl _) (Nat.le_refl _) ?_
    exact FP.qJ ((if_pos c1).trans (rfl))
  · refine aw_iload_n hC 2 dX11_learn_10 rfl rfl ?_
    refine aw_iconst (v := 0) hC dX11_learn_11 (by decide) ?_
    refine aw_bipush (v := 100) hC dX11_learn_12 (by decide) ?_
    refine aw_cS3r hC hSt (t_X11_within G l  _ _ _) w_706 w_712 w_713 w_517 rfl rfl (by decide +kernel) ⟨Nat.le_of_ble_eq_true rfl, Nat.le_of_ble_eq_true rfl⟩ (Nat.le_of_ble_eq_true rfl) dX11_learn_14 ⟨Nat.zero_le _, Nat.zero_le _⟩ ?_
    refine aw_if_eq hC 29 dX11_learn_17 (by decide) (fun c2 => ?_) (fun c2 => ?_)
    · refine aw_ldc2 (v := -9000000000000000001) hC w_710 dX11_learn_29 ?_
      refine aw_lret hC dX11_learn_32 (Nat.le_refl _) (Nat.le_refl _) ?_
      exact FP.qJ ((if_neg c1).trans ((if_pos c2).trans (rfl)))
    · refine aw_iload_n hC 3 dX11_learn_20 rfl rfl ?_
      refine aw_iconst (v := 0) hC dX11_learn_21 (by decide) ?_
      refine aw_iconst (v := 1) hC dX11_learn_22 (by decide) ?_
      refine aw_cS3r hC hSt (t_X11_within G l  _ _ _) w_706 w_712 w_713 w_517 rfl rfl (by decide +kernel) ⟨Nat.le_of_ble_eq_true rfl, Nat.le_of_ble_eq_true rfl⟩ (Nat.le_of_ble_eq_true rfl) dX11_learn_23 ⟨Nat.zero_le _, Nat.zero_le _⟩ ?_
      refine aw_if_ne hC 33 dX11_learn_26 (by decide) (fun c3 => ?_) (fun c3 => ?_)
      · refine aw_aload_n hC 0 dX11_learn_33 rfl rfl ?_
        refine aw_getP (b := 18) hC hSt 2 (cs_lt 0 11 0 (by decide) hM) (cs_k 0 11 0 (by decide) hM) rfl (by decide) w_678 rfl (cs_p 0 2 18 (by decide) hM) dX11_learn_34 ?_
        refine aw_getI hC hSt 2 (cs_lt 18 7 0 (by decide) hM) (cs_k 18 7 0 (by decide) hM) rfl (by decide) w_783 rfl dX11_learn_37 ?_
        refine aw_if_ne hC 47 dX11_learn_40 (by decide) (fun c4 => ?_) (fun c4 => ?_)
        · refine aw_aload_n hC 0 dX11_learn_47 rfl rfl ?_
          refine aw_getP (b := 38) hC hSt 6 (cs_lt 0 11 0 (by decide) hM) (cs_k 0 11 0 (by decide) hM) rfl (by decide) w_687 rfl (cs_p 0 6 38 (by decide) hM) dX11_learn_48 ?_
          refine aw_aload_n hC 0 dX11_learn_51 rfl rfl ?_
          refine aw_getP (b := 18) hC hSt 2 (cs_lt 0 11 0 (by decide) hM) (cs_k 0 11 0 (by decide) hM) rfl (by decide) w_678 rfl (cs_p 0 2 18 (by decide) hM) dX11_learn_52 ?_
          refine aw_getP (b := 19) hC hSt 0 (cs_lt 18 7 0 (by decide) hM) (cs_k 18 7 0 (by decide) hM) rfl (by decide) w_750 rfl (cs_p 18 0 19 (by decide) hM) dX11_learn_55 ?_
          refine aw_iload_n hC 2 dX11_learn_58 rfl rfl ?_
          refine aw_cV2v hC hSt (t_X8_seekTries G l hM _ _ (by decide) (h0 c1 c2 c3 c4)) w_650 w_873 w_874 w_875 w_625 rfl rfl (by decide +kernel) ⟨Nat.le_of_ble_eq_true rfl, Nat.le_of_ble_eq_true rfl⟩ (cs_lt 38 8 0 (by decide) hM) (cs_k 38 8 0 (by decide) hM) rfl (Nat.le_of_ble_eq_true rfl) dX11_learn_59 ⟨Nat.zero_le _, Nat.zero_le _⟩ ?_
          generalize er5 : f_X8_seekTries S 38 19 a2 = r5
          have hM : CS r5 := CS.of (by rw [← er5]; exact q_X8_seekTries _ _ _ _) hM
          refine aw_iload_n hC 3 dX11_learn_62 rfl rfl ?_
          refine aw_cut (S' := r5) (pc' := 94) (lv' := [(0, .ref 0), (1, .int a1), (2, .int a2), (3, .int a3)]) (st' := [.long (if a3 = 0 then (f_X8_triesFrom r5 38 a1).toInt64 else (f_X8_firstRope r5 38 19 a1).toInt64)]) ?_ (fun Jc6 => ?_)
          · generalize ex7 : (if a3 = 0 then (f_X8_triesFrom r5 38 a1).toInt64 else (f_X8_firstRope r5 38 19 a1).toInt64) = x7
            refine aw_lret hC dX11_learn_94 (Nat.le_refl _) (Nat.le_refl _) ?_
            exact FP.qJ ((if_neg c1).trans ((if_neg c2).trans ((if_neg c3).trans ((if_neg c4).trans ((bd_eq er5).trans ((bd_eq ex7).trans (rfl)))))))
          · refine aw_if_ne hC 78 dX11_learn_63 (by decide) (fun c6 => ?_) (fun c6 => ?_)
            · refine aw_aload_n hC 0 dX11_learn_78 rfl rfl ?_
              refine aw_getP (b := 38) hC hSt 6 (cs_lt 0 11 0 (by decide) hM) (cs_k 0 11 0 (by decide) hM) rfl (by decide) w_687 rfl (cs_p 0 6 38 (by decide) hM) dX11_learn_79 ?_
              refine aw_aload_n hC 0 dX11_learn_82 rfl rfl ?_
              refine aw_getP (b := 18) hC hSt 2 (cs_lt 0 11 0 (by decide) hM) (cs_k 0 11 0 (by decide) hM) rfl (by decide) w_678 rfl (cs_p 0 2 18 (by decide) hM) dX11_learn_83 ?_
              refine aw_getP (b := 19) hC hSt 0 (cs_lt 18 7 0 (by decide) hM) (cs_k 18 7 0 (by decide) hM) rfl (by decide) w_750 rfl (cs_p 18 0 19 (by decide) hM) dX11_learn_86 ?_
              refine aw_iload_n hC 1 dX11_learn_89 rfl rfl ?_
              refine aw_cV2r hC hSt (t_X8_firstRope G l hM _ _ (by decide) (h1 c1 c2 c3 c4 r5 er5 c6)) w_655 w_877 w_878 w_879 w_625 rfl rfl (by decide +kernel) ⟨Nat.le_of_ble_eq_true rfl, Nat.le_of_ble_eq_true rfl⟩ (cs_lt 38 8 0 (by decide) hM) (cs_k 38 8 0 (by decide) hM) rfl (Nat.le_of_ble_eq_true rfl) dX11_learn_90 ⟨Nat.zero_le _, Nat.zero_le _⟩ ?_
              refine aw_i2l hC dX11_learn_93 ?_
              simp only [bd_def, if_neg c6] at Jc6 ⊢
              exact Jc6
            · refine aw_aload_n hC 0 dX11_learn_66 rfl rfl ?_
              refine aw_getP (b := 38) hC hSt 6 (cs_lt 0 11 0 (by decide) hM) (cs_k 0 11 0 (by decide) hM) rfl (by decide) w_687 rfl (cs_p 0 6 38 (by decide) hM) dX11_learn_67 ?_
              refine aw_iload_n hC 1 dX11_learn_70 rfl rfl ?_
              refine aw_cV1r hC hSt (t_X8_triesFrom G l hM _ (h2 c1 c2 c3 c4 r5 er5 c6)) w_651 w_876 w_653 w_654 w_625 rfl rfl (by decide +kernel) ⟨Nat.le_of_ble_eq_true rfl, Nat.le_of_ble_eq_true rfl⟩ (cs_lt 38 8 0 (by decide) hM) (cs_k 38 8 0 (by decide) hM) rfl (Nat.le_of_ble_eq_true rfl) dX11_learn_71 ⟨Nat.zero_le _, Nat.zero_le _⟩ ?_
              refine aw_i2l hC dX11_learn_74 ?_
              refine aw_goto hC 94 dX11_learn_75 (by decide) ?_
              simp only [bd_def, if_pos c6] at Jc6 ⊢
              exact Jc6
        · refine aw_ldc2 (v := -9000000000000000002) hC w_785 dX11_learn_43 ?_
          refine aw_lret hC dX11_learn_46 (Nat.le_refl _) (Nat.le_refl _) ?_
          exact FP.qJ ((if_neg c1).trans ((if_neg c2).trans ((if_neg c3).trans ((if_pos c4).trans (rfl)))))
      · refine aw_ldc2 (v := -9000000000000000001) hC w_710 dX11_learn_29 ?_
        refine aw_lret hC dX11_learn_32 (Nat.le_refl _) (Nat.le_refl _) ?_
        exact FP.qJ ((if_neg c1).trans ((if_neg c2).trans ((if_pos c3).trans (rfl))))
theorem q_X11_learn (S : HSt) (_o0 : Nat) (a1 : Int32) (a2 : Int32) (a3 : Int32) : shp ((f_X11_learn S _o0 a1 a2 a3).2) = shp S := by
  unfold f_X11_learn
  repeat' (first | with_reducible refine shpr1 ?_ | with_reducible rfl | with_reducible refine (q_X8_seekTries _ _ _ _).trans ?_ | with_reducible refine (shp_sI _ _ _ _).trans ?_ | with_reducible refine (shp_sJ _ _ _ _).trans ?_ | with_reducible refine shi ?_ ?_ | with_reducible refine shb (fun _ _ => ?_) | with_reducible refine shiP (fun q : Int64 × HSt => q.2) ?_ ?_ | with_reducible refine shbP (fun q : Int64 × HSt => q.2) (fun _ _ => ?_) | (subst_vars; with_reducible rfl) | (subst_vars; with_reducible refine (q_X8_seekTries _ _ _ _).trans ?_) | (subst_vars; with_reducible refine (shp_sI _ _ _ _).trans ?_) | (subst_vars; with_reducible refine (shp_sJ _ _ _ _).trans ?_) | (subst_vars; with_reducible refine shi ?_ ?_) | (subst_vars; with_reducible refine shb (fun _ _ => ?_)))
def L_X11_film_77 : Nat → HSt → Int32 → Int32 → Int32 → Int32 → Int32 → Int32 × Int32 × Int32 × Int32 × Int32 × HSt
  | 0, S, v1, v2, v3, v4, v5 => (v1, v2, v3, v4, v5, S)
  | n + 1, S, v1, v2, v3, v4, v5 =>
    if (9 : Int32) ≤ v5 then ((pr (v1) (pr (v2) (pr (v3) (pr (v4) (pr (v5) (S))))))) else (bd (f_X8_isHandOf S 38 v5 18 1 v1 v2 v3) fun r1007 => bd ((if r1007.1 = 0 then v4 else (bd ((v4 ||| ((1 : Int32) <<< (v5 &&& 31)))) fun x1009 => x1009))) fun x1010 => L_X11_film_77 n r1007.2 v1 v2 v3 x1010 (v5 + (1 : Int32)))
def T_X11_film_77 : Nat → HSt → Int32 → Int32 → Int32 → Int32 → Int32 → Prop
  | 0, _, _, _, _, _, _ => False
  | n + 1, S, v1, v2, v3, v4, v5 => ((¬ (9 : Int32) ≤ v5) → p_X8_isHandOf S 38 v5 18 1 v1 v2 v3) ∧ ((¬ (9 : Int32) ≤ v5) → ∀ r1007, f_X8_isHandOf S 38 v5 18 1 v1 v2 v3 = r1007 → ∀ x1010 : Int32, (if r1007.1 = 0 then v4 else (bd ((v4 ||| ((1 : Int32) <<< (v5 &&& 31)))) fun x1009 => x1009)) = x1010 → T_X11_film_77 n r1007.2 v1 v2 v3 x1010 (v5 + (1 : Int32)))
theorem qL_X11_film_77 : ∀ (n : Nat) (S : HSt) (v1 : Int32) (v2 : Int32) (v3 : Int32) (v4 : Int32) (v5 : Int32), shp (L_X11_film_77 n S v1 v2 v3 v4 v5).2.2.2.2.2 = shp S := by
  intro n
  induction n with
  | zero => intros; rfl
  | succ n ih =>
    intro S v1 v2 v3 v4 v5
    unfold L_X11_film_77
    repeat' (first | with_reducible refine shpr5 ?_ | with_reducible rfl | with_reducible refine (ih _ _ _ _ _ _).trans ?_ | with_reducible refine (q_X11_fine _ _ _).trans ?_ | with_reducible refine (q_X11_found _ _ _).trans ?_ | with_reducible refine (q_X8_isHandOf _ _ _ _ _ _ _ _).trans ?_ | with_reducible refine (shp_sI _ _ _ _).trans ?_ | with_reducible refine (shp_sJ _ _ _ _).trans ?_ | with_reducible refine shi ?_ ?_ | with_reducible refine shb (fun _ _ => ?_) | with_reducible refine shiP (fun q : Int32 × Int32 × Int32 × Int32 × Int32 × HSt => q.2.2.2.2.2) ?_ ?_ | with_reducible refine shbP (fun q : Int32 × Int32 × Int32 × Int32 × Int32 × HSt => q.2.2.2.2.2) (fun _ _ => ?_) | (subst_vars; with_reducible rfl) | (subst_vars; with_reducible refine (ih _ _ _ _ _ _).trans ?_) | (subst_vars; with_reducible refine (q_X11_fine _ _ _).trans ?_) | (subst_vars; with_reducible refine (q_X11_found _ _ _).trans ?_) | (subst_vars; with_reducible refine (q_X8_isHandOf _ _ _ _ _ _ _ _).trans ?_) | (subst_vars; with_reducible refine (shp_sI _ _ _ _).trans ?_) | (subst_vars; with_reducible refine (shp_sJ _ _ _ _).trans ?_) | (subst_vars; with_reducible refine shi ?_ ?_) | (subst_vars; with_reducible refine shb (fun _ _ => ?_)))
set_option maxRecDepth 100000 in
theorem l_X11_film_77 {p : Program} {l : Launch} {e : Env} {s : State} {m : MethodId} {args : Array Value} {below : List Frame} {meth : Method} {c : Code} {G : GG} {Q : State → Prop} (hC : ACx p s m args meth c cX11_film RX11 6 (some .long)) (hSt : St G s)   : ∀ (n : Nat) (S : HSt) (v1 : Int32) (v2 : Int32) (v3 : Int32) (v4 : Int32) (v5 : Int32), CS S → T_X11_film_77 n S v1 v2 v3 v4 v5 → AW p l e (rmD 5 0 0) s m args below meth c G 6 Q (L_X11_film_77 n S v1 v2 v3 v4 v5).2.2.2.2.2 0 0 122 [(0, .ref 0), (1, .int (L_X11_film_77 n S v1 v2 v3 v4 v5).1), (2, .int (L_X11_film_77 n S v1 v2 v3 v4 v5).2.1), (3, .int (L_X11_film_77 n S v1 v2 v3 v4 v5).2.2.1), (4, .int (L_X11_film_77 n S v1 v2 v3 v4 v5).2.2.2.1), (5, .int (L_X11_film_77 n S v1 v2 v3 v4 v5).2.2.2.2.1)] [] → AW p l e (rmD 5 0 0) s m args below meth c G 6 Q S 0 0 77 [(0, .ref 0), (1, .int v1), (2, .int v2), (3, .int v3), (4, .int v4), (5, .int v5)] [] := by
  intro n
  induction n with
  | zero => intro S v1 v2 v3 v4 v5 _ hT; exact hT.elim
  | succ n ih =>
    intro S v1 v2 v3 v4 v5 hM hT hk
    unfold T_X11_film_77 at hT
    obtain ⟨h0, h1⟩ := hT
    refine aw_iload hC 5 dX11_film_77 rfl ?_
    refine aw_bipush (v := 9) hC dX11_film_79 (by decide) ?_
    refine aw_icmp_ge hC 122 dX11_film_81 (by decide) (fun c1006 => ?_) (fun c1006 => ?_)
    · refine aw_sub [0, 1, 2, 3, 4, 5] rfl ?_
      have E : L_X11_film_77 (n + 1) S v1 v2 v3 v4 v5 = _ := (if_pos c1006).trans (rfl)
      rw [E] at hk
      exact hk
    · refine aw_aload_n hC 0 dX11_film_84 rfl rfl ?_
      refine aw_getP (b := 38) hC hSt 6 (cs_lt 0 11 0 (by decide) hM) (cs_k 0 11 0 (by decide) hM) rfl (by decide) w_687 rfl (cs_p 0 6 38 (by decide) hM) dX11_film_85 ?_
      refine aw_iload hC 5 dX11_film_88 rfl ?_
      refine aw_aload_n hC 0 dX11_film_90 rfl rfl ?_
      refine aw_getP (b := 18) hC hSt 2 (cs_lt 0 11 0 (by decide) hM) (cs_k 0 11 0 (by decide) hM) rfl (by decide) w_678 rfl (cs_p 0 2 18 (by decide) hM) dX11_film_91 ?_
      refine aw_aload_n hC 0 dX11_film_94 rfl rfl ?_
      refine aw_getP (b := 1) hC hSt 0 (cs_lt 0 11 0 (by decide) hM) (cs_k 0 11 0 (by decide) hM) rfl (by decide) w_672 rfl (cs_p 0 0 1 (by decide) hM) dX11_film_95 ?_
      refine aw_iload_n hC 1 dX11_film_98 rfl rfl ?_
      refine aw_iload_n hC 2 dX11_film_99 rfl rfl ?_
      refine aw_iload_n hC 3 dX11_film_100 rfl rfl ?_
      refine aw_cV6r hC hSt (t_X8_isHandOf G l hM _ _ _ _ _ (by decide) (h0 c1006)) w_664 w_881 w_882 w_883 w_625 rfl rfl (by decide +kernel) ⟨Nat.le_of_ble_eq_true rfl, Nat.le_of_ble_eq_true rfl⟩ (cs_lt 38 8 0 (by decide) hM) (cs_k 38 8 0 (by decide) hM) rfl (Nat.le_of_ble_eq_true rfl) dX11_film_101 ⟨Nat.zero_le _, Nat.zero_le _⟩ ?_
      generalize er1007 : f_X8_isHandOf S 38 v5 18 1 v1 v2 v3 = r1007
      have hM : CS r1007.2 := CS.of (by rw [← er1007]; exact q_X8_isHandOf _ _ _ _ _ _ _ _) hM
      refine aw_cut (S' := r1007.2) (pc' := 116) (lv' := [(0, .ref 0), (1, .int v1), (2, .int v2), (3, .int v3), (4, .int (if r1007.1 = 0 then v4 else (bd ((v4 ||| ((1 : Int32) <<< (v5 &&& 31)))) fun x1009 => x1009))), (5, .int v5)]) (st' := []) ?_ (fun Jc1008 => ?_)
      · generalize ex1010 : (if r1007.1 = 0 then v4 else (bd ((v4 ||| ((1 : Int32) <<< (v5 &&& 31)))) fun x1009 => x1009)) = x1010
        refine aw_iinc (v := (v5 + (1 : Int32))) hC 5 [(5, .int _), (0, .ref 0), (1, .int _), (2, .int _), (3, .int _), (4, .int _)] dX11_film_116 rfl rfl (by decide) rfl ?_
        refine aw_goto hC 77 dX11_film_119 (by decide) ?_
        refine aw_sub [1, 2, 3, 4, 5, 0] rfl ?_
        have hTn := (h1 c1006 r1007 er1007 x1010 ex1010)
        have hMn : CS r1007.2 := hM
        have E : L_X11_film_77 (n + 1) S v1 v2 v3 v4 v5 = _ := (if_neg c1006).trans ((bd_eq er1007).trans ((bd_eq ex1010).trans (rfl)))
        rw [E] at hk
        exact ih _ _ _ _ _ _ hMn hTn hk
      · refine aw_if_eq hC 116 dX11_film_104 (by decide) (fun c1008 => ?_) (fun c1008 => ?_)
        · simp only [bd_def, if_pos c1008] at Jc1008 ⊢
          exact Jc1008
        · refine aw_iload hC 4 dX11_film_107 rfl ?_
          refine aw_iconst (v := 1) hC dX11_film_109 (by decide) ?_
          refine aw_iload hC 5 dX11_film_110 rfl ?_
          refine aw_ishl hC dX11_film_112 ?_
          refine aw_ior hC dX11_film_113 ?_
          refine aw_istore hC [(4, .int _), (0, .ref 0), (1, .int _), (2, .int _), (3, .int _), (5, .int _)] dX11_film_114 (by decide) rfl ?_
          generalize ex1009 : (v4 ||| ((1 : Int32) <<< (v5 &&& 31))) = x1009
          refine aw_sub [1, 2, 3, 4, 0, 5] rfl ?_
          subst ex1009
          simp only [bd_def, if_neg c1008] at Jc1008 ⊢
          exact Jc1008
def f_X11_film (S : HSt) (_o0 : Nat) (a1 : Int32) (a2 : Int32) (a3 : Int32) : Int64 × HSt := if (f_X5_isRow S a1) = 0 then (pr ((-9000000000000000001 : Int64)) (S)) else (if (f_X11_within S a3 (1 : Int32) (20 : Int32)) = 0 then (pr ((-9000000000000000001 : Int64)) (S)) else (if (gI S 18 2) = 0 then (pr ((-9000000000000000002 : Int64)) (S)) else (if (f_X5_isMissing S 1 a1) = 0 then (if (f_X5_hasPlaces S 1 a1 a2 a3) = 0 then (bd (f_X11_found S 0 (2 : Int32)) fun r8 => pr (r8.1) (r8.2)) else (bd (L_X11_film_77 1000 S a1 a2 a3 (0 : Int32) (0 : Int32)) fun r6 => bd (f_X11_fine r6.2.2.2.2.2 0 r6.2.2.2.1.toInt64) fun r7 => pr (r7.1) (r7.2))) else (bd (f_X11_found S 0 (1 : Int32)) fun r9 => pr (r9.1) (r9.2)))))
def p_X11_film (S : HSt) (_o0 : Nat) (a1 : Int32) (a2 : Int32) (a3 : Int32) : Prop := ((¬ (f_X5_isRow S a1) = 0) → (¬ (f_X11_within S a3 (1 : Int32) (20 : Int32)) = 0) → (¬ (gI S 18 2) = 0) → p_X5_isMissing S 1 a1) ∧ ((¬ (f_X5_isRow S a1) = 0) → (¬ (f_X11_within S a3 (1 : Int32) (20 : Int32)) = 0) → (¬ (gI S 18 2) = 0) → ((f_X5_isMissing S 1 a1) = 0) → p_X5_hasPlaces S 1 a1 a2 a3) ∧ ((¬ (f_X5_isRow S a1) = 0) → (¬ (f_X11_within S a3 (1 : Int32) (20 : Int32)) = 0) → (¬ (gI S 18 2) = 0) → ((f_X5_isMissing S 1 a1) = 0) → (¬ (f_X5_hasPlaces S 1 a1 a2 a3) = 0) → T_X11_film_77 1000 S a1 a2 a3 (0 : Int32) (0 : Int32))
set_option maxRecDepth 100000 in
theorem t_X11_film (G : GG) (l : Launch) {S : HSt} (hM : CS S) (a1 : Int32) (a2 : Int32) (a3 : Int32)  (hp : p_X11_film S 0 a1 a2 a3) : AM G l yX11_film cX11_film 6 (some .long) (rmD 5 0 0) 0 0 [.ref 0, .int a1, .int a2, .int a3] S (FP (some (.long (f_X11_film S 0 a1 a2 a3).1)) ((f_X11_film S 0 a1 a2 a3).2)) := by
  obtain ⟨h0, h1, h2⟩ := hp
  refine AM.mk (by decide) (Nat.le_of_ble_eq_true rfl) ?_
  intro p e s m below meth c hC hSt _
  refine aw_iload_n hC 1 dX11_film_0 rfl rfl ?_
  refine aw_cS1r hC hSt (t_X5_isRow G l  _) w_469 w_711 w_472 w_473 rfl rfl (by decide +kernel) ⟨Nat.le_of_ble_eq_true rfl, Nat.le_of_ble_eq_true rfl⟩ (Nat.le_of_ble_eq_true rfl) dX11_film_1 ⟨Nat.zero_le _, Nat.zero_le _⟩ ?_
  refine aw_if_eq hC 17 dX11_film_4 (by decide) (fun c1 => ?_) (fun c1 => ?_)
  · refine aw_ldc2 (v := -9000000000000000001) hC w_710 dX11_film_17 ?_
    refine aw_lret hC dX11_film_20 (Nat.le_refl _) (Nat.le_refl _) ?_
    exact FP.qJ ((if_pos c1).trans (rfl))
  · refine aw_iload_n hC 3 dX11_film_7 rfl rfl ?_
    refine aw_iconst (v := 1) hC dX11_film_8 (by decide) ?_
    refine aw_bipush (v := 20) hC dX11_film_9 (by decide) ?_
    refine aw_cS3r hC hSt (t_X11_within G l  _ _ _) w_706 w_712 w_713 w_517 rfl rfl (by decide +kernel) ⟨Nat.le_of_ble_eq_true rfl, Nat.le_of_ble_eq_true rfl⟩ (Nat.le_of_ble_eq_true rfl) dX11_film_11 ⟨Nat.zero_le _, Nat.zero_le _⟩ ?_
    refine aw_if_ne hC 21 dX11_film_14 (by decide) (fun c2 => ?_) (fun c2 => ?_)
    · refine aw_aload_n hC 0 dX11_film_21 rfl rfl ?_
      refine aw_getP (b := 18) hC hSt 2 (cs_lt 0 11 0 (by decide) hM) (cs_k 0 11 0 (by decide) hM) rfl (by decide) w_678 rfl (cs_p 0 2 18 (by decide) hM) dX11_film_22 ?_
      refine aw_getI hC hSt 2 (cs_lt 18 7 0 (by decide) hM) (cs_k 18 7 0 (by decide) hM) rfl (by decide) w_783 rfl dX11_film_25 ?_
      refine aw_if_ne hC 35 dX11_film_28 (by decide) (fun c3 => ?_) (fun c3 => ?_)
      · refine aw_aload_n hC 0 dX11_film_35 rfl rfl ?_
        refine aw_getP (b := 1) hC hSt 0 (cs_lt 0 11 0 (by decide) hM) (cs_k 0 11 0 (by decide) hM) rfl (by decide) w_672 rfl (cs_p 0 0 1 (by decide) hM) dX11_film_36 ?_
        refine aw_iload_n hC 1 dX11_film_39 rfl rfl ?_
        refine aw_cV1r hC hSt (t_X5_isMissing G l hM _ (h0 c1 c2 c3)) w_470 w_724 w_478 w_479 w_473 rfl rfl (by decide +kernel) ⟨Nat.le_of_ble_eq_true rfl, Nat.le_of_ble_eq_true rfl⟩ (cs_lt 1 5 0 (by decide) hM) (cs_k 1 5 0 (by decide) hM) rfl (Nat.le_of_ble_eq_true rfl) dX11_film_40 ⟨Nat.zero_le _, Nat.zero_le _⟩ ?_
        refine aw_if_eq hC 52 dX11_film_43 (by decide) (fun c4 => ?_) (fun c4 => ?_)
        · refine aw_aload_n hC 0 dX11_film_52 rfl rfl ?_
          refine aw_getP (b := 1) hC hSt 0 (cs_lt 0 11 0 (by decide) hM) (cs_k 0 11 0 (by decide) hM) rfl (by decide) w_672 rfl (cs_p 0 0 1 (by decide) hM) dX11_film_53 ?_
          refine aw_iload_n hC 1 dX11_film_56 rfl rfl ?_
          refine aw_iload_n hC 2 dX11_film_57 rfl rfl ?_
          refine aw_iload_n hC 3 dX11_film_58 rfl rfl ?_
          refine aw_cV3r hC hSt (t_X5_hasPlaces G l hM _ _ _ (h1 c1 c2 c3 c4)) w_476 w_725 w_483 w_484 w_473 rfl rfl (by decide +kernel) ⟨Nat.le_of_ble_eq_true rfl, Nat.le_of_ble_eq_true rfl⟩ (cs_lt 1 5 0 (by decide) hM) (cs_k 1 5 0 (by decide) hM) rfl (Nat.le_of_ble_eq_true rfl) dX11_film_59 ⟨Nat.zero_le _, Nat.zero_le _⟩ ?_
          refine aw_if_ne hC 71 dX11_film_62 (by decide) (fun c5 => ?_) (fun c5 => ?_)
          · refine aw_iconst (v := 0) hC dX11_film_71 (by decide) ?_
            refine aw_istore hC [(4, .int _), (0, .ref 0), (1, .int _), (2, .int _), (3, .int _)] dX11_film_72 (by decide) rfl ?_
            refine aw_iconst (v := 0) hC dX11_film_74 (by decide) ?_
            refine aw_istore hC [(5, .int _), (4, .int _), (0, .ref 0), (1, .int _), (2, .int _), (3, .int _)] dX11_film_75 (by decide) rfl ?_
            refine aw_sub [2, 3, 4, 5, 1, 0] rfl ?_
            refine l_X11_film_77 hC hSt 1000 _ _ _ _ _ _ hM (h2 c1 c2 c3 c4 c5) ?_
            generalize er6 : L_X11_film_77 1000 S a1 a2 a3 (0 : Int32) (0 : Int32) = r6
            have hM : CS r6.2.2.2.2.2 := CS.of (by rw [← er6]; exact qL_X11_film_77 _ _ _ _ _ _ _) hM
            refine aw_aload_n hC 0 dX11_film_122 rfl rfl ?_
            refine aw_iload hC 4 dX11_film_123 rfl ?_
            refine aw_i2l hC dX11_film_125 ?_
            refine aw_cV1r hC hSt (t_X11_fine G l hM _) w_709 w_720 w_721 w_722 w_517 rfl rfl (by decide +kernel) ⟨Nat.le_of_ble_eq_true rfl, Nat.le_of_ble_eq_true rfl⟩ (cs_lt 0 11 0 (by decide) hM) (cs_k 0 11 0 (by decide) hM) rfl (Nat.le_of_ble_eq_true rfl) dX11_film_126 ⟨Nat.zero_le _, Nat.zero_le _⟩ ?_
            generalize er7 : f_X11_fine r6.2.2.2.2.2 0 r6.2.2.2.1.toInt64 = r7
            have hM : CS r7.2 := CS.of (by rw [← er7]; exact q_X11_fine _ _ _) hM
            refine aw_lret hC dX11_film_129 (Nat.le_refl _) (Nat.le_refl _) ?_
            exact FP.qJ ((if_neg c1).trans ((if_neg c2).trans ((if_neg c3).trans ((if_pos c4).trans ((if_neg c5).trans ((bd_eq er6).trans ((bd_eq er7).trans (rfl))))))))
          · refine aw_aload_n hC 0 dX11_film_65 rfl rfl ?_
            refine aw_iconst (v := 2) hC dX11_film_66 (by decide) ?_
            refine aw_cV1r hC hSt (t_X11_found G l hM _) w_707 w_714 w_715 w_716 w_517 rfl rfl (by decide +kernel) ⟨Nat.le_of_ble_eq_true rfl, Nat.le_of_ble_eq_true rfl⟩ (cs_lt 0 11 0 (by decide) hM) (cs_k 0 11 0 (by decide) hM) rfl (Nat.le_of_ble_eq_true rfl) dX11_film_67 ⟨Nat.zero_le _, Nat.zero_le _⟩ ?_
            generalize er8 : f_X11_found S 0 (2 : Int32) = r8
            have hM : CS r8.2 := CS.of (by rw [← er8]; exact q_X11_found _ _ _) hM
            refine aw_lret hC dX11_film_70 (Nat.le_refl _) (Nat.le_refl _) ?_
            exact FP.qJ ((if_neg c1).trans ((if_neg c2).trans ((if_neg c3).trans ((if_pos c4).trans ((if_pos c5).trans ((bd_eq er8).trans (rfl)))))))
        · refine aw_aload_n hC 0 dX11_film_46 rfl rfl ?_
          refine aw_iconst (v := 1) hC dX11_film_47 (by decide) ?_
          refine aw_cV1r hC hSt (t_X11_found G l hM _) w_707 w_714 w_715 w_716 w_517 rfl rfl (by decide +kernel) ⟨Nat.le_of_ble_eq_true rfl, Nat.le_of_ble_eq_true rfl⟩ (cs_lt 0 11 0 (by decide) hM) (cs_k 0 11 0 (by decide) hM) rfl (Nat.le_of_ble_eq_true rfl) dX11_film_48 ⟨Nat.zero_le _, Nat.zero_le _⟩ ?_
          generalize er9 : f_X11_found S 0 (1 : Int32) = r9
          have hM : CS r9.2 := CS.of (by rw [← er9]; exact q_X11_found _ _ _) hM
          refine aw_lret hC dX11_film_51 (Nat.le_refl _) (Nat.le_refl _) ?_
          exact FP.qJ ((if_neg c1).trans ((if_neg c2).trans ((if_neg c3).trans ((if_neg c4).trans ((bd_eq er9).trans (rfl))))))
      · refine aw_ldc2 (v := -9000000000000000002) hC w_785 dX11_film_31 ?_
        refine aw_lret hC dX11_film_34 (Nat.le_refl _) (Nat.le_refl _) ?_
        exact FP.qJ ((if_neg c1).trans ((if_neg c2).trans ((if_pos c3).trans (rfl))))
    · refine aw_ldc2 (v := -9000000000000000001) hC w_710 dX11_film_17 ?_
      refine aw_lret hC dX11_film_20 (Nat.le_refl _) (Nat.le_refl _) ?_
      exact FP.qJ ((if_neg c1).trans ((if_pos c2).trans (rfl)))
theorem q_X11_film (S : HSt) (_o0 : Nat) (a1 : Int32) (a2 : Int32) (a3 : Int32) : shp ((f_X11_film S _o0 a1 a2 a3).2) = shp S := by
  unfold f_X11_film
  repeat' (first | with_reducible refine shpr1 ?_ | with_reducible rfl | with_reducible refine (q_X11_fine _ _ _).trans ?_ | with_reducible refine (q_X11_found _ _ _).trans ?_ | with_reducible refine (q_X8_isHandOf _ _ _ _ _ _ _ _).trans ?_ | with_reducible refine (qL_X11_film_77 _ _ _ _ _ _ _).trans ?_ | with_reducible refine (shp_sI _ _ _ _).trans ?_ | with_reducible refine (shp_sJ _ _ _ _).trans ?_ | with_reducible refine shi ?_ ?_ | with_reducible refine shb (fun _ _ => ?_) | with_reducible refine shiP (fun q : Int64 × HSt => q.2) ?_ ?_ | with_reducible refine shbP (fun q : Int64 × HSt => q.2) (fun _ _ => ?_) | (subst_vars; with_reducible rfl) | (subst_vars; with_reducible refine (q_X11_fine _ _ _).trans ?_) | (subst_vars; with_reducible refine (q_X11_found _ _ _).trans ?_) | (subst_vars; with_reducible refine (q_X8_isHandOf _ _ _ _ _ _ _ _).trans ?_) | (subst_vars; with_reducible refine (qL_X11_film_77 _ _ _ _ _ _ _).trans ?_) | (subst_vars; with_reducible refine (shp_sI _ _ _ _).trans ?_) | (subst_vars; with_reducible refine (shp_sJ _ _ _ _).trans ?_) | (subst_vars; with_reducible refine shi ?_ ?_) | (subst_vars; with_reducible refine shb (fun _ _ => ?_)))
def F_X11_kind (S : HSt) (_o0 : Nat) (a1 : Int32) : Int64 × HSt := bd ((if (f_X11_hasAct S 0 a1) = 0 then (-9000000000000000001 : Int64) else (f_X10_kindOf S 19 a1).toInt64)) fun x2 => pr (x2) (S)
def f_X11_kind (S : HSt) (_o0 : Nat) (a1 : Int32) : Int64 := (F_X11_kind S _o0 a1).1
def p_X11_kind (S : HSt) (_o0 : Nat) (a1 : Int32) : Prop := (p_X11_hasAct S 0 a1) ∧ ((¬ (f_X11_hasAct S 0 a1) = 0) → p_X10_kindOf S 19 a1)
set_option maxRecDepth 100000 in
theorem t_X11_kind (G : GG) (l : Launch) {S : HSt} (hM : CS S) (a1 : Int32)  (hp : p_X11_kind S 0 a1) : AM G l yX11_kind cX11_kind 2 (some .long) (rmD 3 0 0) 0 0 [.ref 0, .int a1] S (FP (some (.long (f_X11_kind S 0 a1))) (S)) := by
  obtain ⟨h0, h1⟩ := hp
  refine AM.mk (by decide) (Nat.le_of_ble_eq_true rfl) ?_
  intro p e s m below meth c hC hSt _
  refine aw_aload_n hC 0 dX11_kind_0 rfl rfl ?_
  refine aw_iload_n hC 1 dX11_kind_1 rfl rfl ?_
  refine aw_cV1r hC hSt (t_X11_hasAct G l hM _ (h0)) w_769 w_774 w_775 w_776 w_517 rfl rfl (by decide +kernel) ⟨Nat.le_of_ble_eq_true rfl, Nat.le_of_ble_eq_true rfl⟩ (cs_lt 0 11 0 (by decide) hM) (cs_k 0 11 0 (by decide) hM) rfl (Nat.le_of_ble_eq_true rfl) dX11_kind_2 ⟨Nat.zero_le _, Nat.zero_le _⟩ ?_
  refine aw_cut (S' := S) (pc' := 26) (lv' := [(0, .ref 0), (1, .int a1)]) (st' := [.long (if (f_X11_hasAct S 0 a1) = 0 then (-9000000000000000001 : Int64) else (f_X10_kindOf S 19 a1).toInt64)]) ?_ (fun Jc1 => ?_)
  · generalize ex2 : (if (f_X11_hasAct S 0 a1) = 0 then (-9000000000000000001 : Int64) else (f_X10_kindOf S 19 a1).toInt64) = x2
    refine aw_lret hC dX11_kind_26 (Nat.le_refl _) (Nat.le_refl _) ?_
    exact FP.pJ ((bd_eq ex2).trans (rfl))
  · refine aw_if_eq hC 23 dX11_kind_5 (by decide) (fun c1 => ?_) (fun c1 => ?_)
    · refine aw_ldc2 (v := -9000000000000000001) hC w_710 dX11_kind_23 ?_
      simp only [bd_def, if_pos c1] at Jc1 ⊢
      exact Jc1
    · refine aw_aload_n hC 0 dX11_kind_8 rfl rfl ?_
      refine aw_getP (b := 18) hC hSt 2 (cs_lt 0 11 0 (by decide) hM) (cs_k 0 11 0 (by decide) hM) rfl (by decide) w_678 rfl (cs_p 0 2 18 (by decide) hM) dX11_kind_9 ?_
      refine aw_getP (b := 19) hC hSt 0 (cs_lt 18 7 0 (by decide) hM) (cs_k 18 7 0 (by decide) hM) rfl (by decide) w_750 rfl (cs_p 18 0 19 (by decide) hM) dX11_kind_12 ?_
      refine aw_iload_n hC 1 dX11_kind_15 rfl rfl ?_
      refine aw_cV1r hC hSt (t_X10_kindOf G l hM _ _ (by decide) (h1 c1)) w_14 w_890 w_47 w_48 w_18 rfl rfl (by decide +kernel) ⟨Nat.le_of_ble_eq_true rfl, Nat.le_of_ble_eq_true rfl⟩ (cs_lt 19 10 0 (by decide) hM) (cs_k 19 10 0 (by decide) hM) rfl (Nat.le_of_ble_eq_true rfl) dX11_kind_16 ⟨Nat.zero_le _, Nat.zero_le _⟩ ?_
      refine aw_i2l hC dX11_kind_19 ?_
      refine aw_goto hC 26 dX11_kind_20 (by decide) ?_
      simp only [bd_def, if_neg c1] at Jc1 ⊢
      exact Jc1
def f_X11_as (S : HSt) (_o0 : Nat) (a1 : Int32) (a2 : Int32) : Int64 × HSt := if (f_X11_hasAct S 0 a1) = 0 then (pr ((-9000000000000000001 : Int64)) (S)) else (if (f_X11_within S a2 (0 : Int32) (6 : Int32)) = 0 then (pr ((-9000000000000000001 : Int64)) (S)) else (bd ((if (f_X10_isA S 19 a1 a2) = 0 then (bd (f_X11_found S 0 (3 : Int32)) fun r4 => r4.1) else (bd (f_X11_fine S 0 a1.toInt64) fun r5 => r5.1))) fun x6 => bd ((if (f_X10_isA S 19 a1 a2) = 0 then (bd (f_X11_found S 0 (3 : Int32)) fun r4 => r4.2) else (bd (f_X11_fine S 0 a1.toInt64) fun r5 => r5.2))) fun S7 => pr (x6) (S7)))
def p_X11_as (S : HSt) (_o0 : Nat) (a1 : Int32) (a2 : Int32) : Prop := (p_X11_hasAct S 0 a1) ∧ ((¬ (f_X11_hasAct S 0 a1) = 0) → (¬ (f_X11_within S a2 (0 : Int32) (6 : Int32)) = 0) → p_X10_isA S 19 a1 a2)
set_option maxRecDepth 100000 in
theorem t_X11_as (G : GG) (l : Launch) {S : HSt} (hM : CS S) (a1 : Int32) (a2 : Int32)  (hp : p_X11_as S 0 a1 a2) : AM G l yX11_as cX11_as 3 (some .long) (rmD 3 0 0) 0 0 [.ref 0, .int a1, .int a2] S (FP (some (.long (f_X11_as S 0 a1 a2).1)) ((f_X11_as S 0 a1 a2).2)) := by
  obtain ⟨h0, h1⟩ := hp
  refine AM.mk (by decide) (Nat.le_of_ble_eq_true rfl) ?_
  intro p e s m below meth c hC hSt _
  refine aw_aload_n hC 0 dX11_as_0 rfl rfl ?_
  refine aw_iload_n hC 1 dX11_as_1 rfl rfl ?_
  refine aw_cV1r hC hSt (t_X11_hasAct G l hM _ (h0)) w_769 w_774 w_775 w_776 w_517 rfl rfl (by decide +kernel) ⟨Nat.le_of_ble_eq_true rfl, Nat.le_of_ble_eq_true rfl⟩ (cs_lt 0 11 0 (by decide) hM) (cs_k 0 11 0 (by decide) hM) rfl (Nat.le_of_ble_eq_true rfl) dX11_as_2 ⟨Nat.zero_le _, Nat.zero_le _⟩ ?_
  refine aw_if_eq hC 18 dX11_as_5 (by decide) (fun c1 => ?_) (fun c1 => ?_)
  · refine aw_ldc2 (v := -9000000000000000001) hC w_710 dX11_as_18 ?_
    refine aw_lret hC dX11_as_21 (Nat.le_refl _) (Nat.le_refl _) ?_
    exact FP.qJ ((if_pos c1).trans (rfl))
  · refine aw_iload_n hC 2 dX11_as_8 rfl rfl ?_
    refine aw_iconst (v := 0) hC dX11_as_9 (by decide) ?_
    refine aw_bipush (v := 6) hC dX11_as_10 (by decide) ?_
    refine aw_cS3r hC hSt (t_X11_within G l  _ _ _) w_706 w_712 w_713 w_517 rfl rfl (by decide +kernel) ⟨Nat.le_of_ble_eq_true rfl, Nat.le_of_ble_eq_true rfl⟩ (Nat.le_of_ble_eq_true rfl) dX11_as_12 ⟨Nat.zero_le _, Nat.zero_le _⟩ ?_
    refine aw_if_ne hC 22 dX11_as_15 (by decide) (fun c2 => ?_) (fun c2 => ?_)
    · refine aw_aload_n hC 0 dX11_as_22 rfl rfl ?_
      refine aw_getP (b := 18) hC hSt 2 (cs_lt 0 11 0 (by decide) hM) (cs_k 0 11 0 (by decide) hM) rfl (by decide) w_678 rfl (cs_p 0 2 18 (by decide) hM) dX11_as_23 ?_
      refine aw_getP (b := 19) hC hSt 0 (cs_lt 18 7 0 (by decide) hM) (cs_k 18 7 0 (by decide) hM) rfl (by decide) w_750 rfl (cs_p 18 0 19 (by decide) hM) dX11_as_26 ?_
      refine aw_iload_n hC 1 dX11_as_29 rfl rfl ?_
      refine aw_iload_n hC 2 dX11_as_30 rfl rfl ?_
      refine aw_cV2r hC hSt (t_X10_isA G l hM _ _ _ (by decide) (h1 c1 c2)) w_496 w_777 w_547 w_548 w_18 rfl rfl (by decide +kernel) ⟨Nat.le_of_ble_eq_true rfl, Nat.le_of_ble_eq_true rfl⟩ (cs_lt 19 10 0 (by decide) hM) (cs_k 19 10 0 (by decide) hM) rfl (Nat.le_of_ble_eq_true rfl) dX11_as_31 ⟨Nat.zero_le _, Nat.zero_le _⟩ ?_
      refine aw_cut (S' := (if (f_X10_isA S 19 a1 a2) = 0 then (bd (f_X11_found S 0 (3 : Int32)) fun r4 => r4.2) else (bd (f_X11_fine S 0 a1.toInt64) fun r5 => r5.2))) (pc' := 51) (lv' := [(0, .ref 0), (1, .int a1), (2, .int a2)]) (st' := [.long (if (f_X10_isA S 19 a1 a2) = 0 then (bd (f_X11_found S 0 (3 : Int32)) fun r4 => r4.1) else (bd (f_X11_fine S 0 a1.toInt64) fun r5 => r5.1))]) ?_ (fun Jc3 => ?_)
      · generalize ex6 : (if (f_X10_isA S 19 a1 a2) = 0 then (bd (f_X11_found S 0 (3 : Int32)) fun r4 => r4.1) else (bd (f_X11_fine S 0 a1.toInt64) fun r5 => r5.1)) = x6
        generalize eS7 : (if (f_X10_isA S 19 a1 a2) = 0 then (bd (f_X11_found S 0 (3 : Int32)) fun r4 => r4.2) else (bd (f_X11_fine S 0 a1.toInt64) fun r5 => r5.2)) = S7
        have hM : CS S7 := CS.of (by rw [← eS7]; repeat' (first | with_reducible rfl | with_reducible refine (q_X11_fine _ _ _).trans ?_ | with_reducible refine (q_X11_found _ _ _).trans ?_ | with_reducible refine (shp_sI _ _ _ _).trans ?_ | with_reducible refine (shp_sJ _ _ _ _).trans ?_ | with_reducible refine shi ?_ ?_ | with_reducible refine shb (fun _ _ => ?_) | (subst_vars; with_reducible rfl) | (subst_vars; with_reducible refine (q_X11_fine _ _ _).trans ?_) | (subst_vars; with_reducible refine (q_X11_found _ _ _).trans ?_) | (subst_vars; with_reducible refine (shp_sI _ _ _ _).trans ?_) | (subst_vars; with_reducible refine (shp_sJ _ _ _ _).trans ?_) | (subst_vars; with_reducible refine shi ?_ ?_) | (subst_vars; with_reducible refine shb (fun _ _ => ?_)))) hM
        refine aw_lret hC dX11_as_51 (Nat.le_refl _) (Nat.le_refl _) ?_
        exact FP.qJ ((if_neg c1).trans ((if_neg c2).trans ((bd_eq ex6).trans ((bd_eq eS7).trans (rfl)))))
      · refine aw_if_eq hC 46 dX11_as_34 (by decide) (fun c3 => ?_) (fun c3 => ?_)
        · refine aw_aload_n hC 0 dX11_as_46 rfl rfl ?_
          refine aw_iconst (v := 3) hC dX11_as_47 (by decide) ?_
          refine aw_cV1r hC hSt (t_X11_found G l hM _) w_707 w_714 w_715 w_716 w_517 rfl rfl (by decide +kernel) ⟨Nat.le_of_ble_eq_true rfl, Nat.le_of_ble_eq_true rfl⟩ (cs_lt 0 11 0 (by decide) hM) (cs_k 0 11 0 (by decide) hM) rfl (Nat.le_of_ble_eq_true rfl) dX11_as_48 ⟨Nat.zero_le _, Nat.zero_le _⟩ ?_
          generalize er4 : f_X11_found S 0 (3 : Int32) = r4
          have hM : CS r4.2 := CS.of (by rw [← er4]; exact q_X11_found _ _ _) hM
          subst er4
          simp only [bd_def, if_pos c3] at Jc3 ⊢
          exact Jc3
        · refine aw_aload_n hC 0 dX11_as_37 rfl rfl ?_
          refine aw_iload_n hC 1 dX11_as_38 rfl rfl ?_
          refine aw_i2l hC dX11_as_39 ?_
          refine aw_cV1r hC hSt (t_X11_fine G l hM _) w_709 w_720 w_721 w_722 w_517 rfl rfl (by decide +kernel) ⟨Nat.le_of_ble_eq_true rfl, Nat.le_of_ble_eq_true rfl⟩ (cs_lt 0 11 0 (by decide) hM) (cs_k 0 11 0 (by decide) hM) rfl (Nat.le_of_ble_eq_true rfl) dX11_as_40 ⟨Nat.zero_le _, Nat.zero_le _⟩ ?_
          generalize er5 : f_X11_fine S 0 a1.toInt64 = r5
          have hM : CS r5.2 := CS.of (by rw [← er5]; exact q_X11_fine _ _ _) hM
          refine aw_goto hC 51 dX11_as_43 (by decide) ?_
          subst er5
          simp only [bd_def, if_neg c3] at Jc3 ⊢
          exact Jc3
    · refine aw_ldc2 (v := -9000000000000000001) hC w_710 dX11_as_18 ?_
      refine aw_lret hC dX11_as_21 (Nat.le_refl _) (Nat.le_refl _) ?_
      exact FP.qJ ((if_neg c1).trans ((if_pos c2).trans (rfl)))
theorem q_X11_as (S : HSt) (_o0 : Nat) (a1 : Int32) (a2 : Int32) : shp ((f_X11_as S _o0 a1 a2).2) = shp S := by
  unfold f_X11_as
  repeat' (first | with_reducible refine shpr1 ?_ | with_reducible rfl | with_reducible refine (q_X11_fine _ _ _).trans ?_ | with_reducible refine (q_X11_found _ _ _).trans ?_ | with_reducible refine (shp_sI _ _ _ _).trans ?_ | with_reducible refine (shp_sJ _ _ _ _).trans ?_ | with_reducible refine shi ?_ ?_ | with_reducible refine shb (fun _ _ => ?_) | with_reducible refine shiP (fun q : Int64 × HSt => q.2) ?_ ?_ | with_reducible refine shbP (fun q : Int64 × HSt => q.2) (fun _ _ => ?_) | (subst_vars; with_reducible rfl) | (subst_vars; with_reducible refine (q_X11_fine _ _ _).trans ?_) | (subst_vars; with_reducible refine (q_X11_found _ _ _).trans ?_) | (subst_vars; with_reducible refine (shp_sI _ _ _ _).trans ?_) | (subst_vars; with_reducible refine (shp_sJ _ _ _ _).trans ?_) | (subst_vars; with_reducible refine shi ?_ ?_) | (subst_vars; with_reducible refine shb (fun _ _ => ?_)))
def f_X11_ask (S : HSt) (_o0 : Nat) (a1 : Int32) (a2 : Int32) : Int64 × HSt := if (f_X11_hasAct S 0 a1) = 0 then (pr ((-9000000000000000001 : Int64)) (S)) else (if (f_X11_within S a2 (0 : Int32) (1 : Int32)) = 0 then (pr ((-9000000000000000001 : Int64)) (S)) else (bd ((if a2 = 0 then (bd (f_X0_sizeOf S 62 19 a1) fun r5 => r5.1.toInt64) else (bd (f_X0_markOf S 62 19 a1) fun r4 => r4.1.toInt64))) fun x6 => bd ((if a2 = 0 then (bd (f_X0_sizeOf S 62 19 a1) fun r5 => r5.2) else (bd (f_X0_markOf S 62 19 a1) fun r4 => r4.2))) fun S7 => pr (x6) (S7)))
def p_X11_ask (S : HSt) (_o0 : Nat) (a1 : Int32) (a2 : Int32) : Prop := (p_X11_hasAct S 0 a1) ∧ ((¬ (f_X11_hasAct S 0 a1) = 0) → (¬ (f_X11_within S a2 (0 : Int32) (1 : Int32)) = 0) → (¬ a2 = 0) → p_X0_markOf S 62 19 a1) ∧ ((¬ (f_X11_hasAct S 0 a1) = 0) → (¬ (f_X11_within S a2 (0 : Int32) (1 : Int32)) = 0) → (a2 = 0) → p_X0_sizeOf S 62 19 a1)
set_option maxRecDepth 100000 in
theorem t_X11_ask (G : GG) (l : Launch) {S : HSt} (hM : CS S) (a1 : Int32) (a2 : Int32)  (hp : p_X11_ask S 0 a1 a2) : AM G l yX11_ask cX11_ask 3 (some .long) (rmD 5 0 0) 0 0 [.ref 0, .int a1, .int a2] S (FP (some (.long (f_X11_ask S 0 a1 a2).1)) ((f_X11_ask S 0 a1 a2).2)) := by
  obtain ⟨h0, h1, h2⟩ := hp
  refine AM.mk (by decide) (Nat.le_of_ble_eq_true rfl) ?_
  intro p e s m below meth c hC hSt _
  refine aw_aload_n hC 0 dX11_ask_0 rfl rfl ?_
  refine aw_iload_n hC 1 dX11_ask_1 rfl rfl ?_
  refine aw_cV1r hC hSt (t_X11_hasAct G l hM _ (h0)) w_769 w_774 w_775 w_776 w_517 rfl rfl (by decide +kernel) ⟨Nat.le_of_ble_eq_true rfl, Nat.le_of_ble_eq_true rfl⟩ (cs_lt 0 11 0 (by decide) hM) (cs_k 0 11 0 (by decide) hM) rfl (Nat.le_of_ble_eq_true rfl) dX11_ask_2 ⟨Nat.zero_le _, Nat.zero_le _⟩ ?_
  refine aw_if_eq hC 17 dX11_ask_5 (by decide) (fun c1 => ?_) (fun c1 => ?_)
  · refine aw_ldc2 (v := -9000000000000000001) hC w_710 dX11_ask_17 ?_
    refine aw_lret hC dX11_ask_20 (Nat.le_refl _) (Nat.le_refl _) ?_
    exact FP.qJ ((if_pos c1).trans (rfl))
  · refine aw_iload_n hC 2 dX11_ask_8 rfl rfl ?_
    refine aw_iconst (v := 0) hC dX11_ask_9 (by decide) ?_
    refine aw_iconst (v := 1) hC dX11_ask_10 (by decide) ?_
    refine aw_cS3r hC hSt (t_X11_within G l  _ _ _) w_706 w_712 w_713 w_517 rfl rfl (by decide +kernel) ⟨Nat.le_of_ble_eq_true rfl, Nat.le_of_ble_eq_true rfl⟩ (Nat.le_of_ble_eq_true rfl) dX11_ask_11 ⟨Nat.zero_le _, Nat.zero_le _⟩ ?_
    refine aw_if_ne hC 21 dX11_ask_14 (by decide) (fun c2 => ?_) (fun c2 => ?_)
    · refine aw_iload_n hC 2 dX11_ask_21 rfl rfl ?_
      refine aw_cut (S' := (if a2 = 0 then (bd (f_X0_sizeOf S 62 19 a1) fun r5 => r5.2) else (bd (f_X0_markOf S 62 19 a1) fun r4 => r4.2))) (pc' := 60) (lv' := [(0, .ref 0), (1, .int a1), (2, .int a2)]) (st' := [.long (if a2 = 0 then (bd (f_X0_sizeOf S 62 19 a1) fun r5 => r5.1.toInt64) else (bd (f_X0_markOf S 62 19 a1) fun r4 => r4.1.toInt64))]) ?_ (fun Jc3 => ?_)
      · generalize ex6 : (if a2 = 0 then (bd (f_X0_sizeOf S 62 19 a1) fun r5 => r5.1.toInt64) else (bd (f_X0_markOf S 62 19 a1) fun r4 => r4.1.toInt64)) = x6
        generalize eS7 : (if a2 = 0 then (bd (f_X0_sizeOf S 62 19 a1) fun r5 => r5.2) else (bd (f_X0_markOf S 62 19 a1) fun r4 => r4.2)) = S7
        have hM : CS S7 := CS.of (by rw [← eS7]; repeat' (first | with_reducible rfl | with_reducible refine (q_X0_markOf _ _ _ _).trans ?_ | with_reducible refine (q_X0_sizeOf _ _ _ _).trans ?_ | with_reducible refine (shp_sI _ _ _ _).trans ?_ | with_reducible refine (shp_sJ _ _ _ _).trans ?_ | with_reducible refine shi ?_ ?_ | with_reducible refine shb (fun _ _ => ?_) | (subst_vars; with_reducible rfl) | (subst_vars; with_reducible refine (q_X0_markOf _ _ _ _).trans ?_) | (subst_vars; with_reducible refine (q_X0_sizeOf _ _ _ _).trans ?_) | (subst_vars; with_reducible refine (shp_sI _ _ _ _).trans ?_) | (subst_vars; with_reducible refine (shp_sJ _ _ _ _).trans ?_) | (subst_vars; with_reducible refine shi ?_ ?_) | (subst_vars; with_reducible refine shb (fun _ _ => ?_)))) hM
        refine aw_lret hC dX11_ask_60 (Nat.le_refl _) (Nat.le_refl _) ?_
        exact FP.qJ ((if_neg c1).trans ((if_neg c2).trans ((bd_eq ex6).trans ((bd_eq eS7).trans (rfl)))))
      · refine aw_if_ne hC 44 dX11_ask_22 (by decide) (fun c3 => ?_) (fun c3 => ?_)
        · refine aw_aload_n hC 0 dX11_ask_44 rfl rfl ?_
          refine aw_getP (b := 62) hC hSt 8 (cs_lt 0 11 0 (by decide) hM) (cs_k 0 11 0 (by decide) hM) rfl (by decide) w_693 rfl (cs_p 0 8 62 (by decide) hM) dX11_ask_45 ?_
          refine aw_aload_n hC 0 dX11_ask_48 rfl rfl ?_
          refine aw_getP (b := 18) hC hSt 2 (cs_lt 0 11 0 (by decide) hM) (cs_k 0 11 0 (by decide) hM) rfl (by decide) w_678 rfl (cs_p 0 2 18 (by decide) hM) dX11_ask_49 ?_
          refine aw_getP (b := 19) hC hSt 0 (cs_lt 18 7 0 (by decide) hM) (cs_k 18 7 0 (by decide) hM) rfl (by decide) w_750 rfl (cs_p 18 0 19 (by decide) hM) dX11_ask_52 ?_
          refine aw_iload_n hC 1 dX11_ask_55 rfl rfl ?_
          refine aw_cV2r hC hSt (t_X0_markOf G l hM _ _ (by decide) (h1 c1 c2 c3)) w_68 w_896 w_897 w_898 w_23 rfl rfl (by decide +kernel) ⟨Nat.le_of_ble_eq_true rfl, Nat.le_of_ble_eq_true rfl⟩ (cs_lt 62 0 0 (by decide) hM) (cs_k 62 0 0 (by decide) hM) rfl (Nat.le_of_ble_eq_true rfl) dX11_ask_56 ⟨Nat.zero_le _, Nat.zero_le _⟩ ?_
          generalize er4 : f_X0_markOf S 62 19 a1 = r4
          have hM : CS r4.2 := CS.of (by rw [← er4]; exact q_X0_markOf _ _ _ _) hM
          refine aw_i2l hC dX11_ask_59 ?_
          subst er4
          simp only [bd_def, if_neg c3] at Jc3 ⊢
          exact Jc3
        · refine aw_aload_n hC 0 dX11_ask_25 rfl rfl ?_
          refine aw_getP (b := 62) hC hSt 8 (cs_lt 0 11 0 (by decide) hM) (cs_k 0 11 0 (by decide) hM) rfl (by decide) w_693 rfl (cs_p 0 8 62 (by decide) hM) dX11_ask_26 ?_
          refine aw_aload_n hC 0 dX11_ask_29 rfl rfl ?_
          refine aw_getP (b := 18) hC hSt 2 (cs_lt 0 11 0 (by decide) hM) (cs_k 0 11 0 (by decide) hM) rfl (by decide) w_678 rfl (cs_p 0 2 18 (by decide) hM) dX11_ask_30 ?_
          refine aw_getP (b := 19) hC hSt 0 (cs_lt 18 7 0 (by decide) hM) (cs_k 18 7 0 (by decide) hM) rfl (by decide) w_750 rfl (cs_p 18 0 19 (by decide) hM) dX11_ask_33 ?_
          refine aw_iload_n hC 1 dX11_ask_36 rfl rfl ?_
          refine aw_cV2r hC hSt (t_X0_sizeOf G l hM _ _ (by decide) (h2 c1 c2 c3)) w_55 w_893 w_894 w_895 w_23 rfl rfl (by decide +kernel) ⟨Nat.le_of_ble_eq_true rfl, Nat.le_of_ble_eq_true rfl⟩ (cs_lt 62 0 0 (by decide) hM) (cs_k 62 0 0 (by decide) hM) rfl (Nat.le_of_ble_eq_true rfl) dX11_ask_37 ⟨Nat.zero_le _, Nat.zero_le _⟩ ?_
          generalize er5 : f_X0_sizeOf S 62 19 a1 = r5
          have hM : CS r5.2 := CS.of (by rw [← er5]; exact q_X0_sizeOf _ _ _ _) hM
          refine aw_i2l hC dX11_ask_40 ?_
          refine aw_goto hC 60 dX11_ask_41 (by decide) ?_
          subst er5
          simp only [bd_def, if_pos c3] at Jc3 ⊢
          exact Jc3
    · refine aw_ldc2 (v := -9000000000000000001) hC w_710 dX11_ask_17 ?_
      refine aw_lret hC dX11_ask_20 (Nat.le_refl _) (Nat.le_refl _) ?_
      exact FP.qJ ((if_neg c1).trans ((if_pos c2).trans (rfl)))
theorem q_X11_ask (S : HSt) (_o0 : Nat) (a1 : Int32) (a2 : Int32) : shp ((f_X11_ask S _o0 a1 a2).2) = shp S := by
  unfold f_X11_ask
  repeat' (first | with_reducible refine shpr1 ?_ | with_reducible rfl | with_reducible refine (q_X0_markOf _ _ _ _).trans ?_ | with_reducible refine (q_X0_sizeOf _ _ _ _).trans ?_ | with_reducible refine (shp_sI _ _ _ _).trans ?_ | with_reducible refine (shp_sJ _ _ _ _).trans ?_ | with_reducible refine shi ?_ ?_ | with_reducible refine shb (fun _ _ => ?_) | with_reducible refine shiP (fun q : Int64 × HSt => q.2) ?_ ?_ | with_reducible refine shbP (fun q : Int64 × HSt => q.2) (fun _ _ => ?_) | (subst_vars; with_reducible rfl) | (subst_vars; with_reducible refine (q_X0_markOf _ _ _ _).trans ?_) | (subst_vars; with_reducible refine (q_X0_sizeOf _ _ _ _).trans ?_) | (subst_vars; with_reducible refine (shp_sI _ _ _ _).trans ?_) | (subst_vars; with_reducible refine (shp_sJ _ _ _ _).trans ?_) | (subst_vars; with_reducible refine shi ?_ ?_) | (subst_vars; with_reducible refine shb (fun _ _ => ?_)))
def F_X11_trace (S : HSt) (_o0 : Nat) (a1 : Int32) : Int32 × HSt := pr ((f_X0_begunAt S 62 a1)) (S)
def f_X11_trace (S : HSt) (_o0 : Nat) (a1 : Int32) : Int32 := (F_X11_trace S _o0 a1).1
def p_X11_trace (S : HSt) (_o0 : Nat) (a1 : Int32) : Prop := (p_X0_begunAt S 62 a1)
set_option maxRecDepth 100000 in
theorem t_X11_trace (G : GG) (l : Launch) {S : HSt} (hM : CS S) (a1 : Int32)  (hp : p_X11_trace S 0 a1) : AM G l yX11_trace cX11_trace 2 (some .int) (rmD 1 0 0) 0 0 [.ref 0, .int a1] S (FP (some (.int (f_X11_trace S 0 a1))) (S)) := by
  have h0 := hp
  unfold p_X11_trace at h0
  refine AM.mk (by decide) (Nat.le_of_ble_eq_true rfl) ?_
  intro p e s m below meth c hC hSt _
  refine aw_aload_n hC 0 dX11_trace_0 rfl rfl ?_
  refine aw_getP (b := 62) hC hSt 8 (cs_lt 0 11 0 (by decide) hM) (cs_k 0 11 0 (by decide) hM) rfl (by decide) w_693 rfl (cs_p 0 8 62 (by decide) hM) dX11_trace_1 ?_
  refine aw_iload_n hC 1 dX11_trace_4 rfl rfl ?_
  refine aw_cV1r hC hSt (t_X0_begunAt G l hM _ (h0)) w_6 w_901 w_902 w_903 w_23 rfl rfl (by decide +kernel) ⟨Nat.le_of_ble_eq_true rfl, Nat.le_of_ble_eq_true rfl⟩ (cs_lt 62 0 0 (by decide) hM) (cs_k 62 0 0 (by decide) hM) rfl (Nat.le_of_ble_eq_true rfl) dX11_trace_5 ⟨Nat.zero_le _, Nat.zero_le _⟩ ?_
  refine aw_iret hC dX11_trace_8 (Nat.le_refl _) (Nat.le_refl _) ?_
  exact FP.pI (rfl)
def F_X11_count (S : HSt) (_o0 : Nat) (a1 : Int32) : Int64 × HSt := if a1 = (0 : Int32) then (pr ((f_X5_howMany S 1).toInt64) (S)) else (if a1 = (1 : Int32) then (pr ((f_X10_howMany S 19 (0 : Int32)).toInt64) (S)) else (if a1 = (2 : Int32) then (pr ((f_X10_howMany S 19 (1 : Int32)).toInt64) (S)) else (if a1 = (3 : Int32) then (pr ((f_X10_howMany S 19 (2 : Int32)).toInt64) (S)) else (if a1 = (4 : Int32) then (pr ((f_X10_howMany S 19 (3 : Int32)).toInt64) (S)) else (if a1 = (5 : Int32) then (pr ((f_X10_howMany S 19 (5 : Int32)).toInt64) (S)) else (if a1 = (6 : Int32) then (pr ((f_X10_howManyThrows S 19).toInt64) (S)) else (if a1 = (7 : Int32) then (pr ((f_X4_bytes S 13).toInt64) (S)) else (if a1 = (8 : Int32) then (pr ((f_X11_imagesKept S 0).toInt64) (S)) else (pr ((-9000000000000000001 : Int64)) (S))))))))))
def f_X11_count (S : HSt) (_o0 : Nat) (a1 : Int32) : Int64 := (F_X11_count S _o0 a1).1
def p_X11_count (S : HSt) (_o0 : Nat) (a1 : Int32) : Prop := ((a1 = (0 : Int32)) → p_X5_howMany S 1) ∧ ((¬ a1 = (0 : Int32)) → (a1 = (1 : Int32)) → p_X10_howMany S 19 (0 : Int32)) ∧ ((¬ a1 = (0 : Int32)) → (¬ a1 = (1 : Int32)) → (a1 = (2 : Int32)) → p_X10_howMany S 19 (1 : Int32)) ∧ ((¬ a1 = (0 : Int32)) → (¬ a1 = (1 : Int32)) → (¬ a1 = (2 : Int32)) → (a1 = (3 : Int32)) → p_X10_howMany S 19 (2 : Int32)) ∧ ((¬ a1 = (0 : Int32)) → (¬ a1 = (1 : Int32)) → (¬ a1 = (2 : Int32)) → (¬ a1 = (3 : Int32)) → (a1 = (4 : Int32)) → p_X10_howMany S 19 (3 : Int32)) ∧ ((¬ a1 = (0 : Int32)) → (¬ a1 = (1 : Int32)) → (¬ a1 = (2 : Int32)) → (¬ a1 = (3 : Int32)) → (¬ a1 = (4 : Int32)) → (a1 = (5 : Int32)) → p_X10_howMany S 19 (5 : Int32)) ∧ ((¬ a1 = (0 : Int32)) → (¬ a1 = (1 : Int32)) → (¬ a1 = (2 : Int32)) → (¬ a1 = (3 : Int32)) → (¬ a1 = (4 : Int32)) → (¬ a1 = (5 : Int32)) → (a1 = (6 : Int32)) → p_X10_howManyThrows S 19) ∧ ((¬ a1 = (0 : Int32)) → (¬ a1 = (1 : Int32)) → (¬ a1 = (2 : Int32)) → (¬ a1 = (3 : Int32)) → (¬ a1 = (4 : Int32)) → (¬ a1 = (5 : Int32)) → (¬ a1 = (6 : Int32)) → (¬ a1 = (7 : Int32)) → (a1 = (8 : Int32)) → p_X11_imagesKept S 0)
set_option maxRecDepth 100000 in
theorem t_X11_count (G : GG) (l : Launch) {S : HSt} (hM : CS S) (a1 : Int32)  (hp : p_X11_count S 0 a1) : AM G l yX11_count cX11_count 2 (some .long) (rmD 4 0 0) 0 0 [.ref 0, .int a1] S (FP (some (.long (f_X11_count S 0 a1))) (S)) := by
  obtain ⟨h0, h1, h2, h3, h4, h5, h6, h7⟩ := hp
  refine AM.mk (by decide) (Nat.le_of_ble_eq_true rfl) ?_
  intro p e s m below meth c hC hSt _
  refine aw_iload_n hC 1 dX11_count_0 rfl rfl ?_
  refine aw_switchE hC dX11_count_1 153 (by decide) [52, 61, 74, 87, 100, 113, 126, 138, 147] rfl (by decide) (by decide) (fun hdc1 => ?_) (fun kc1 hkc1 hxc1 => ?_)
  · have c1_0 : ¬ a1 = (0 : Int32) := hdc1 0 (by decide)
    have c1_1 : ¬ a1 = (1 : Int32) := hdc1 1 (by decide)
    have c1_2 : ¬ a1 = (2 : Int32) := hdc1 2 (by decide)
    have c1_3 : ¬ a1 = (3 : Int32) := hdc1 3 (by decide)
    have c1_4 : ¬ a1 = (4 : Int32) := hdc1 4 (by decide)
    have c1_5 : ¬ a1 = (5 : Int32) := hdc1 5 (by decide)
    have c1_6 : ¬ a1 = (6 : Int32) := hdc1 6 (by decide)
    have c1_7 : ¬ a1 = (7 : Int32) := hdc1 7 (by decide)
    have c1_8 : ¬ a1 = (8 : Int32) := hdc1 8 (by decide)
    refine aw_ldc2 (v := -9000000000000000001) hC w_710 dX11_count_153 ?_
    refine aw_lret hC dX11_count_156 (Nat.le_refl _) (Nat.le_refl _) ?_
    exact FP.pJ ((if_neg c1_0).trans ((if_neg c1_1).trans ((if_neg c1_2).trans ((if_neg c1_3).trans ((if_neg c1_4).trans ((if_neg c1_5).trans ((if_neg c1_6).trans ((if_neg c1_7).trans ((if_neg c1_8).trans (rfl))))))))))
  · match kc1, hkc1, hxc1 with
    | 0, _, hxc1 =>
      have c1_0 : a1 = (0 : Int32) := hxc1
      refine aw_at (pc' := 52) rfl ?_
      refine aw_aload_n hC 0 dX11_count_52 rfl rfl ?_
      refine aw_getP (b := 1) hC hSt 0 (cs_lt 0 11 0 (by decide) hM) (cs_k 0 11 0 (by decide) hM) rfl (by decide) w_672 rfl (cs_p 0 0 1 (by decide) hM) dX11_count_53 ?_
      refine aw_cV0r hC hSt (t_X5_howMany G l hM  (h0 c1_0)) w_489 w_905 w_906 w_907 w_473 rfl rfl (by decide +kernel) ⟨Nat.le_of_ble_eq_true rfl, Nat.le_of_ble_eq_true rfl⟩ (cs_lt 1 5 0 (by decide) hM) (cs_k 1 5 0 (by decide) hM) rfl (Nat.le_of_ble_eq_true rfl) dX11_count_56 ⟨Nat.zero_le _, Nat.zero_le _⟩ ?_
      refine aw_i2l hC dX11_count_59 ?_
      refine aw_lret hC dX11_count_60 (Nat.le_refl _) (Nat.le_refl _) ?_
      exact FP.pJ ((if_pos c1_0).trans (rfl))
    | 1, _, hxc1 =>
      have c1_1 : a1 = (1 : Int32) := hxc1
      have c1_0 : ¬ a1 = (0 : Int32) := by rw [c1_1]; decide
      refine aw_at (pc' := 61) rfl ?_
      refine aw_aload_n hC 0 dX11_count_61 rfl rfl ?_
      refine aw_getP (b := 18) hC hSt 2 (cs_lt 0 11 0 (by decide) hM) (cs_k 0 11 0 (by decide) hM) rfl (by decide) w_678 rfl (cs_p 0 2 18 (by decide) hM) dX11_count_62 ?_
      refine aw_getP (b := 19) hC hSt 0 (cs_lt 18 7 0 (by decide) hM) (cs_k 18 7 0 (by decide) hM) rfl (by decide) w_750 rfl (cs_p 18 0 19 (by decide) hM) dX11_count_65 ?_
      refine aw_iconst (v := 0) hC dX11_count_68 (by decide) ?_
      refine aw_cV1r hC hSt (t_X10_howMany G l hM _ _ (by decide) (h1 c1_0 c1_1)) w_152 w_763 w_237 w_238 w_18 rfl rfl (by decide +kernel) ⟨Nat.le_of_ble_eq_true rfl, Nat.le_of_ble_eq_true rfl⟩ (cs_lt 19 10 0 (by decide) hM) (cs_k 19 10 0 (by decide) hM) rfl (Nat.le_of_ble_eq_true rfl) dX11_count_69 ⟨Nat.zero_le _, Nat.zero_le _⟩ ?_
      refine aw_i2l hC dX11_count_72 ?_
      refine aw_lret hC dX11_count_73 (Nat.le_refl _) (Nat.le_refl _) ?_
      exact FP.pJ ((if_neg c1_0).trans ((if_pos c1_1).trans (rfl)))
    | 2, _, hxc1 =>
      have c1_2 : a1 = (2 : Int32) := hxc1
      have c1_0 : ¬ a1 = (0 : Int32) := by rw [c1_2]; decide
      have c1_1 : ¬ a1 = (1 : Int32) := by rw [c1_2]; decide
      refine aw_at (pc' := 74) rfl ?_
      refine aw_aload_n hC 0 dX11_count_74 rfl rfl ?_
      refine aw_getP (b := 18) hC hSt 2 (cs_lt 0 11 0 (by decide) hM) (cs_k 0 11 0 (by decide) hM) rfl (by decide) w_678 rfl (cs_p 0 2 18 (by decide) hM) dX11_count_75 ?_
      refine aw_getP (b := 19) hC hSt 0 (cs_lt 18 7 0 (by decide) hM) (cs_k 18 7 0 (by decide) hM) rfl (by decide) w_750 rfl (cs_p 18 0 19 (by decide) hM) dX11_count_78 ?_
      refine aw_iconst (v := 1) hC dX11_count_81 (by decide) ?_
      refine aw_cV1r hC hSt (t_X10_howMany G l hM _ _ (by decide) (h2 c1_0 c1_1 c1_2)) w_152 w_763 w_237 w_238 w_18 rfl rfl (by decide +kernel) ⟨Nat.le_of_ble_eq_true rfl, Nat.le_of_ble_eq_true rfl⟩ (cs_lt 19 10 0 (by decide) hM) (cs_k 19 10 0 (by decide) hM) rfl (Nat.le_of_ble_eq_true rfl) dX11_count_82 ⟨Nat.zero_le _, Nat.zero_le _⟩ ?_
      refine aw_i2l hC dX11_count_85 ?_
      refine aw_lret hC dX11_count_86 (Nat.le_refl _) (Nat.le_refl _) ?_
      exact FP.pJ ((if_neg c1_0).trans ((if_neg c1_1).trans ((if_pos c1_2).trans (rfl))))
    | 3, _, hxc1 =>
      have c1_3 : a1 = (3 : Int32) := hxc1
      have c1_0 : ¬ a1 = (0 : Int32) := by rw [c1_3]; decide
      have c1_1 : ¬ a1 = (1 : Int32) := by rw [c1_3]; decide
      have c1_2 : ¬ a1 = (2 : Int32) := by rw [c1_3]; decide
      refine aw_at (pc' := 87) rfl ?_
      refine aw_aload_n hC 0 dX11_count_87 rfl rfl ?_
      refine aw_getP (b := 18) hC hSt 2 (cs_lt 0 11 0 (by decide) hM) (cs_k 0 11 0 (by decide) hM) rfl (by decide) w_678 rfl (cs_p 0 2 18 (by decide) hM) dX11_count_88 ?_
      refine aw_getP (b := 19) hC hSt 0 (cs_lt 18 7 0 (by decide) hM) (cs_k 18 7 0 (by decide) hM) rfl (by decide) w_750 rfl (cs_p 18 0 19 (by decide) hM) dX11_count_91 ?_
      refine aw_iconst (v := 2) hC dX11_count_94 (by decide) ?_
      refine aw_cV1r hC hSt (t_X10_howMany G l hM _ _ (by decide) (h3 c1_0 c1_1 c1_2 c1_3)) w_152 w_763 w_237 w_238 w_18 rfl rfl (by decide +kernel) ⟨Nat.le_of_ble_eq_true rfl, Nat.le_of_ble_eq_true rfl⟩ (cs_lt 19 10 0 (by decide) hM) (cs_k 19 10 0 (by decide) hM) rfl (Nat.le_of_ble_eq_true rfl) dX11_count_95 ⟨Nat.zero_le _, Nat.zero_le _⟩ ?_
      refine aw_i2l hC dX11_count_98 ?_
      refine aw_lret hC dX11_count_99 (Nat.le_refl _) (Nat.le_refl _) ?_
      exact FP.pJ ((if_neg c1_0).trans ((if_neg c1_1).trans ((if_neg c1_2).trans ((if_pos c1_3).trans (rfl)))))
    | 4, _, hxc1 =>
      have c1_4 : a1 = (4 : Int32) := hxc1
      have c1_0 : ¬ a1 = (0 : Int32) := by rw [c1_4]; decide
      have c1_1 : ¬ a1 = (1 : Int32) := by rw [c1_4]; decide
      have c1_2 : ¬ a1 = (2 : Int32) := by rw [c1_4]; decide
      have c1_3 : ¬ a1 = (3 : Int32) := by rw [c1_4]; decide
      refine aw_at (pc' := 100) rfl ?_
      refine aw_aload_n hC 0 dX11_count_100 rfl rfl ?_
      refine aw_getP (b := 18) hC hSt 2 (cs_lt 0 11 0 (by decide) hM) (cs_k 0 11 0 (by decide) hM) rfl (by decide) w_678 rfl (cs_p 0 2 18 (by decide) hM) dX11_count_101 ?_
      refine aw_getP (b := 19) hC hSt 0 (cs_lt 18 7 0 (by decide) hM) (cs_k 18 7 0 (by decide) hM) rfl (by decide) w_750 rfl (cs_p 18 0 19 (by decide) hM) dX11_count_104 ?_
      refine aw_iconst (v := 3) hC dX11_count_107 (by decide) ?_
      refine aw_cV1r hC hSt (t_X10_howMany G l hM _ _ (by decide) (h4 c1_0 c1_1 c1_2 c1_3 c1_4)) w_152 w_763 w_237 w_238 w_18 rfl rfl (by decide +kernel) ⟨Nat.le_of_ble_eq_true rfl, Nat.le_of_ble_eq_true rfl⟩ (cs_lt 19 10 0 (by decide) hM) (cs_k 19 10 0 (by decide) hM) rfl (Nat.le_of_ble_eq_true rfl) dX11_count_108 ⟨Nat.zero_le _, Nat.zero_le _⟩ ?_
      refine aw_i2l hC dX11_count_111 ?_
      refine aw_lret hC dX11_count_112 (Nat.le_refl _) (Nat.le_refl _) ?_
      exact FP.pJ ((if_neg c1_0).trans ((if_neg c1_1).trans ((if_neg c1_2).trans ((if_neg c1_3).trans ((if_pos c1_4).trans (rfl))))))
    | 5, _, hxc1 =>
      have c1_5 : a1 = (5 : Int32) := hxc1
      have c1_0 : ¬ a1 = (0 : Int32) := by rw [c1_5]; decide
      have c1_1 : ¬ a1 = (1 : Int32) := by rw [c1_5]; decide
      have c1_2 : ¬ a1 = (2 : Int32) := by rw [c1_5]; decide
      have c1_3 : ¬ a1 = (3 : Int32) := by rw [c1_5]; decide
      have c1_4 : ¬ a1 = (4 : Int32) := by rw [c1_5]; decide
      refine aw_at (pc' := 113) rfl ?_
      refine aw_aload_n hC 0 dX11_count_113 rfl rfl ?_
      refine aw_getP (b := 18) hC hSt 2 (cs_lt 0 11 0 (by decide) hM) (cs_k 0 11 0 (by decide) hM) rfl (by decide) w_678 rfl (cs_p 0 2 18 (by decide) hM) dX11_count_114 ?_
      refine aw_getP (b := 19) hC hSt 0 (cs_lt 18 7 0 (by decide) hM) (cs_k 18 7 0 (by decide) hM) rfl (by decide) w_750 rfl (cs_p 18 0 19 (by decide) hM) dX11_count_117 ?_
      refine aw_iconst (v := 5) hC dX11_count_120 (by decide) ?_
      refine aw_cV1r hC hSt (t_X10_howMany G l hM _ _ (by decide) (h5 c1_0 c1_1 c1_2 c1_3 c1_4 c1_5)) w_152 w_763 w_237 w_238 w_18 rfl rfl (by decide +kernel) ⟨Nat.le_of_ble_eq_true rfl, Nat.le_of_ble_eq_true rfl⟩ (cs_lt 19 10 0 (by decide) hM) (cs_k 19 10 0 (by decide) hM) rfl (Nat.le_of_ble_eq_true rfl) dX11_count_121 ⟨Nat.zero_le _, Nat.zero_le _⟩ ?_
      refine aw_i2l hC dX11_count_124 ?_
      refine aw_lret hC dX11_count_125 (Nat.le_refl _) (Nat.le_refl _) ?_
      exact FP.pJ ((if_neg c1_0).trans ((if_neg c1_1).trans ((if_neg c1_2).trans ((if_neg c1_3).trans ((if_neg c1_4).trans ((if_pos c1_5).trans (rfl)))))))
    | 6, _, hxc1 =>
      have c1_6 : a1 = (6 : Int32) := hxc1
      have c1_0 : ¬ a1 = (0 : Int32) := by rw [c1_6]; decide
      have c1_1 : ¬ a1 = (1 : Int32) := by rw [c1_6]; decide
      have c1_2 : ¬ a1 = (2 : Int32) := by rw [c1_6]; decide
      have c1_3 : ¬ a1 = (3 : Int32) := by rw [c1_6]; decide
      have c1_4 : ¬ a1 = (4 : Int32) := by rw [c1_6]; decide
      have c1_5 : ¬ a1 = (5 : Int32) := by rw [c1_6]; decide
      refine aw_at (pc' := 126) rfl ?_
      refine aw_aload_n hC 0 dX11_count_126 rfl rfl ?_
      refine aw_getP (b := 18) hC hSt 2 (cs_lt 0 11 0 (by decide) hM) (cs_k 0 11 0 (by decide) hM) rfl (by decide) w_678 rfl (cs_p 0 2 18 (by decide) hM) dX11_count_127 ?_
      refine aw_getP (b := 19) hC hSt 0 (cs_lt 18 7 0 (by decide) hM) (cs_k 18 7 0 (by decide) hM) rfl (by decide) w_750 rfl (cs_p 18 0 19 (by decide) hM) dX11_count_130 ?_
      refine aw_cV0r hC hSt (t_X10_howManyThrows G l hM _ (by decide) (h6 c1_0 c1_1 c1_2 c1_3 c1_4 c1_5 c1_6)) w_667 w_908 w_909 w_910 w_18 rfl rfl (by decide +kernel) ⟨Nat.le_of_ble_eq_true rfl, Nat.le_of_ble_eq_true rfl⟩ (cs_lt 19 10 0 (by decide) hM) (cs_k 19 10 0 (by decide) hM) rfl (Nat.le_of_ble_eq_true rfl) dX11_count_133 ⟨Nat.zero_le _, Nat.zero_le _⟩ ?_
      refine aw_i2l hC dX11_count_136 ?_
      refine aw_lret hC dX11_count_137 (Nat.le_refl _) (Nat.le_refl _) ?_
      exact FP.pJ ((if_neg c1_0).trans ((if_neg c1_1).trans ((if_neg c1_2).trans ((if_neg c1_3).trans ((if_neg c1_4).trans ((if_neg c1_5).trans ((if_pos c1_6).trans (rfl))))))))
    | 7, _, hxc1 =>
      have c1_7 : a1 = (7 : Int32) := hxc1
      have c1_0 : ¬ a1 = (0 : Int32) := by rw [c1_7]; decide
      have c1_1 : ¬ a1 = (1 : Int32) := by rw [c1_7]; decide
      have c1_2 : ¬ a1 = (2 : Int32) := by rw [c1_7]; decide
      have c1_3 : ¬ a1 = (3 : Int32) := by rw [c1_7]; decide
      have c1_4 : ¬ a1 = (4 : Int32) := by rw [c1_7]; decide
      have c1_5 : ¬ a1 = (5 : Int32) := by rw [c1_7]; decide
      have c1_6 : ¬ a1 = (6 : Int32) := by rw [c1_7]; decide
      refine aw_at (pc' := 138) rfl ?_
      refine aw_aload_n hC 0 dX11_count_138 rfl rfl ?_
      refine aw_getP (b := 13) hC hSt 1 (cs_lt 0 11 0 (by decide) hM) (cs_k 0 11 0 (by decide) hM) rfl (by decide) w_675 rfl (cs_p 0 1 13 (by decide) hM) dX11_count_139 ?_
      refine aw_cV0r hC hSt (t_X4_bytes G l hM ) w_329 w_746 w_747 w_748 w_351 rfl rfl (by decide +kernel) ⟨Nat.le_of_ble_eq_true rfl, Nat.le_of_ble_eq_true rfl⟩ (cs_lt 13 4 0 (by decide) hM) (cs_k 13 4 0 (by decide) hM) rfl (Nat.le_of_ble_eq_true rfl) dX11_count_142 ⟨Nat.zero_le _, Nat.zero_le _⟩ ?_
      refine aw_i2l hC dX11_count_145 ?_
      refine aw_lret hC dX11_count_146 (Nat.le_refl _) (Nat.le_refl _) ?_
      exact FP.pJ ((if_neg c1_0).trans ((if_neg c1_1).trans ((if_neg c1_2).trans ((if_neg c1_3).trans ((if_neg c1_4).trans ((if_neg c1_5).trans ((if_neg c1_6).trans ((if_pos c1_7).trans (rfl)))))))))
    | 8, _, hxc1 =>
      have c1_8 : a1 = (8 : Int32) := hxc1
      have c1_0 : ¬ a1 = (0 : Int32) := by rw [c1_8]; decide
      have c1_1 : ¬ a1 = (1 : Int32) := by rw [c1_8]; decide
      have c1_2 : ¬ a1 = (2 : Int32) := by rw [c1_8]; decide
      have c1_3 : ¬ a1 = (3 : Int32) := by rw [c1_8]; decide
      have c1_4 : ¬ a1 = (4 : Int32) := by rw [c1_8]; decide
      have c1_5 : ¬ a1 = (5 : Int32) := by rw [c1_8]; decide
      have c1_6 : ¬ a1 = (6 : Int32) := by rw [c1_8]; decide
      have c1_7 : ¬ a1 = (7 : Int32) := by rw [c1_8]; decide
      refine aw_at (pc' := 147) rfl ?_
      refine aw_aload_n hC 0 dX11_count_147 rfl rfl ?_
      refine aw_cV0r hC hSt (t_X11_imagesKept G l hM  (h7 c1_0 c1_1 c1_2 c1_3 c1_4 c1_5 c1_6 c1_7 c1_8)) w_904 w_911 w_912 w_913 w_517 rfl rfl (by decide +kernel) ⟨Nat.le_of_ble_eq_true rfl, Nat.le_of_ble_eq_true rfl⟩ (cs_lt 0 11 0 (by decide) hM) (cs_k 0 11 0 (by decide) hM) rfl (Nat.le_of_ble_eq_true rfl) dX11_count_148 ⟨Nat.zero_le _, Nat.zero_le _⟩ ?_
      refine aw_i2l hC dX11_count_151 ?_
      refine aw_lret hC dX11_count_152 (Nat.le_refl _) (Nat.le_refl _) ?_
      exact FP.pJ ((if_neg c1_0).trans ((if_neg c1_1).trans ((if_neg c1_2).trans ((if_neg c1_3).trans ((if_neg c1_4).trans ((if_neg c1_5).trans ((if_neg c1_6).trans ((if_neg c1_7).trans ((if_pos c1_8).trans (rfl))))))))))
    | kc1 + 9, hkc1, _ => exact absurd hkc1 (by simp)
def F_X11_status (S : HSt) (_o0 : Nat) : Int32 × HSt := pr ((gI S 0 10)) (S)
def f_X11_status (S : HSt) (_o0 : Nat) : Int32 := (F_X11_status S _o0).1
set_option maxRecDepth 100000 in
theorem t_X11_status (G : GG) (l : Launch) {S : HSt} (hM : CS S)    : AM G l yX11_status cX11_status 1 (some .int) (rmD 0 0 0) 0 0 [.ref 0] S (FP (some (.int (f_X11_status S 0))) (S)) := by
  refine AM.mk (by decide) (Nat.le_of_ble_eq_true rfl) ?_
  intro p e s m below meth c hC hSt _
  refine aw_aload_n hC 0 dX11_status_0 rfl rfl ?_
  refine aw_getI hC hSt 10 (cs_lt 0 11 0 (by decide) hM) (cs_k 0 11 0 (by decide) hM) rfl (by decide) w_695 rfl dX11_status_1 ?_
  refine aw_iret hC dX11_status_4 (Nat.le_refl _) (Nat.le_refl _) ?_
  exact FP.pI (rfl)