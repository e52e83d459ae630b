noncomputable def f_X9_face (S : HSt) (o : Nat) (sc1 : Nat) (a2 : Int32) (a3 : Int32) (a4 : Int32) : HSt := bd ((if a3 = (1 : Int32) then (1 : Int32) else (0 : Int32))) fun x2 => bd ((sI S o 4 x2)) fun S3 => bd ((sI S3 o 5 (gI S3 sc1 9))) fun S4 => bd ((sI S4 o 3 ((12 : Int32) * (((2 : Int32) * (gI S4 o 5)) + (1 : Int32))))) fun S5 => bd ((sI S5 o 6 (f_X7_distance S5 sc1 (f_X10_value S5 (sc1 + 1) (2 : Int32) a4 (0 : Int32)) a2))) fun S6 => bd ((sI S6 o 7 (f_X10_value S6 (sc1 + 1) (2 : Int32) a4 (1 : Int32)))) fun S7 => bd ((sI S7 o 8 (f_X10_value S7 (sc1 + 1) (2 : Int32) a4 (2 : Int32)))) fun S8 => bd ((sI S8 o 9 (f_X10_value S8 (sc1 + 1) (2 : Int32) a4 (3 : Int32)))) fun S9 => bd ((sI S9 o 10 (f_X10_value S9 (sc1 + 1) (2 : Int32) a4 (4 : Int32)))) fun S10 => S10
def p_X9_face (S : HSt) (o : Nat) (sc1 : Nat) (a2 : Int32) (a3 : Int32) (a4 : Int32) : Prop := (∀ x2 : Int32, (if a3 = (1 : Int32) then (1 : Int32) else (0 : Int32)) = x2 → ∀ S3 : HSt, (sI S o 4 x2) = S3 → ∀ S4 : HSt, (sI S3 o 5 (gI S3 sc1 9)) = S4 → ∀ S5 : HSt, (sI S4 o 3 ((12 : Int32) * (((2 : Int32) * (gI S4 o 5)) + (1 : Int32)))) = S5 → p_X10_value S5 (sc1 + 1) (2 : Int32) a4 (0 : Int32)) ∧ (∀ x2 : Int32, (if a3 = (1 : Int32) then (1 : Int32) else (0 : Int32)) = x2 → ∀ S3 : HSt, (sI S o 4 x2) = S3 → ∀ S4 : HSt, (sI S3 o 5 (gI S3 sc1 9)) = S4 → ∀ S5 : HSt, (sI S4 o 3 ((12 : Int32) * (((2 : Int32) * (gI S4 o 5)) + (1 : Int32)))) = S5 → ∀ S6 : HSt, (sI S5 o 6 (f_X7_distance S5 sc1 (f_X10_value S5 (sc1 + 1) (2 : Int32) a4 (0 : Int32)) a2)) = S6 → p_X10_value S6 (sc1 + 1) (2 : Int32) a4 (1 : Int32)) ∧ (∀ x2 : Int32, (if a3 = (1 : Int32) then (1 : Int32) else (0 : Int32)) = x2 → ∀ S3 : HSt, (sI S o 4 x2) = S3 → ∀ S4 : HSt, (sI S3 o 5 (gI S3 sc1 9)) = S4 → ∀ S5 : HSt, (sI S4 o 3 ((12 : Int32) * (((2 : Int32) * (gI S4 o 5)) + (1 : Int32)))) = S5 → ∀ S6 : HSt, (sI S5 o 6 (f_X7_distance S5 sc1 (f_X10_value S5 (sc1 + 1) (2 : Int32) a4 (0 : Int32)) a2)) = S6 → ∀ S7 : HSt, (sI S6 o 7 (f_X10_value S6 (sc1 + 1) (2 : Int32) a4 (1 : Int32))) = S7 → p_X10_value S7 (sc1 + 1) (2 : Int32) a4 (2 : Int32)) ∧ (∀ x2 : Int32, (if a3 = (1 : Int32) then (1 : Int32) else (0 : Int32)) = x2 → ∀ S3 : HSt, (sI S o 4 x2) = S3 → ∀ S4 : HSt, (sI S3 o 5 (gI S3 sc1 9)) = S4 → ∀ S5 : HSt, (sI S4 o 3 ((12 : Int32) * (((2 : Int32) * (gI S4 o 5)) + (1 : Int32)))) = S5 → ∀ S6 : HSt, (sI S5 o 6 (f_X7_distance S5 sc1 (f_X10_value S5 (sc1 + 1) (2 : Int32) a4 (0 : Int32)) a2)) = S6 → ∀ S7 : HSt, (sI S6 o 7 (f_X10_value S6 (sc1 + 1) (2 : Int32) a4 (1 : Int32))) = S7 → ∀ S8 : HSt, (sI S7 o 8 (f_X10_value S7 (sc1 + 1) (2 : Int32) a4 (2 : Int32))) = S8 → p_X10_value S8 (sc1 + 1) (2 : Int32) a4 (3 : Int32)) ∧ (∀ x2 : Int32, (if a3 = (1 : Int32) then (1 : Int32) else (0 : Int32)) = x2 → ∀ S3 : HSt, (sI S o 4 x2) = S3 → ∀ S4 : HSt, (sI S3 o 5 (gI S3 sc1 9)) = S4 → ∀ S5 : HSt, (sI S4 o 3 ((12 : Int32) * (((2 : Int32) * (gI S4 o 5)) + (1 : Int32)))) = S5 → ∀ S6 : HSt, (sI S5 o 6 (f_X7_distance S5 sc1 (f_X10_value S5 (sc1 + 1) (2 : Int32) a4 (0 : Int32)) a2)) = S6 → ∀ S7 : HSt, (sI S6 o 7 (f_X10_value S6 (sc1 + 1) (2 : Int32) a4 (1 : Int32))) = S7 → ∀ S8 : HSt, (sI S7 o 8 (f_X10_value S7 (sc1 + 1) (2 : Int32) a4 (2 : Int32))) = S8 → ∀ S9 : HSt, (sI S8 o 9 (f_X10_value S8 (sc1 + 1) (2 : Int32) a4 (3 : Int32))) = S9 → p_X10_value S9 (sc1 + 1) (2 : Int32) a4 (4 : Int32))
set_option maxRecDepth 100000 in
theorem t_X9_face (G : GG) (l : Launch) {S : HSt} (hM : CS S) (o : Nat) (sc1 : Nat) (a2 : Int32) (a3 : Int32) (a4 : Int32) (ho : (o, 9, 0) ∈ cKT) (hsc1 : (sc1, 7, 0) ∈ cKT) (hp : p_X9_face S o sc1 a2 a3 a4) : AM G l yX9_face cX9_face 5 none (rmD 2 0 0) 0 0 [.ref o, .ref sc1, .int a2, .int a3, .int a4] S (FP none (f_X9_face S o sc1 a2 a3 a4)) := by
  obtain ⟨h0, h1, h2, h3, h4⟩ := hp
  refine AM.mk (by decide) (Nat.le_of_ble_eq_true rfl) ?_
  intro p e s m below meth c hC hSt _
  refine aw_aload_n hC 0 dX9_face_0 rfl rfl ?_
  refine aw_iload_n hC 3 dX9_face_1 rfl rfl ?_
  refine aw_iconst (v := 1) hC dX9_face_2 (by decide) ?_
  refine aw_cut (S' := S) (pc' := 11) (lv' := [(0, .ref o), (1, .ref sc1), (2, .int a2), (3, .int a3), (4, .int a4)]) (st' := [.int (if a3 = (1 : Int32) then (1 : Int32) else (0 : Int32)), .ref o]) ?_ (fun Jc1 => ?_)
  · generalize ex2 : (if a3 = (1 : Int32) then (1 : Int32) else (0 : Int32)) = x2
    refine aw_putI hC hSt 4 (cs_lt o 9 0 ho hM) (cs_k o 9 0 ho hM) rfl (by decide) w_158 rfl rfl (Bz.n (ex2 ▸ (Bz.ite (Or.inr rfl) (Or.inl rfl)))) (Bz.f (ex2 ▸ (Bz.ite (Or.inr rfl) (Or.inl rfl)))) dX9_face_11 ?_
    generalize eS3 : (sI S o 4 x2) = S3
    have hM : CS S3 := CS.of (by rw [← eS3]; exact shp_sI _ _ _ _) hM
    refine aw_aload_n hC 0 dX9_face_14 rfl rfl ?_
    refine aw_aload_n hC 1 dX9_face_15 rfl rfl ?_
    refine aw_getI hC hSt 9 (cs_lt sc1 7 0 hsc1 hM) (cs_k sc1 7 0 hsc1 hM) rfl (by decide) w_159 rfl dX9_face_16 ?_
    refine aw_putI hC hSt 5 (cs_lt o 9 0 ho hM) (cs_k o 9 0 ho hM) rfl (by decide) w_160 rfl rfl rfl rfl dX9_face_19 ?_
    generalize eS4 : (sI S3 o 5 (gI S3 sc1 9)) = S4
    have hM : CS S4 := CS.of (by rw [← eS4]; exact shp_sI _ _ _ _) hM
    refine aw_aload_n hC 0 dX9_face_22 rfl rfl ?_
    refine aw_bipush (v := 12) hC dX9_face_23 (by decide) ?_
    refine aw_iconst (v := 2) hC dX9_face_25 (by decide) ?_
    refine aw_aload_n hC 0 dX9_face_26 rfl rfl ?_
    refine aw_getI hC hSt 5 (cs_lt o 9 0 ho hM) (cs_k o 9 0 ho hM) rfl (by decide) w_160 rfl dX9_face_27 ?_
    refine aw_imul hC dX9_face_30 ?_
    refine aw_iconst (v := 1) hC dX9_face_31 (by decide) ?_
    refine aw_iadd hC dX9_face_32 ?_
    refine aw_imul hC dX9_face_33 ?_
    refine aw_putI hC hSt 3 (cs_lt o 9 0 ho hM) (cs_k o 9 0 ho hM) rfl (by decide) w_161 rfl rfl rfl rfl dX9_face_34 ?_
    generalize eS5 : (sI S4 o 3 ((12 : Int32) * (((2 : Int32) * (gI S4 o 5)) + (1 : Int32)))) = S5
    have hM : CS S5 := CS.of (by rw [← eS5]; exact shp_sI _ _ _ _) hM
    refine aw_aload_n hC 0 dX9_face_37 rfl rfl ?_
    refine aw_aload_n hC 1 dX9_face_38 rfl rfl ?_
    refine aw_aload_n hC 1 dX9_face_39 rfl rfl ?_
    refine aw_getP (b := (sc1 + 1)) hC hSt 0 (cs_lt sc1 7 0 hsc1 hM) (cs_k sc1 7 0 hsc1 hM) rfl (by decide) w_162 rfl (cs_p sc1 0 (sc1 + 1) (sc_pway hsc1) hM) dX9_face_40 ?_
    refine aw_iconst (v := 2) hC dX9_face_43 (by decide) ?_
    refine aw_iload hC 4 dX9_face_44 rfl ?_
    refine aw_iconst (v := 0) hC dX9_face_46 (by decide) ?_
    refine aw_cV3r hC hSt (t_X10_value G l hM _ _ _ _ (sc_way hsc1) (h0 x2 ex2 S3 eS3 S4 eS4 S5 eS5)) w_10 w_168 w_16 w_17 w_18 rfl rfl (by decide +kernel) ⟨Nat.le_of_ble_eq_true rfl, Nat.le_of_ble_eq_true rfl⟩ (cs_lt (sc1 + 1) 10 0 (sc_way hsc1) hM) (cs_k (sc1 + 1) 10 0 (sc_way hsc1) hM) rfl (Nat.le_of_ble_eq_true rfl) dX9_face_47 ⟨Nat.zero_le _, Nat.zero_le _⟩ ?_
    refine aw_iload_n hC 2 dX9_face_50 rfl rfl ?_
    refine aw_cV2r hC hSt (t_X7_distance G l hM _ _ _ hsc1) w_154 w_169 w_170 w_171 w_114 rfl rfl (by decide +kernel) ⟨Nat.le_of_ble_eq_true rfl, Nat.le_of_ble_eq_true rfl⟩ (cs_lt sc1 7 0 hsc1 hM) (cs_k sc1 7 0 hsc1 hM) rfl (Nat.le_of_ble_eq_true rfl) dX9_face_51 ⟨Nat.zero_le _, Nat.zero_le _⟩ ?_
    refine aw_putI hC hSt 6 (cs_lt o 9 0 ho hM) (cs_k o 9 0 ho hM) rfl (by decide) w_163 rfl rfl rfl rfl dX9_face_54 ?_
    generalize eS6 : (sI S5 o 6 (f_X7_distance S5 sc1 (f_X10_value S5 (sc1 + 1) (2 : Int32) a4 (0 : Int32)) a2)) = S6
    have hM : CS S6 := CS.of (by rw [← eS6]; exact shp_sI _ _ _ _) hM
    refine aw_aload_n hC 0 dX9_face_57 rfl rfl ?_
    refine aw_aload_n hC 1 dX9_face_58 rfl rfl ?_
    refine aw_getP (b := (sc1 + 1)) hC hSt 0 (cs_lt sc1 7 0 hsc1 hM) (cs_k sc1 7 0 hsc1 hM) rfl (by decide) w_162 rfl (cs_p sc1 0 (sc1 + 1) (sc_pway hsc1) hM) dX9_face_59 ?_
    refine aw_iconst (v := 2) hC dX9_face_62 (by decide) ?_
    refine aw_iload hC 4 dX9_face_63 rfl ?_
    refine aw_iconst (v := 1) hC dX9_face_65 (by decide) ?_
    refine aw_cV3r hC hSt (t_X10_value G l hM _ _ _ _ (sc_way hsc1) (h1 x2 ex2 S3 eS3 S4 eS4 S5 eS5 S6 eS6)) w_10 w_168 w_16 w_17 w_18 rfl rfl (by decide +kernel) ⟨Nat.le_of_ble_eq_true rfl, Nat.le_of_ble_eq_true rfl⟩ (cs_lt (sc1 + 1) 10 0 (sc_way hsc1) hM) (cs_k (sc1 + 1) 10 0 (sc_way hsc1) hM) rfl (Nat.le_of_ble_eq_true rfl) dX9_face_66 ⟨Nat.zero_le _, Nat.zero_le _⟩ ?_
    refine aw_putI hC hSt 7 (cs_lt o 9 0 ho hM) (cs_k o 9 0 ho hM) rfl (by decide) w_164 rfl rfl rfl rfl dX9_face_69 ?_
    generalize eS7 : (sI S6 o 7 (f_X10_value S6 (sc1 + 1) (2 : Int32) a4 (1 : Int32))) = S7
    have hM : CS S7 := CS.of (by rw [← eS7]; exact shp_sI _ _ _ _) hM
    refine aw_aload_n hC 0 dX9_face_72 rfl rfl ?_
    refine aw_aload_n hC 1 dX9_face_73 rfl rfl ?_
    refine aw_getP (b := (sc1 + 1)) hC hSt 0 (cs_lt sc1 7 0 hsc1 hM) (cs_k sc1 7 0 hsc1 hM) rfl (by decide) w_162 rfl (cs_p sc1 0 (sc1 + 1) (sc_pway hsc1) hM) dX9_face_74 ?_
    refine aw_iconst (v := 2) hC dX9_face_77 (by decide) ?_
    refine aw_iload hC 4 dX9_face_78 rfl ?_
    refine aw_iconst (v := 2) hC dX9_face_80 (by decide) ?_
    refine aw_cV3r hC hSt (t_X10_value G l hM _ _ _ _ (sc_way hsc1) (h2 x2 ex2 S3 eS3 S4 eS4 S5 eS5 S6 eS6 S7 eS7)) w_10 w_168 w_16 w_17 w_18 rfl rfl (by decide +kernel) ⟨Nat.le_of_ble_eq_true rfl, Nat.le_of_ble_eq_true rfl⟩ (cs_lt (sc1 + 1) 10 0 (sc_way hsc1) hM) (cs_k (sc1 + 1) 10 0 (sc_way hsc1) hM) rfl (Nat.le_of_ble_eq_true rfl) dX9_face_81 ⟨Nat.zero_le _, Nat.zero_le _⟩ ?_
    refine aw_putI hC hSt 8 (cs_lt o 9 0 ho hM) (cs_k o 9 0 ho hM) rfl (by decide) w_165 rfl rfl rfl rfl dX9_face_84 ?_
    generalize eS8 : (sI S7 o 8 (f_X10_value S7 (sc1 + 1) (2 : Int32) a4 (2 : Int32))) = S8
    have hM : CS S8 := CS.of (by rw [← eS8]; exact shp_sI _ _ _ _) hM
    refine aw_aload_n hC 0 dX9_face_87 rfl rfl ?_
    refine aw_aload_n hC 1 dX9_face_88 rfl rfl ?_
    refine aw_getP (b := (sc1 + 1)) hC hSt 0 (cs_lt sc1 7 0 hsc1 hM) (cs_k sc1 7 0 hsc1 hM) rfl (by decide) w_162 rfl (cs_p sc1 0 (sc1 + 1) (sc_pway hsc1) hM) dX9_face_89 ?_
    refine aw_iconst (v := 2) hC dX9_face_92 (by decide) ?_
    refine aw_iload hC 4 dX9_face_93 rfl ?_
    refine aw_iconst (v := 3) hC dX9_face_95 (by decide) ?_
    refine aw_cV3r hC hSt (t_X10_value G l hM _ _ _ _ (sc_way hsc1) (h3 x2 ex2 S3 eS3 S4 eS4 S5 eS5 S6 eS6 S7 eS7 S8 eS8)) w_10 w_168 w_16 w_17 w_18 rfl rfl (by decide +kernel) ⟨Nat.le_of_ble_eq_true rfl, Nat.le_of_ble_eq_true rfl⟩ (cs_lt (sc1 + 1) 10 0 (sc_way hsc1) hM) (cs_k (sc1 + 1) 10 0 (sc_way hsc1) hM) rfl (Nat.le_of_ble_eq_true rfl) dX9_face_96 ⟨Nat.zero_le _, Nat.zero_le _⟩ ?_
    refine aw_putI hC hSt 9 (cs_lt o 9 0 ho hM) (cs_k o 9 0 ho hM) rfl (by decide) w_166 rfl rfl rfl rfl dX9_face_99 ?_
    generalize eS9 : (sI S8 o 9 (f_X10_value S8 (sc1 + 1) (2 : Int32) a4 (3 : Int32))) = S9
    have hM : CS S9 := CS.of (by rw [← eS9]; exact shp_sI _ _ _ _) hM
    refine aw_aload_n hC 0 dX9_face_102 rfl rfl ?_
    refine aw_aload_n hC 1 dX9_face_103 rfl rfl ?_
    refine aw_getP (b := (sc1 + 1)) hC hSt 0 (cs_lt sc1 7 0 hsc1 hM) (cs_k sc1 7 0 hsc1 hM) rfl (by decide) w_162 rfl (cs_p sc1 0 (sc1 + 1) (sc_pway hsc1) hM) dX9_face_104 ?_
    refine aw_iconst (v := 2) hC dX9_face_107 (by decide) ?_
    refine aw_iload hC 4 dX9_face_108 rfl ?_
    refine aw_iconst (v := 4) hC dX9_face_110 (by decide) ?_
    refine aw_cV3r hC hSt (t_X10_value G l hM _ _ _ _ (sc_way hsc1) (h4 x2 ex2 S3 eS3 S4 eS4 S5 eS5 S6 eS6 S7 eS7 S8 eS8 S9 eS9)) w_10 w_168 w_16 w_17 w_18 rfl rfl (by decide +kernel) ⟨Nat.le_of_ble_eq_true rfl, Nat.le_of_ble_eq_true rfl⟩ (cs_lt (sc1 + 1) 10 0 (sc_way hsc1) hM) (cs_k (sc1 + 1) 10 0 (sc_way hsc1) hM) rfl (Nat.le_of_ble_eq_true rfl) dX9_face_111 ⟨Nat.zero_le _, Nat.zero_le _⟩ ?_
    refine aw_putI hC hSt 10 (cs_lt o 9 0 ho hM) (cs_k o 9 0 ho hM) rfl (by decide) w_167 rfl rfl rfl rfl dX9_face_114 ?_
    generalize eS10 : (sI S9 o 10 (f_X10_value S9 (sc1 + 1) (2 : Int32) a4 (4 : Int32))) = S10
    have hM : CS S10 := CS.of (by rw [← eS10]; exact shp_sI _ _ _ _) hM
    refine aw_vret hC dX9_face_117 (Nat.le_refl _) (Nat.le_refl _) ?_
    exact FP.qV ((bd_eq ex2).trans ((bd_eq eS3).trans ((bd_eq eS4).trans ((bd_eq eS5).trans ((bd_eq eS6).trans ((bd_eq eS7).trans ((bd_eq eS8).trans ((bd_eq eS9).trans ((bd_eq eS10).trans (rfl))))))))))
  · refine aw_icmp_ne hC 10 dX9_face_3 (by decide) (fun c1 => ?_) (fun c1 => ?_)
    · refine aw_iconst (v := 0) hC dX9_face_10 (by decide) ?_
      simp only [bd_def, if_neg c1] at Jc1 ⊢
      exact Jc1
    · refine aw_iconst (v := 1) hC dX9_face_6 (by decide) ?_
      refine aw_goto hC 11 dX9_face_7 (by decide) ?_
      simp only [bd_def, if_pos c1] at Jc1 ⊢
      exact Jc1
theorem q_X9_face (S : HSt) (o : Nat) (sc1 : Nat) (a2 : Int32) (a3 : Int32) (a4 : Int32) : shp (f_X9_face S o sc1 a2 a3 a4) = shp S := by
  unfold f_X9_face
  repeat' (first | with_reducible rfl | with_reducible refine (shp_sI _ _ _ _).trans ?_ | with_reducible refine (shp_sJ _ _ _ _).trans ?_ | with_reducible refine (shp_rI _ _ _).trans ?_ | with_reducible refine shi ?_ ?_ | with_reducible refine shb (fun _ _ => ?_) | (subst_vars; with_reducible rfl) | (subst_vars; with_reducible refine (shp_sI _ _ _ _).trans ?_) | (subst_vars; with_reducible refine (shp_sJ _ _ _ _).trans ?_) | (subst_vars; with_reducible refine (shp_rI _ _ _).trans ?_) | (subst_vars; with_reducible refine shi ?_ ?_) | (subst_vars; with_reducible refine shb (fun _ _ => ?_)))
theorem v_X9_face (S : HSt) (o : Nat) (sc1 : Nat) (a2 : Int32) (a3 : Int32) (a4 : Int32) : Fr [(o, 10), (o, 3), (o, 4), (o, 5), (o, 6), (o, 7), (o, 8), (o, 9)] S (f_X9_face S o sc1 a2 a3 a4) := by
  unfold f_X9_face
  repeat' (first | with_reducible exact Fr.refl _ _ | with_reducible refine Fr.l1 (fun _ _ => ?_) | with_reducible refine Fr.ite ?_ ?_ | with_reducible refine Fr.sE (by assumption) (by first | decide | simp only [List.mem_cons, List.not_mem_nil, or_false, true_or, or_true, eq_self_iff_true]) ?_ | with_reducible refine Fr.jE (by assumption) ?_ | with_reducible refine Fr.rE (by assumption) (by first | decide | simp only [List.mem_cons, List.not_mem_nil, or_false, true_or, or_true, eq_self_iff_true]) ?_ | with_reducible refine Fr.iE (by assumption) ?_ ?_)
theorem w_X9_face (S : HSt) (o : Nat) (sc1 : Nat) (a2 : Int32) (a3 : Int32) (a4 : Int32) (r : HSt) (e : f_X9_face S o sc1 a2 a3 a4 = r) : Fr [(o, 10), (o, 3), (o, 4), (o, 5), (o, 6), (o, 7), (o, 8), (o, 9)] S r := by
  rw [← e]
  exact v_X9_face S o sc1 a2 a3 a4
noncomputable def F_X9_flightBy (S : HSt) (o : Nat) (a1 : Int32) : Int32 × HSt := bd (((if (0 : Int32) < a1 then a1 else (0 : Int32)) - (gI S o 7))) fun x1 => if 0 < (gI S o 6) then (if 0 < x1 then (bd (((((gI S o 6) + x1) - (1 : Int32)) / x1)) fun x4 => bd ((if (30 : Int32) < x4 then (0 : Int32) else x4)) fun x6 => pr (x6) (S)) else (pr ((0 : Int32)) (S))) else (bd ((if x1 < 0 then (0 : Int32) else (1 : Int32))) fun x8 => pr (x8) (S))
noncomputable def f_X9_flightBy (S : HSt) (o : Nat) (a1 : Int32) : Int32 := (F_X9_flightBy S o a1).1
def p_X9_flightBy (S : HSt) (o : Nat) (a1 : Int32) : Prop := (∀ x1 : Int32, ((if (0 : Int32) < a1 then a1 else (0 : Int32)) - (gI S o 7)) = x1 → (0 < (gI S o 6)) → (0 < x1) → ¬ x1 = 0)
set_option maxRecDepth 100000 in
theorem t_X9_flightBy (G : GG) (l : Launch) {S : HSt} (hM : CS S) (o : Nat) (a1 : Int32) (ho : (o, 9, 0) ∈ cKT) (hp : p_X9_flightBy S o a1) : AM G l yX9_flightBy cX9_flightBy 4 (some .int) (rmD 1 0 0) 0 0 [.ref o, .int a1] S (FP (some (.int (f_X9_flightBy S o a1))) (S)) := by
  have h0 := hp
  unfold p_X9_flightBy at h0
  refine AM.mk (by decide) (Nat.le_of_ble_eq_true rfl) ?_
  intro p e s m below meth c hC hSt _
  refine aw_iconst (v := 0) hC dX9_flightBy_0 (by decide) ?_
  refine aw_iload_n hC 1 dX9_flightBy_1 rfl rfl ?_
  refine aw_max hC w_174 w_91 w_92 w_93 (by decide) (Nat.le_of_ble_eq_true rfl) (by decide) (by decide) dX9_flightBy_2 ?_
  refine aw_aload_n hC 0 dX9_flightBy_5 rfl rfl ?_
  refine aw_getI hC hSt 7 (cs_lt o 9 0 ho hM) (cs_k o 9 0 ho hM) rfl (by decide) w_164 rfl dX9_flightBy_6 ?_
  refine aw_isub hC dX9_flightBy_9 ?_
  refine aw_istore_n hC [(2, .int _), (0, .ref o), (1, .int _)] dX9_flightBy_10 rfl (by decide) rfl ?_
  generalize ex1 : ((if (0 : Int32) < a1 then a1 else (0 : Int32)) - (gI S o 7)) = x1
  refine aw_aload_n hC 1 dX9_flightBy_11 rfl rfl ?_
  refine aw_getI hC hSt 6 (cs_lt o 9 0 ho hM) (cs_k o 9 0 ho hM) rfl (by decide) w_163 rfl dX9_flightBy_12 ?_
  refine aw_if_gt hC 28 dX9_flightBy_15 (by decide) (fun c2 => ?_) (fun c2 => ?_)
  · refine aw_iload_n hC 0 dX9_flightBy_28 rfl rfl ?_
    refine aw_if_gt hC 34 dX9_flightBy_29 (by decide) (fun c3 => ?_) (fun c3 => ?_)
    · refine aw_aload_n hC 1 dX9_flightBy_34 rfl rfl ?_
      refine aw_getI hC hSt 6 (cs_lt o 9 0 ho hM) (cs_k o 9 0 ho hM) rfl (by decide) w_163 rfl dX9_flightBy_35 ?_
      refine aw_iload_n hC 0 dX9_flightBy_38 rfl rfl ?_
      refine aw_iadd hC dX9_flightBy_39 ?_
      refine aw_iconst (v := 1) hC dX9_flightBy_40 (by decide) ?_
      refine aw_isub hC dX9_flightBy_41 ?_
      refine aw_iload_n hC 0 dX9_flightBy_42 rfl rfl ?_
      refine aw_idiv hC dX9_flightBy_43 ((h0 x1 ex1 c2 c3)) ?_
      refine aw_istore_n hC [(3, .int _), (2, .int _), (0, .ref o), (1, .int _)] dX9_flightBy_44 rfl (by decide) rfl ?_
      generalize ex4 : ((((gI S o 6) + x1) - (1 : Int32)) / x1) = x4
      refine aw_iload_n hC 0 dX9_flightBy_45 rfl rfl ?_
      refine aw_bipush (v := 30) hC dX9_flightBy_46 (by decide) ?_
      refine aw_cut (S' := S) (pc' := 56) (lv' := [(3, .int x4), (2, .int x1), (0, .ref o), (1, .int a1)]) (st' := [.int (if (30 : Int32) < x4 then (0 : Int32) else x4)]) ?_ (fun Jc5 => ?_)
      · generalize ex6 : (if (30 : Int32) < x4 then (0 : Int32) else x4) = x6
        refine aw_iret hC dX9_flightBy_56 (Nat.le_refl _) (Nat.le_refl _) ?_
        exact FP.pI ((bd_eq ex1).trans ((if_pos c2).trans ((if_pos c3).trans ((bd_eq ex4).trans ((bd_eq ex6).trans (rfl))))))
      · refine aw_icmp_gt hC 55 dX9_flightBy_48 (by decide) (fun c5 => ?_) (fun c5 => ?_)
        · refine aw_iconst (v := 0) hC dX9_flightBy_55 (by decide) ?_
          simp only [bd_def, if_pos c5] at Jc5 ⊢
          exact Jc5
        · refine aw_iload_n hC 0 dX9_flightBy_51 rfl rfl ?_
          refine aw_goto hC 56 dX9_flightBy_52 (by decide) ?_
          simp only [bd_def, if_neg c5] at Jc5 ⊢
          exact Jc5
    · refine aw_iconst (v := 0) hC dX9_flightBy_32 (by decide) ?_
      refine aw_iret hC dX9_flightBy_33 (Nat.le_refl _) (Nat.le_refl _) ?_
      exact FP.pI ((bd_eq ex1).trans ((if_pos c2).trans ((if_neg c3).trans (rfl))))
  · refine aw_iload_n hC 0 dX9_flightBy_18 rfl rfl ?_
    refine aw_cut (S' := S) (pc' := 27) (lv' := [(2, .int x1), (0, .ref o), (1, .int a1)]) (st' := [.int (if x1 < 0 then (0 : Int32) else (1 : Int32))]) ?_ (fun Jc7 => ?_)
    · generalize ex8 : (if x1 < 0 then (0 : Int32) else (1 : Int32)) = x8
      refine aw_iret hC dX9_flightBy_27 (Nat.le_refl _) (Nat.le_refl _) ?_
      exact FP.pI ((bd_eq ex1).trans ((if_neg c2).trans ((bd_eq ex8).trans (rfl))))
    · refine aw_if_lt hC 26 dX9_flightBy_19 (by decide) (fun c7 => ?_) (fun c7 => ?_)
      · refine aw_iconst (v := 0) hC dX9_flightBy_26 (by decide) ?_
        simp only [bd_def, if_pos c7] at Jc7 ⊢
        exact Jc7
      · refine aw_iconst (v := 1) hC dX9_flightBy_22 (by decide) ?_
        refine aw_goto hC 27 dX9_flightBy_23 (by decide) ?_
        simp only [bd_def, if_neg c7] at Jc7 ⊢
        exact Jc7
noncomputable def F_X9_sizeFor (S : HSt) (o : Nat) (a1 : Int32) : Int32 × HSt := bd ((if (gI S o 4) = 0 then (((6 : Int32) * a1) + (gI S o 8)) else (((4 : Int32) * a1) + ((gI S o 8) / (2 : Int32))))) fun x2 => pr (x2) (S)
noncomputable def f_X9_sizeFor (S : HSt) (o : Nat) (a1 : Int32) : Int32 := (F_X9_sizeFor S o a1).1
set_option maxRecDepth 100000 in
theorem t_X9_sizeFor (G : GG) (l : Launch) {S : HSt} (hM : CS S) (o : Nat) (a1 : Int32) (ho : (o, 9, 0) ∈ cKT)  : AM G l yX9_sizeFor cX9_sizeFor 2 (some .int) (rmD 0 0 0) 0 0 [.ref o, .int a1] S (FP (some (.int (f_X9_sizeFor S o a1))) (S)) := by
  refine AM.mk (by decide) (Nat.le_of_ble_eq_true rfl) ?_
  intro p e s m below meth c hC hSt _
  refine aw_aload_n hC 0 dX9_sizeFor_0 rfl rfl ?_
  refine aw_getI hC hSt 4 (cs_lt o 9 0 ho hM) (cs_k o 9 0 ho hM) rfl (by decide) w_158 rfl dX9_sizeFor_1 ?_
  refine aw_cut (S' := S) (pc' := 29) (lv' := [(0, .ref o), (1, .int a1)]) (st' := [.int (if (gI S o 4) = 0 then (((6 : Int32) * a1) + (gI S o 8)) else (((4 : Int32) * a1) + ((gI S o 8) / (2 : Int32))))]) ?_ (fun Jc1 => ?_)
  · generalize ex2 : (if (gI S o 4) = 0 then (((6 : Int32) * a1) + (gI S o 8)) else (((4 : Int32) * a1) + ((gI S o 8) / (2 : Int32)))) = x2
    refine aw_iret hC dX9_sizeFor_29 (Nat.le_refl _) (Nat.le_refl _) ?_
    exact FP.pI ((bd_eq ex2).trans (rfl))
  · refine aw_if_eq hC 20 dX9_sizeFor_4 (by decide) (fun c1 => ?_) (fun c1 => ?_)
    · refine aw_bipush (v := 6) hC dX9_sizeFor_20 (by decide) ?_
      refine aw_iload_n hC 1 dX9_sizeFor_22 rfl rfl ?_
      refine aw_imul hC dX9_sizeFor_23 ?_
      refine aw_aload_n hC 0 dX9_sizeFor_24 rfl rfl ?_
      refine aw_getI hC hSt 8 (cs_lt o 9 0 ho hM) (cs_k o 9 0 ho hM) rfl (by decide) w_165 rfl dX9_sizeFor_25 ?_
      refine aw_iadd hC dX9_sizeFor_28 ?_
      simp only [bd_def, if_pos c1] at Jc1 ⊢
      exact Jc1
    · refine aw_iconst (v := 4) hC dX9_sizeFor_7 (by decide) ?_
      refine aw_iload_n hC 1 dX9_sizeFor_8 rfl rfl ?_
      refine aw_imul hC dX9_sizeFor_9 ?_
      refine aw_aload_n hC 0 dX9_sizeFor_10 rfl rfl ?_
      refine aw_getI hC hSt 8 (cs_lt o 9 0 ho hM) (cs_k o 9 0 ho hM) rfl (by decide) w_165 rfl dX9_sizeFor_11 ?_
      refine aw_iconst (v := 2) hC dX9_sizeFor_14 (by decide) ?_
      refine aw_idiv hC dX9_sizeFor_15 (by decide) ?_
      refine aw_iadd hC dX9_sizeFor_16 ?_
      refine aw_goto hC 29 dX9_sizeFor_17 (by decide) ?_
      simp only [bd_def, if_neg c1] at Jc1 ⊢
      exact Jc1
noncomputable def F_X9_ofTwelve (S : HSt) (o : Nat) (a1 : Int32) : Int32 × HSt := if (gI S o 4) = 0 then (pr (((12 : Int32) - (gI S o 10))) (S)) else (bd ((if (gI S o 9) ≤ 0 then (4 : Int32) else (if (a1 - a1 / (gI S o 9) * (gI S o 9)) = 0 then (12 : Int32) else (4 : Int32)))) fun x4 => pr (x4) (S))
noncomputable def f_X9_ofTwelve (S : HSt) (o : Nat) (a1 : Int32) : Int32 := (F_X9_ofTwelve S o a1).1
def p_X9_ofTwelve (S : HSt) (o : Nat) (a1 : Int32) : Prop := ((¬ (gI S o 4) = 0) → (¬ (gI S o 9) ≤ 0) → ¬ (gI S o 9) = 0)
set_option maxRecDepth 100000 in
theorem t_X9_ofTwelve (G : GG) (l : Launch) {S : HSt} (hM : CS S) (o : Nat) (a1 : Int32) (ho : (o, 9, 0) ∈ cKT) (hp : p_X9_ofTwelve S o a1) : AM G l yX9_ofTwelve cX9_ofTwelve 2 (some .int) (rmD 0 0 0) 0 0 [.ref o, .int a1] S (FP (some (.int (f_X9_ofTwelve S o a1))) (S)) := by
  have h0 := hp
  unfold p_X9_ofTwelve at h0
  refine AM.mk (by decide) (Nat.le_of_ble_eq_true rfl) ?_
  intro p e s m below meth c hC hSt _
  refine aw_aload_n hC 0 dX9_ofTwelve_0 rfl rfl ?_
  refine aw_getI hC hSt 4 (cs_lt o 9 0 ho hM) (cs_k o 9 0 ho hM) rfl (by decide) w_158 rfl dX9_ofTwelve_1 ?_
  refine aw_if_ne hC 15 dX9_ofTwelve_4 (by decide) (fun c1 => ?_) (fun c1 => ?_)
  · refine aw_aload_n hC 0 dX9_ofTwelve_15 rfl rfl ?_
    refine aw_getI hC hSt 9 (cs_lt o 9 0 ho hM) (cs_k o 9 0 ho hM) rfl (by decide) w_166 rfl dX9_ofTwelve_16 ?_
    refine aw_cut (S' := S) (pc' := 37) (lv' := [(0, .ref o), (1, .int a1)]) (st' := [.int (if (gI S o 9) ≤ 0 then (4 : Int32) else (if (a1 - a1 / (gI S o 9) * (gI S o 9)) = 0 then (12 : Int32) else (4 : Int32)))]) ?_ (fun Jc2 => ?_)
    · generalize ex4 : (if (gI S o 9) ≤ 0 then (4 : Int32) else (if (a1 - a1 / (gI S o 9) * (gI S o 9)) = 0 then (12 : Int32) else (4 : Int32))) = x4
      refine aw_iret hC dX9_ofTwelve_37 (Nat.le_refl _) (Nat.le_refl _) ?_
      exact FP.pI ((if_neg c1).trans ((bd_eq ex4).trans (rfl)))
    · refine aw_if_le hC 36 dX9_ofTwelve_19 (by decide) (fun c2 => ?_) (fun c2 => ?_)
      · refine aw_iconst (v := 4) hC dX9_ofTwelve_36 (by decide) ?_
        simp only [bd_def, if_pos c2] at Jc2 ⊢
        exact Jc2
      · refine aw_iload_n hC 1 dX9_ofTwelve_22 rfl rfl ?_
        refine aw_aload_n hC 0 dX9_ofTwelve_23 rfl rfl ?_
        refine aw_getI hC hSt 9 (cs_lt o 9 0 ho hM) (cs_k o 9 0 ho hM) rfl (by decide) w_166 rfl dX9_ofTwelve_24 ?_
        refine aw_irem hC dX9_ofTwelve_27 ((h0 c1 c2)) ?_
        refine aw_if_ne hC 36 dX9_ofTwelve_28 (by decide) (fun c3 => ?_) (fun c3 => ?_)
        · refine aw_iconst (v := 4) hC dX9_ofTwelve_36 (by decide) ?_
          simp only [bd_def, if_neg c2, if_neg c3] at Jc2 ⊢
          exact Jc2
        · refine aw_bipush (v := 12) hC dX9_ofTwelve_31 (by decide) ?_
          refine aw_goto hC 37 dX9_ofTwelve_33 (by decide) ?_
          simp only [bd_def, if_neg c2, if_pos c3] at Jc2 ⊢
          exact Jc2
  · refine aw_bipush (v := 12) hC dX9_ofTwelve_7 (by decide) ?_
    refine aw_aload_n hC 0 dX9_ofTwelve_9 rfl rfl ?_
    refine aw_getI hC hSt 10 (cs_lt o 9 0 ho hM) (cs_k o 9 0 ho hM) rfl (by decide) w_167 rfl dX9_ofTwelve_10 ?_
    refine aw_isub hC dX9_ofTwelve_13 ?_
    refine aw_iret hC dX9_ofTwelve_14 (Nat.le_refl _) (Nat.le_refl _) ?_
    exact FP.pI ((if_pos c1).trans (rfl))
noncomputable def L_X9_sumAt_9 (o : Nat) : Nat → HSt → Int32 → Int32 → Int32 → Int32 → Int32 × Int32 × Int32 × Int32
  | 0, S, v1, v2, v3, v4 => (v1, v2, v3, v4)
  | n + 1, S, v1, v2, v3, v4 =>
    if (gI S o 5) < v4 then ((pr (v1) (pr (v2) (pr (v3) (v4))))) else (bd ((f_X9_flightBy S o (v2 + v4))) fun x1003 => bd ((if x1003 ≤ 0 then v3 else (if v1 < (f_X9_sizeFor S o x1003) then v3 else (bd ((v3 + (f_X9_ofTwelve S o x1003))) fun x1006 => x1006)))) fun x1007 => L_X9_sumAt_9 o n S v1 v2 x1007 (v4 + (1 : Int32)))
def T_X9_sumAt_9 (o : Nat) : Nat → HSt → Int32 → Int32 → Int32 → Int32 → Prop
  | 0, _, _, _, _, _ => False
  | n + 1, S, v1, v2, v3, v4 => ((¬ (gI S o 5) < v4) → p_X9_flightBy S o (v2 + v4)) ∧ ((¬ (gI S o 5) < v4) → ∀ x1003 : Int32, (f_X9_flightBy S o (v2 + v4)) = x1003 → (¬ x1003 ≤ 0) → (¬ v1 < (f_X9_sizeFor S o x1003)) → p_X9_ofTwelve S o x1003) ∧ ((¬ (gI S o 5) < v4) → ∀ x1003 : Int32, (f_X9_flightBy S o (v2 + v4)) = x1003 → ∀ x1007 : Int32, (if x1003 ≤ 0 then v3 else (if v1 < (f_X9_sizeFor S o x1003) then v3 else (bd ((v3 + (f_X9_ofTwelve S o x1003))) fun x1006 => x1006))) = x1007 → T_X9_sumAt_9 o n S v1 v2 x1007 (v4 + (1 : Int32)))
set_option maxRecDepth 100000 in
theorem l_X9_sumAt_9 {p : Program} {l : Launch} {e : Env} {s : State} {m : MethodId} {args : Array Value} {below : List Frame} {meth : Method} {c : Code} {G : GG} {Q : State → Prop} (hC : ACx p s m args meth c cX9_sumAt RX9 6 (some .int)) (hSt : St G s) {o : Nat} (ho : (o, 9, 0) ∈ cKT) : ∀ (n : Nat) (S : HSt) (v1 : Int32) (v2 : Int32) (v3 : Int32) (v4 : Int32), CS S → T_X9_sumAt_9 o n S v1 v2 v3 v4 → AW p l e (rmD 2 0 0) s m args below meth c G 6 Q S 0 0 58 [(0, .ref o), (1, .int (L_X9_sumAt_9 o n S v1 v2 v3 v4).1), (2, .int (L_X9_sumAt_9 o n S v1 v2 v3 v4).2.1), (3, .int (L_X9_sumAt_9 o n S v1 v2 v3 v4).2.2.1), (4, .int (L_X9_sumAt_9 o n S v1 v2 v3 v4).2.2.2)] [] → AW p l e (rmD 2 0 0) s m args below meth c G 6 Q S 0 0 9 [(0, .ref o), (1, .int v1), (2, .int v2), (3, .int v3), (4, .int v4)] [] := by
  intro n
  induction n with
  | zero => intro S v1 v2 v3 v4 _ hT; exact hT.elim
  | succ n ih =>
    intro S v1 v2 v3 v4 hM hT hk
    unfold T_X9_sumAt_9 at hT
    obtain ⟨h0, h1, h2⟩ := hT
    refine aw_iload hC 4 dX9_sumAt_9 rfl ?_
    refine aw_aload_n hC 0 dX9_sumAt_11 rfl rfl ?_
    refine aw_getI hC hSt 5 (cs_lt o 9 0 ho hM) (cs_k o 9 0 ho hM) rfl (by decide) w_160 rfl dX9_sumAt_12 ?_
    refine aw_icmp_gt hC 58 dX9_sumAt_15 (by decide) (fun c1002 => ?_) (fun c1002 => ?_)
    · refine aw_sub [0, 1, 2, 3, 4] rfl ?_
      have E : L_X9_sumAt_9 o (n + 1) S v1 v2 v3 v4 = _ := (if_pos c1002).trans (rfl)
      rw [E] at hk
      exact hk
    · refine aw_aload_n hC 0 dX9_sumAt_18 rfl rfl ?_
      refine aw_iload_n hC 2 dX9_sumAt_19 rfl rfl ?_
      refine aw_iload hC 4 dX9_sumAt_20 rfl ?_
      refine aw_iadd hC dX9_sumAt_22 ?_
      refine aw_cV1r hC hSt (t_X9_flightBy G l hM _ _ ho (h0 c1002)) w_173 w_178 w_179 w_180 w_140 rfl rfl (by decide +kernel) ⟨Nat.le_of_ble_eq_true rfl, Nat.le_of_ble_eq_true rfl⟩ (cs_lt o 9 0 ho hM) (cs_k o 9 0 ho hM) rfl (Nat.le_of_ble_eq_true rfl) dX9_sumAt_23 ⟨Nat.zero_le _, Nat.zero_le _⟩ ?_
      refine aw_istore hC [(5, .int _), (0, .ref o), (1, .int _), (2, .int _), (3, .int _), (4, .int _)] dX9_sumAt_26 (by decide) rfl ?_
      generalize ex1003 : (f_X9_flightBy S o (v2 + v4)) = x1003
      refine aw_iload hC 0 dX9_sumAt_28 rfl ?_
      refine aw_cut (S' := S) (pc' := 52) (lv' := [(5, .int x1003), (0, .ref o), (1, .int v1), (2, .int v2), (3, .int (if x1003 ≤ 0 then v3 else (if v1 < (f_X9_sizeFor S o x1003) then v3 else (bd ((v3 + (f_X9_ofTwelve S o x1003))) fun x1006 => x1006)))), (4, .int v4)]) (st' := []) ?_ (fun Jc1004 => ?_)
      · generalize ex1007 : (if x1003 ≤ 0 then v3 else (if v1 < (f_X9_sizeFor S o x1003) then v3 else (bd ((v3 + (f_X9_ofTwelve S o x1003))) fun x1006 => x1006))) = x1007
        refine aw_iinc (v := (v4 + (1 : Int32))) hC 5 [(4, .int _), (5, .int _), (0, .ref o), (1, .int _), (2, .int _), (3, .int _)] dX9_sumAt_52 rfl rfl (by decide) rfl ?_
        refine aw_goto hC 9 dX9_sumAt_55 (by decide) ?_
        refine aw_sub [2, 3, 4, 5, 0] rfl ?_
        have hTn := (h2 c1002 x1003 ex1003 x1007 ex1007)
        have hMn : CS S := hM
        have E : L_X9_sumAt_9 o (n + 1) S v1 v2 v3 v4 = _ := (if_neg c1002).trans ((bd_eq ex1003).trans ((bd_eq ex1007).trans (rfl)))
        rw [E] at hk
        exact ih _ _ _ _ _ hMn hTn hk
      · refine aw_if_le hC 52 dX9_sumAt_30 (by decide) (fun c1004 => ?_) (fun c1004 => ?_)
        · simp only [bd_def, if_pos c1004] at Jc1004 ⊢
          exact Jc1004
        · refine aw_iload_n hC 2 dX9_sumAt_33 rfl rfl ?_
          refine aw_aload_n hC 1 dX9_sumAt_34 rfl rfl ?_
          refine aw_iload hC 0 dX9_sumAt_35 rfl ?_
          refine aw_cV1r hC hSt (t_X9_sizeFor G l hM _ _ ho) w_175 w_181 w_182 w_183 w_140 rfl rfl (by decide +kernel) ⟨Nat.le_of_ble_eq_true rfl, Nat.le_of_ble_eq_true rfl⟩ (cs_lt o 9 0 ho hM) (cs_k o 9 0 ho hM) rfl (Nat.le_of_ble_eq_true rfl) dX9_sumAt_37 ⟨Nat.zero_le _, Nat.zero_le _⟩ ?_
          refine aw_icmp_lt hC 52 dX9_sumAt_40 (by decide) (fun c1005 => ?_) (fun c1005 => ?_)
          · simp only [bd_def, if_neg c1004, if_pos c1005] at Jc1004 ⊢
            exact Jc1004
          · refine aw_iload_n hC 4 dX9_sumAt_43 rfl rfl ?_
            refine aw_aload_n hC 1 dX9_sumAt_44 rfl rfl ?_
            refine aw_iload hC 0 dX9_sumAt_45 rfl ?_
            refine aw_cV1r hC hSt (t_X9_ofTwelve G l hM _ _ ho (h1 c1002 x1003 ex1003 c1004 c1005)) w_176 w_184 w_185 w_186 w_140 rfl rfl (by decide +kernel) ⟨Nat.le_of_ble_eq_true rfl, Nat.le_of_ble_eq_true rfl⟩ (cs_lt o 9 0 ho hM) (cs_k o 9 0 ho hM) rfl (Nat.le_of_ble_eq_true rfl) dX9_sumAt_47 ⟨Nat.zero_le _, Nat.zero_le _⟩ ?_
            refine aw_iadd hC dX9_sumAt_50 ?_
            refine aw_istore_n hC [(3, .int _), (5, .int _), (0, .ref o), (1, .int _), (2, .int _), (4, .int _)] dX9_sumAt_51 rfl (by decide) rfl ?_
            generalize ex1006 : (v3 + (f_X9_ofTwelve S o x1003)) = x1006
            refine aw_sub [1, 2, 3, 4, 0, 5] rfl ?_
            subst ex1006
            simp only [bd_def, if_neg c1004, if_neg c1005] at Jc1004 ⊢
            exact Jc1004
noncomputable def F_X9_sumAt (S : HSt) (o : Nat) (a1 : Int32) (a2 : Int32) : Int32 × HSt := bd ((-(gI S o 5))) fun x1 => bd (L_X9_sumAt_9 o 1000 S a1 a2 (0 : Int32) x1) fun r2 => pr (r2.2.2.1) (S)
noncomputable def f_X9_sumAt (S : HSt) (o : Nat) (a1 : Int32) (a2 : Int32) : Int32 := (F_X9_sumAt S o a1 a2).1
def p_X9_sumAt (S : HSt) (o : Nat) (a1 : Int32) (a2 : Int32) : Prop := (∀ x1 : Int32, (-(gI S o 5)) = x1 → T_X9_sumAt_9 o 1000 S a1 a2 (0 : Int32) x1)
set_option maxRecDepth 100000 in
theorem t_X9_sumAt (G : GG) (l : Launch) {S : HSt} (hM : CS S) (o : Nat) (a1 : Int32) (a2 : Int32) (ho : (o, 9, 0) ∈ cKT) (hp : p_X9_sumAt S o a1 a2) : AM G l yX9_sumAt cX9_sumAt 6 (some .int) (rmD 2 0 0) 0 0 [.ref o, .int a1, .int a2] S (FP (some (.int (f_X9_sumAt S o a1 a2))) (S)) := by
  have h0 := hp
  unfold p_X9_sumAt at h0
  refine AM.mk (by decide) (Nat.le_of_ble_eq_true rfl) ?_
  intro p e s m below meth c hC hSt _
  refine aw_iconst (v := 0) hC dX9_sumAt_0 (by decide) ?_
  refine aw_istore_n hC [(3, .int _), (0, .ref o), (1, .int _), (2, .int _)] dX9_sumAt_1 rfl (by decide) rfl ?_
  refine aw_aload_n hC 1 dX9_sumAt_2 rfl rfl ?_
  refine aw_getI hC hSt 5 (cs_lt o 9 0 ho hM) (cs_k o 9 0 ho hM) rfl (by decide) w_160 rfl dX9_sumAt_3 ?_
  refine aw_ineg hC dX9_sumAt_6 ?_
  refine aw_istore hC [(4, .int _), (3, .int _), (0, .ref o), (1, .int _), (2, .int _)] dX9_sumAt_7 (by decide) rfl ?_
  generalize ex1 : (-(gI S o 5)) = x1
  refine aw_sub [2, 3, 4, 1, 0] rfl ?_
  refine l_X9_sumAt_9 hC hSt ho 1000 _ _ _ _ _ hM (h0 x1 ex1) ?_
  generalize er2 : L_X9_sumAt_9 o 1000 S a1 a2 (0 : Int32) x1 = r2
  refine aw_iload_n hC 3 dX9_sumAt_58 rfl rfl ?_
  refine aw_iret hC dX9_sumAt_59 (Nat.le_refl _) (Nat.le_refl _) ?_
  exact FP.pI ((bd_eq ex1).trans ((bd_eq er2).trans (rfl)))
noncomputable def F_X9_isLikely (S : HSt) (o : Nat) : Int32 × HSt := bd ((if ((2 : Int32) * (gI S o 2)) < (gI S o 3) then (0 : Int32) else (1 : Int32))) fun x2 => pr (x2) (S)
noncomputable def f_X9_isLikely (S : HSt) (o : Nat) : Int32 := (F_X9_isLikely S o).1
set_option maxRecDepth 100000 in
theorem t_X9_isLikely (G : GG) (l : Launch) {S : HSt} (hM : CS S) (o : Nat) (ho : (o, 9, 0) ∈ cKT)  : AM G l yX9_isLikely cX9_isLikely 1 (some .boolean) (rmD 0 0 0) 0 0 [.ref o] S (FP (some (.int (f_X9_isLikely S o))) (S)) := by
  refine AM.mk (by decide) (Nat.le_of_ble_eq_true rfl) ?_
  intro p e s m below meth c hC hSt _
  refine aw_iconst (v := 2) hC dX9_isLikely_0 (by decide) ?_
  refine aw_aload_n hC 0 dX9_isLikely_1 rfl rfl ?_
  refine aw_getI hC hSt 2 (cs_lt o 9 0 ho hM) (cs_k o 9 0 ho hM) rfl (by decide) w_505 rfl dX9_isLikely_2 ?_
  refine aw_imul hC dX9_isLikely_5 ?_
  refine aw_aload_n hC 0 dX9_isLikely_6 rfl rfl ?_
  refine aw_getI hC hSt 3 (cs_lt o 9 0 ho hM) (cs_k o 9 0 ho hM) rfl (by decide) w_161 rfl dX9_isLikely_7 ?_
  refine aw_cut (S' := S) (pc' := 18) (lv' := [(0, .ref o)]) (st' := [.int (if ((2 : Int32) * (gI S o 2)) < (gI S o 3) then (0 : Int32) else (1 : Int32))]) ?_ (fun Jc1 => ?_)
  · generalize ex2 : (if ((2 : Int32) * (gI S o 2)) < (gI S o 3) then (0 : Int32) else (1 : Int32)) = x2
    refine aw_zret hC dX9_isLikely_18 (Nat.le_refl _) (Nat.le_refl _) (Bz.n (ex2 ▸ (Bz.ite (Or.inl rfl) (Or.inr rfl)))) ?_
    exact FP.pI ((bd_eq ex2).trans (rfl))
  · refine aw_icmp_lt hC 17 dX9_isLikely_10 (by decide) (fun c1 => ?_) (fun c1 => ?_)
    · refine aw_iconst (v := 0) hC dX9_isLikely_17 (by decide) ?_
      simp only [bd_def, if_pos c1] at Jc1 ⊢
      exact Jc1
    · refine aw_iconst (v := 1) hC dX9_isLikely_13 (by decide) ?_
      refine aw_goto hC 18 dX9_isLikely_14 (by decide) ?_
      simp only [bd_def, if_neg c1] at Jc1 ⊢
      exact Jc1
theorem b_X9_isLikely (S : HSt) (o : Nat) : Bz (f_X9_isLikely S o) := by
  unfold f_X9_isLikely F_X9_isLikely
  (try dsimp only [bd])
  (repeat' split) <;> first | exact Or.inl rfl | exact Or.inr rfl
noncomputable def L_X9_likelyFrom_21 (o : Nat) (sc1 : Nat) : Nat → HSt → Int32 → Int32 → Int32 → Int32 → Int32 → Int32 → Int32 × Int32 × Int32 × Int32 × Int32 × Int32
  | 0, S, v2, v3, v4, v5, v6, v7 => (v2, v3, v4, v5, v6, v7)
  | n + 1, S, v2, v3, v4, v5, v6, v7 =>
    if (gI S o 5) < v7 then ((pr (v2) (pr (v3) (pr (v4) (pr (v5) (pr (v6) (v7))))))) else (bd ((f_X9_flightBy S o (v3 + v7))) fun x1004 => bd ((if x1004 ≤ 0 then v6 else (if v6 ≤ (f_X9_sizeFor S o x1004) then v6 else (if ((2 : Int32) * (f_X9_sumAt S o (f_X9_sizeFor S o x1004) v3)) < (gI S o 3) then v6 else (bd ((f_X9_sizeFor S o x1004)) fun x1008 => x1008))))) fun x1009 => L_X9_likelyFrom_21 o sc1 n S v2 v3 v4 v5 x1009 (v7 + (1 : Int32)))
def T_X9_likelyFrom_21 (o : Nat) (sc1 : Nat) : Nat → HSt → Int32 → Int32 → Int32 → Int32 → Int32 → Int32 → Prop
  | 0, _, _, _, _, _, _, _ => False
  | n + 1, S, v2, v3, v4, v5, v6, v7 => ((¬ (gI S o 5) < v7) → p_X9_flightBy S o (v3 + v7)) ∧ ((¬ (gI S o 5) < v7) → ∀ x1004 : Int32, (f_X9_flightBy S o (v3 + v7)) = x1004 → (¬ x1004 ≤ 0) → (¬ v6 ≤ (f_X9_sizeFor S o x1004)) → p_X9_sumAt S o (f_X9_sizeFor S o x1004) v3) ∧ ((¬ (gI S o 5) < v7) → ∀ x1004 : Int32, (f_X9_flightBy S o (v3 + v7)) = x1004 → ∀ x1009 : Int32, (if x1004 ≤ 0 then v6 else (if v6 ≤ (f_X9_sizeFor S o x1004) then v6 else (if ((2 : Int32) * (f_X9_sumAt S o (f_X9_sizeFor S o x1004) v3)) < (gI S o 3) then v6 else (bd ((f_X9_sizeFor S o x1004)) fun x1008 => x1008)))) = x1009 → T_X9_likelyFrom_21 o sc1 n S v2 v3 v4 v5 x1009 (v7 + (1 : Int32)))
set_option maxRecDepth 100000 in
theorem l_X9_likelyFrom_21 {p : Program} {l : Launch} {e : Env} {s : State} {m : MethodId} {args : Array Value} {below : List Frame} {meth : Method} {c : Code} {G : GG} {Q : State → Prop} (hC : ACx p s m args meth c cX9_likelyFrom RX9 9 (some .int)) (hSt : St G s) {o : Nat} {sc1 : Nat} (ho : (o, 9, 0) ∈ cKT) (hsc1 : (sc1, 7, 0) ∈ cKT) : ∀ (n : Nat) (S : HSt) (v2 : Int32) (v3 : Int32) (v4 : Int32) (v5 : Int32) (v6 : Int32) (v7 : Int32), CS S → T_X9_likelyFrom_21 o sc1 n S v2 v3 v4 v5 v6 v7 → AW p l e (rmD 3 0 0) s m args below meth c G 9 Q S 0 0 90 [(0, .ref o), (1, .ref sc1), (2, .int (L_X9_likelyFrom_21 o sc1 n S v2 v3 v4 v5 v6 v7).1), (3, .int (L_X9_likelyFrom_21 o sc1 n S v2 v3 v4 v5 v6 v7).2.1), (4, .int (L_X9_likelyFrom_21 o sc1 n S v2 v3 v4 v5 v6 v7).2.2.1), (5, .int (L_X9_likelyFrom_21 o sc1 n S v2 v3 v4 v5 v6 v7).2.2.2.1), (6, .int (L_X9_likelyFrom_21 o sc1 n S v2 v3 v4 v5 v6 v7).2.2.2.2.1), (7, .int (L_X9_likelyFrom_21 o sc1 n S v2 v3 v4 v5 v6 v7).2.2.2.2.2)] [] → AW p l e (rmD 3 0 0) s m args below meth c G 9 Q S 0 0 21 [(0, .ref o), (1, .ref sc1), (2, .int v2), (3, .int v3), (4, .int v4), (5, .int v5), (6, .int v6), (7, .int v7)] [] := by
  intro n
  induction n with
  | zero => intro S v2 v3 v4 v5 v6 v7 _ hT; exact hT.elim
  | succ n ih =>
    intro S v2 v3 v4 v5 v6 v7 hM hT hk
    unfold T_X9_likelyFrom_21 at hT
    obtain ⟨h0, h1, h2⟩ := hT
    refine aw_iload hC 7 dX9_likelyFrom_21 rfl ?_
    refine aw_aload_n hC 0 dX9_likelyFrom_23 rfl rfl ?_
    refine aw_getI hC hSt 5 (cs_lt o 9 0 ho hM) (cs_k o 9 0 ho hM) rfl (by decide) w_160 rfl dX9_likelyFrom_24 ?_
    refine aw_icmp_gt hC 90 dX9_likelyFrom_27 (by decide) (fun c1003 => ?_) (fun c1003 => ?_)
    · refine aw_sub [0, 1, 2, 3, 4, 5, 6, 7] rfl ?_
      have E : L_X9_likelyFrom_21 o sc1 (n + 1) S v2 v3 v4 v5 v6 v7 = _ := (if_pos c1003).trans (rfl)
      rw [E] at hk
      exact hk
    · refine aw_aload_n hC 0 dX9_likelyFrom_30 rfl rfl ?_
      refine aw_iload_n hC 3 dX9_likelyFrom_31 rfl rfl ?_
      refine aw_iload hC 7 dX9_likelyFrom_32 rfl ?_
      refine aw_iadd hC dX9_likelyFrom_34 ?_
      refine aw_cV1r hC hSt (t_X9_flightBy G l hM _ _ ho (h0 c1003)) w_173 w_178 w_179 w_180 w_140 rfl rfl (by decide +kernel) ⟨Nat.le_of_ble_eq_true rfl, Nat.le_of_ble_eq_true rfl⟩ (cs_lt o 9 0 ho hM) (cs_k o 9 0 ho hM) rfl (Nat.le_of_ble_eq_true rfl) dX9_likelyFrom_35 ⟨Nat.zero_le _, Nat.zero_le _⟩ ?_
      refine aw_istore hC [(8, .int _), (0, .ref o), (1, .ref sc1), (2, .int _), (3, .int _), (4, .int _), (5, .int _), (6, .int _), (7, .int _)] dX9_likelyFrom_38 (by decide) rfl ?_
      generalize ex1004 : (f_X9_flightBy S o (v3 + v7)) = x1004
      refine aw_iload hC 0 dX9_likelyFrom_40 rfl ?_
      refine aw_cut (S' := S) (pc' := 84) (lv' := [(8, .int x1004), (0, .ref o), (1, .ref sc1), (2, .int v2), (3, .int v3), (4, .int v4), (5, .int v5), (6, .int (if x1004 ≤ 0 then v6 else (if v6 ≤ (f_X9_sizeFor S o x1004) then v6 else (if ((2 : Int32) * (f_X9_sumAt S o (f_X9_sizeFor S o x1004) v3)) < (gI S o 3) then v6 else (bd ((f_X9_sizeFor S o x1004)) fun x1008 => x1008))))), (7, .int v7)]) (st' := []) ?_ (fun Jc1005 => ?_)
      · generalize ex1009 : (if x1004 ≤ 0 then v6 else (if v6 ≤ (f_X9_sizeFor S o x1004) then v6 else (if ((2 : Int32) * (f_X9_sumAt S o (f_X9_sizeFor S o x1004) v3)) < (gI S o 3) then v6 else (bd ((f_X9_sizeFor S o x1004)) fun x1008 => x1008)))) = x1009
        refine aw_iinc (v := (v7 + (1 : Int32))) hC 8 [(7, .int _), (8, .int _), (0, .ref o), (1, .ref sc1), (2, .int _), (3, .int _), (4, .int _), (5, .int _), (6, .int _)] dX9_likelyFrom_84 rfl rfl (by decide) rfl ?_
        refine aw_goto hC 21 dX9_likelyFrom_87 (by decide) ?_
        refine aw_sub [2, 3, 4, 5, 6, 7, 8, 0] rfl ?_
        have hTn := (h2 c1003 x1004 ex1004 x1009 ex1009)
        have hMn : CS S := hM
        have E : L_X9_likelyFrom_21 o sc1 (n + 1) S v2 v3 v4 v5 v6 v7 = _ := (if_neg c1003).trans ((bd_eq ex1004).trans ((bd_eq ex1009).trans (rfl)))
        rw [E] at hk
        exact ih _ _ _ _ _ _ _ hMn hTn hk
      · refine aw_if_le hC 84 dX9_likelyFrom_42 (by decide) (fun c1005 => ?_) (fun c1005 => ?_)
        · simp only [bd_def, if_pos c1005] at Jc1005 ⊢
          exact Jc1005
        · refine aw_aload_n hC 1 dX9_likelyFrom_45 rfl rfl ?_
          refine aw_iload hC 0 dX9_likelyFrom_46 rfl ?_
          refine aw_cV1r hC hSt (t_X9_sizeFor G l hM _ _ ho) w_175 w_181 w_182 w_183 w_140 rfl rfl (by decide +kernel) ⟨Nat.le_of_ble_eq_true rfl, Nat.le_of_ble_eq_true rfl⟩ (cs_lt o 9 0 ho hM) (cs_k o 9 0 ho hM) rfl (Nat.le_of_ble_eq_true rfl) dX9_likelyFrom_48 ⟨Nat.zero_le _, Nat.zero_le _⟩ ?_
          refine aw_iload hC 7 dX9_likelyFrom_51 rfl ?_
          refine aw_icmp_ge hC 84 dX9_likelyFrom_53 (by decide) (fun c1006 => ?_) (fun c1006 => ?_)
          · simp only [bd_def, if_neg c1005, if_pos c1006] at Jc1005 ⊢
            exact Jc1005
          · refine aw_iconst (v := 2) hC dX9_likelyFrom_56 (by decide) ?_
            refine aw_aload_n hC 1 dX9_likelyFrom_57 rfl rfl ?_
            refine aw_aload_n hC 1 dX9_likelyFrom_58 rfl rfl ?_
            refine aw_iload hC 0 dX9_likelyFrom_59 rfl ?_
            refine aw_cV1r hC hSt (t_X9_sizeFor G l hM _ _ ho) w_175 w_181 w_182 w_183 w_140 rfl rfl (by decide +kernel) ⟨Nat.le_of_ble_eq_true rfl, Nat.le_of_ble_eq_true rfl⟩ (cs_lt o 9 0 ho hM) (cs_k o 9 0 ho hM) rfl (Nat.le_of_ble_eq_true rfl) dX9_likelyFrom_61 ⟨Nat.zero_le _, Nat.zero_le _⟩ ?_
            refine aw_iload_n hC 4 dX9_likelyFrom_64 rfl rfl ?_
            refine aw_cV2r hC hSt (t_X9_sumAt G l hM _ _ _ ho (h1 c1003 x1004 ex1004 c1005 c1006)) w_177 w_191 w_192 w_193 w_140 rfl rfl (by decide +kernel) ⟨Nat.le_of_ble_eq_true rfl, Nat.le_of_ble_eq_true rfl⟩ (cs_lt o 9 0 ho hM) (cs_k o 9 0 ho hM) rfl (Nat.le_of_ble_eq_true rfl) dX9_likelyFrom_65 ⟨Nat.zero_le _, Nat.zero_le _⟩ ?_
            refine aw_imul hC dX9_likelyFrom_68 ?_
            refine aw_aload_n hC 1 dX9_likelyFrom_69 rfl rfl ?_
            refine aw_getI hC hSt 3 (cs_lt o 9 0 ho hM) (cs_k o 9 0 ho hM) rfl (by decide) w_161 rfl dX9_likelyFrom_70 ?_
            refine aw_icmp_lt hC 84 dX9_likelyFrom_73 (by decide) (fun c1007 => ?_) (fun c1007 => ?_)
            · simp only [bd_def, if_neg c1005, if_neg c1006, if_pos c1007] at Jc1005 ⊢
              exact Jc1005
            · refine aw_aload_n hC 1 dX9_likelyFrom_76 rfl rfl ?_
              refine aw_iload hC 0 dX9_likelyFrom_77 rfl ?_
              refine aw_cV1r hC hSt (t_X9_sizeFor G l hM _ _ ho) w_175 w_181 w_182 w_183 w_140 rfl rfl (by decide +kernel) ⟨Nat.le_of_ble_eq_true rfl, Nat.le_of_ble_eq_true rfl⟩ (cs_lt o 9 0 ho hM) (cs_k o 9 0 ho hM) rfl (Nat.le_of_ble_eq_true rfl) dX9_likelyFrom_79 ⟨Nat.zero_le _, Nat.zero_le _⟩ ?_
              refine aw_istore hC [(6, .int _), (8, .int _), (0, .ref o), (1, .ref sc1), (2, .int _), (3, .int _), (4, .int _), (5, .int _), (7, .int _)] dX9_likelyFrom_82 (by decide) rfl ?_
              generalize ex1008 : (f_X9_sizeFor S o x1004) = x1008
              refine aw_sub [1, 2, 3, 4, 5, 6, 7, 0, 8] rfl ?_
              subst ex1008
              simp only [bd_def, if_neg c1005, if_neg c1006, if_neg c1007] at Jc1005 ⊢
              exact Jc1005
noncomputable def f_X9_likelyFrom (S : HSt) (o : Nat) (sc1 : Nat) (a2 : Int32) (a3 : Int32) (a4 : Int32) (a5 : Int32) : Int32 × HSt := bd (f_X9_face S o sc1 a2 a4 a5) fun r1 => bd ((-(gI r1 o 5))) fun x2 => bd (L_X9_likelyFrom_21 o sc1 1000 r1 a2 a3 a4 a5 (1000000 : Int32) x2) fun r3 => pr (r3.2.2.2.2.1) (r1)
def p_X9_likelyFrom (S : HSt) (o : Nat) (sc1 : Nat) (a2 : Int32) (a3 : Int32) (a4 : Int32) (a5 : Int32) : Prop := (p_X9_face S o sc1 a2 a4 a5) ∧ (∀ r1, f_X9_face S o sc1 a2 a4 a5 = r1 → ∀ x2 : Int32, (-(gI r1 o 5)) = x2 → T_X9_likelyFrom_21 o sc1 1000 r1 a2 a3 a4 a5 (1000000 : Int32) x2)
set_option maxRecDepth 100000 in
theorem t_X9_likelyFrom (G : GG) (l : Launch) {S : HSt} (hM : CS S) (o : Nat) (sc1 : Nat) (a2 : Int32) (a3 : Int32) (a4 : Int32) (a5 : Int32) (ho : (o, 9, 0) ∈ cKT) (hsc1 : (sc1, 7, 0) ∈ cKT) (hp : p_X9_likelyFrom S o sc1 a2 a3 a4 a5) : AM G l yX9_likelyFrom cX9_likelyFrom 9 (some .int) (rmD 3 0 0) 0 0 [.ref o, .ref sc1, .int a2, .int a3, .int a4, .int a5] S (FP (some (.int (f_X9_likelyFrom S o sc1 a2 a3 a4 a5).1)) ((f_X9_likelyFrom S o sc1 a2 a3 a4 a5).2)) := by
  obtain ⟨h0, h1⟩ := hp
  refine AM.mk (by decide) (Nat.le_of_ble_eq_true rfl) ?_
  intro p e s m below meth c hC hSt _
  refine aw_aload_n hC 0 dX9_likelyFrom_0 rfl rfl ?_
  refine aw_aload_n hC 1 dX9_likelyFrom_1 rfl rfl ?_
  refine aw_iload_n hC 2 dX9_likelyFrom_2 rfl rfl ?_
  refine aw_iload hC 4 dX9_likelyFrom_3 rfl ?_
  refine aw_iload hC 5 dX9_likelyFrom_5 rfl ?_
  refine aw_cV4v hC hSt (t_X9_face G l hM _ _ _ _ _ ho hsc1 (h0)) w_172 w_188 w_189 w_190 w_140 rfl rfl (by decide +kernel) ⟨Nat.le_of_ble_eq_true rfl, Nat.le_of_ble_eq_true rfl⟩ (cs_lt o 9 0 ho hM) (cs_k o 9 0 ho hM) rfl (Nat.le_of_ble_eq_true rfl) dX9_likelyFrom_7 ⟨Nat.zero_le _, Nat.zero_le _⟩ ?_
  generalize er1 : f_X9_face S o sc1 a2 a4 a5 = r1
  have hM : CS r1 := CS.of (by rw [← er1]; exact q_X9_face _ _ _ _ _ _) hM
  refine aw_ldc (v := 1000000) hC w_187 dX9_likelyFrom_10 ?_
  refine aw_istore hC [(6, .int _), (0, .ref o), (1, .ref sc1), (2, .int _), (3, .int _), (4, .int _), (5, .int _)] dX9_likelyFrom_12 (by decide) rfl ?_
  refine aw_aload_n hC 1 dX9_likelyFrom_14 rfl rfl ?_
  refine aw_getI hC hSt 5 (cs_lt o 9 0 ho hM) (cs_k o 9 0 ho hM) rfl (by decide) w_160 rfl dX9_likelyFrom_15 ?_
  refine aw_ineg hC dX9_likelyFrom_18 ?_
  refine aw_istore hC [(7, .int _), (6, .int _), (0, .ref o), (1, .ref sc1), (2, .int _), (3, .int _), (4, .int _), (5, .int _)] dX9_likelyFrom_19 (by decide) rfl ?_
  generalize ex2 : (-(gI r1 o 5)) = x2
  refine aw_sub [2, 3, 4, 5, 6, 7, 1, 0] rfl ?_
  refine l_X9_likelyFrom_21 hC hSt ho hsc1 1000 _ _ _ _ _ _ _ hM (h1 r1 er1 x2 ex2) ?_
  generalize er3 : L_X9_likelyFrom_21 o sc1 1000 r1 a2 a3 a4 a5 (1000000 : Int32) x2 = r3
  refine aw_iload hC 6 dX9_likelyFrom_90 rfl ?_
  refine aw_iret hC dX9_likelyFrom_92 (Nat.le_refl _) (Nat.le_refl _) ?_
  exact FP.qI ((bd_eq er1).trans ((bd_eq ex2).trans ((bd_eq er3).trans (rfl))))
theorem q_X9_likelyFrom (S : HSt) (o : Nat) (sc1 : Nat) (a2 : Int32) (a3 : Int32) (a4 : Int32) (a5 : Int32) : shp ((f_X9_likelyFrom S o sc1 a2 a3 a4 a5).2) = shp S := by
  unfold f_X9_likelyFrom
  repeat' (first | with_reducible refine shpr1 ?_ | with_reducible rfl | with_reducible refine (q_X9_face _ _ _ _ _ _).trans ?_ | with_reducible refine (shp_sI _ _ _ _).trans ?_ | with_reducible refine (shp_sJ _ _ _ _).trans ?_ | with_reducible refine (shp_rI _ _ _).trans ?_ | with_reducible refine shi ?_ ?_ | with_reducible refine shb (fun _ _ => ?_) | with_reducible refine shiP (fun q : Int32 × HSt => q.2) ?_ ?_ | with_reducible refine shbP (fun q : Int32 × HSt => q.2) (fun _ _ => ?_) | (subst_vars; with_reducible rfl) | (subst_vars; with_reducible refine (q_X9_face _ _ _ _ _ _).trans ?_) | (subst_vars; with_reducible refine (shp_sI _ _ _ _).trans ?_) | (subst_vars; with_reducible refine (shp_sJ _ _ _ _).trans ?_) | (subst_vars; with_reducible refine (shp_rI _ _ _).trans ?_) | (subst_vars; with_reducible refine shi ?_ ?_) | (subst_vars; with_reducible refine shb (fun _ _ => ?_)))
theorem v_X9_likelyFrom (S : HSt) (o : Nat) (sc1 : Nat) (a2 : Int32) (a3 : Int32) (a4 : Int32) (a5 : Int32) : Fr [(o, 10), (o, 3), (o, 4), (o, 5), (o, 6), (o, 7), (o, 8), (o, 9)] S ((f_X9_likelyFrom S o sc1 a2 a3 a4 a5).2) := by
  unfold f_X9_likelyFrom
  repeat' (first | with_reducible refine frpr1 ?_ | with_reducible exact Fr.refl _ _ | with_reducible refine Fr.lP (fun q : Int32 × HSt => q.2) (fun _ _ => ?_) | with_reducible refine Fr.iteP (fun q : Int32 × HSt => q.2) ?_ ?_ | with_reducible refine Fr.l1 (fun _ _ => ?_) | with_reducible refine Fr.ite ?_ ?_ | with_reducible refine Fr.sE (by assumption) (by first | decide | simp only [List.mem_cons, List.not_mem_nil, or_false, true_or, or_true, eq_self_iff_true]) ?_ | with_reducible refine Fr.jE (by assumption) ?_ | with_reducible refine Fr.rE (by assumption) (by first | decide | simp only [List.mem_cons, List.not_mem_nil, or_false, true_or, or_true, eq_self_iff_true]) ?_ | with_reducible refine Fr.iE (by assumption) ?_ ?_ | with_reducible refine Fr.tr (w_X9_face _ _ _ _ _ _ _ (by assumption)) (by first | decide | simp only [List.mem_cons, List.not_mem_nil, or_false, forall_eq_or_imp, forall_eq, true_or, or_true, and_self, eq_self_iff_true]) ?_)
theorem w_X9_likelyFrom (S : HSt) (o : Nat) (sc1 : Nat) (a2 : Int32) (a3 : Int32) (a4 : Int32) (a5 : Int32) (r : Int32 × HSt) (e : f_X9_likelyFrom S o sc1 a2 a3 a4 a5 = r) : Fr [(o, 10), (o, 3), (o, 4), (o, 5), (o, 6), (o, 7), (o, 8), (o, 9)] S r.2 := by
  rw [← e]
  exact v_X9_likelyFrom S o sc1 a2 a3 a4 a5
noncomputable def f_X9_aim (S : HSt) (o : Nat) (sc1 : Nat) (lp2 : Nat) (a3 : Int32) (a4 : Int32) : HSt := bd (f_X9_face S o sc1 (gI S lp2 4) a3 a4) fun r1 => bd ((sI r1 o 2 (0 : Int32))) fun S2 => bd ((sI S2 o 1 (0 : Int32))) fun S3 => bd ((sI S3 o 0 (999 : Int32))) fun S4 => if (f_X1_hasFallen S4 lp2) = 0 then (bd ((sI S4 o 2 (f_X9_sumAt S4 o (gI S4 lp2 0) (gI S4 lp2 1)))) fun S6 => bd ((f_X9_flightBy S6 o (gI S6 lp2 1))) fun x7 => bd (((gI S6 lp2 0) - (f_X9_sizeFor S6 o x7))) fun x8 => bd ((if x7 = 0 then (0 : Int32) else (if (0 : Int32) < x8 then x8 else (0 : Int32)))) fun x10 => bd ((sI S6 o 1 x10)) fun S11 => bd ((if x7 = 0 then (500 : Int32) else (if (0 : Int32) < (-x8) then (-x8) else (0 : Int32)))) fun x13 => bd ((sI S11 o 0 x13)) fun S14 => S14) else (S4)
def p_X9_aim (S : HSt) (o : Nat) (sc1 : Nat) (lp2 : Nat) (a3 : Int32) (a4 : Int32) : Prop := (p_X9_face S o sc1 (gI S lp2 4) a3 a4) ∧ (∀ r1, f_X9_face S o sc1 (gI S lp2 4) a3 a4 = r1 → ∀ S2 : HSt, (sI r1 o 2 (0 : Int32)) = S2 → ∀ S3 : HSt, (sI S2 o 1 (0 : Int32)) = S3 → ∀ S4 : HSt, (sI S3 o 0 (999 : Int32)) = S4 → ((f_X1_hasFallen S4 lp2) = 0) → p_X9_sumAt S4 o (gI S4 lp2 0) (gI S4 lp2 1)) ∧ (∀ r1, f_X9_face S o sc1 (gI S lp2 4) a3 a4 = r1 → ∀ S2 : HSt, (sI r1 o 2 (0 : Int32)) = S2 → ∀ S3 : HSt, (sI S2 o 1 (0 : Int32)) = S3 → ∀ S4 : HSt, (sI S3 o 0 (999 : Int32)) = S4 → ((f_X1_hasFallen S4 lp2) = 0) → ∀ S6 : HSt, (sI S4 o 2 (f_X9_sumAt S4 o (gI S4 lp2 0) (gI S4 lp2 1))) = S6 → p_X9_flightBy S6 o (gI S6 lp2 1))
set_option maxRecDepth 100000 in
theorem t_X9_aim (G : GG) (l : Launch) {S : HSt} (hM : CS S) (o : Nat) (sc1 : Nat) (lp2 : Nat) (a3 : Int32) (a4 : Int32) (ho : (o, 9, 0) ∈ cKT) (hsc1 : (sc1, 7, 0) ∈ cKT) (hlp2 : (lp2, 1, 0) ∈ cKT) (hp : p_X9_aim S o sc1 lp2 a3 a4) : AM G l yX9_aim cX9_aim 7 none (rmD 3 0 0) 0 0 [.ref o, .ref sc1, .ref lp2, .int a3, .int a4] S (FP none (f_X9_aim S o sc1 lp2 a3 a4)) := by
  obtain ⟨h0, h1, h2⟩ := hp
  refine AM.mk (by decide) (Nat.le_of_ble_eq_true rfl) ?_
  intro p e s m below meth c hC hSt _
  refine aw_aload_n hC 0 dX9_aim_0 rfl rfl ?_
  refine aw_aload_n hC 1 dX9_aim_1 rfl rfl ?_
  refine aw_aload_n hC 2 dX9_aim_2 rfl rfl ?_
  refine aw_getI hC hSt 4 (cs_lt lp2 1 0 hlp2 hM) (cs_k lp2 1 0 hlp2 hM) rfl (by decide) w_504 rfl dX9_aim_3 ?_
  refine aw_iload_n hC 3 dX9_aim_6 rfl rfl ?_
  refine aw_iload hC 4 dX9_aim_7 rfl ?_
  refine aw_cV4v hC hSt (t_X9_face G l hM _ _ _ _ _ ho hsc1 (h0)) w_172 w_188 w_189 w_190 w_140 rfl rfl (by decide +kernel) ⟨Nat.le_of_ble_eq_true rfl, Nat.le_of_ble_eq_true rfl⟩ (cs_lt o 9 0 ho hM) (cs_k o 9 0 ho hM) rfl (Nat.le_of_ble_eq_true rfl) dX9_aim_9 ⟨Nat.zero_le _, Nat.zero_le _⟩ ?_
  generalize er1 : f_X9_face S o sc1 (gI S lp2 4) a3 a4 = r1
  have hM : CS r1 := CS.of (by rw [← er1]; exact q_X9_face _ _ _ _ _ _) hM
  refine aw_aload_n hC 0 dX9_aim_12 rfl rfl ?_
  refine aw_iconst (v := 0) hC dX9_aim_13 (by decide) ?_
  refine aw_putI hC hSt 2 (cs_lt o 9 0 ho hM) (cs_k o 9 0 ho hM) rfl (by decide) w_505 rfl rfl rfl rfl dX9_aim_14 ?_
  generalize eS2 : (sI r1 o 2 (0 : Int32)) = S2
  have hM : CS S2 := CS.of (by rw [← eS2]; exact shp_sI _ _ _ _) hM
  refine aw_aload_n hC 0 dX9_aim_17 rfl rfl ?_
  refine aw_iconst (v := 0) hC dX9_aim_18 (by decide) ?_
  refine aw_putI hC hSt 1 (cs_lt o 9 0 ho hM) (cs_k o 9 0 ho hM) rfl (by decide) w_506 rfl rfl rfl rfl dX9_aim_19 ?_
  generalize eS3 : (sI S2 o 1 (0 : Int32)) = S3
  have hM : CS S3 := CS.of (by rw [← eS3]; exact shp_sI _ _ _ _) hM
  refine aw_aload_n hC 0 dX9_aim_22 rfl rfl ?_
  refine aw_sipush (v := 999) hC dX9_aim_23 (by decide) ?_
  refine aw_putI hC hSt 0 (cs_lt o 9 0 ho hM) (cs_k o 9 0 ho hM) rfl (by decide) w_507 rfl rfl rfl rfl dX9_aim_26 ?_
  generalize eS4 : (sI S3 o 0 (999 : Int32)) = S4
  have hM : CS S4 := CS.of (by rw [← eS4]; exact shp_sI _ _ _ _) hM
  refine aw_aload_n hC 2 dX9_aim_29 rfl rfl ?_
  refine aw_cV0r hC hSt (t_X1_hasFallen G l hM _ hlp2) w_88 w_510 w_204 w_205 w_84 rfl rfl (by decide +kernel) ⟨Nat.le_of_ble_eq_true rfl, Nat.le_of_ble_eq_true rfl⟩ (cs_lt lp2 1 0 hlp2 hM) (cs_k lp2 1 0 hlp2 hM) rfl (Nat.le_of_ble_eq_true rfl) dX9_aim_30 ⟨Nat.zero_le _, Nat.zero_le _⟩ ?_
  refine aw_if_eq hC 37 dX9_aim_33 (by decide) (fun c5 => ?_) (fun c5 => ?_)
  · refine aw_aload_n hC 0 dX9_aim_37 rfl rfl ?_
    refine aw_aload_n hC 0 dX9_aim_38 rfl rfl ?_
    refine aw_aload_n hC 2 dX9_aim_39 rfl rfl ?_
    refine aw_getI hC hSt 0 (cs_lt lp2 1 0 hlp2 hM) (cs_k lp2 1 0 hlp2 hM) rfl (by decide) w_508 rfl dX9_aim_40 ?_
    refine aw_aload_n hC 2 dX9_aim_43 rfl rfl ?_
    refine aw_getI hC hSt 1 (cs_lt lp2 1 0 hlp2 hM) (cs_k lp2 1 0 hlp2 hM) rfl (by decide) w_509 rfl dX9_aim_44 ?_
    refine aw_cV2r hC hSt (t_X9_sumAt G l hM _ _ _ ho (h1 r1 er1 S2 eS2 S3 eS3 S4 eS4 c5)) w_177 w_191 w_192 w_193 w_140 rfl rfl (by decide +kernel) ⟨Nat.le_of_ble_eq_true rfl, Nat.le_of_ble_eq_true rfl⟩ (cs_lt o 9 0 ho hM) (cs_k o 9 0 ho hM) rfl (Nat.le_of_ble_eq_true rfl) dX9_aim_47 ⟨Nat.zero_le _, Nat.zero_le _⟩ ?_
    refine aw_putI hC hSt 2 (cs_lt o 9 0 ho hM) (cs_k o 9 0 ho hM) rfl (by decide) w_505 rfl rfl rfl rfl dX9_aim_50 ?_
    generalize eS6 : (sI S4 o 2 (f_X9_sumAt S4 o (gI S4 lp2 0) (gI S4 lp2 1))) = S6
    have hM : CS S6 := CS.of (by rw [← eS6]; exact shp_sI _ _ _ _) hM
    refine aw_aload_n hC 0 dX9_aim_53 rfl rfl ?_
    refine aw_aload_n hC 2 dX9_aim_54 rfl rfl ?_
    refine aw_getI hC hSt 1 (cs_lt lp2 1 0 hlp2 hM) (cs_k lp2 1 0 hlp2 hM) rfl (by decide) w_509 rfl dX9_aim_55 ?_
    refine aw_cV1r hC hSt (t_X9_flightBy G l hM _ _ ho (h2 r1 er1 S2 eS2 S3 eS3 S4 eS4 c5 S6 eS6)) w_173 w_178 w_179 w_180 w_140 rfl rfl (by decide +kernel) ⟨Nat.le_of_ble_eq_true rfl, Nat.le_of_ble_eq_true rfl⟩ (cs_lt o 9 0 ho hM) (cs_k o 9 0 ho hM) rfl (Nat.le_of_ble_eq_true rfl) dX9_aim_58 ⟨Nat.zero_le _, Nat.zero_le _⟩ ?_
    refine aw_istore hC [(5, .int _), (0, .ref o), (1, .ref sc1), (2, .ref lp2), (3, .int _), (4, .int _)] dX9_aim_61 (by decide) rfl ?_
    generalize ex7 : (f_X9_flightBy S6 o (gI S6 lp2 1)) = x7
    refine aw_aload_n hC 3 dX9_aim_63 rfl rfl ?_
    refine aw_getI hC hSt 0 (cs_lt lp2 1 0 hlp2 hM) (cs_k lp2 1 0 hlp2 hM) rfl (by decide) w_508 rfl dX9_aim_64 ?_
    refine aw_aload_n hC 1 dX9_aim_67 rfl rfl ?_
    refine aw_iload hC 0 dX9_aim_68 rfl ?_
    refine aw_cV1r hC hSt (t_X9_sizeFor G l hM _ _ ho) w_175 w_181 w_182 w_183 w_140 rfl rfl (by decide +kernel) ⟨Nat.le_of_ble_eq_true rfl, Nat.le_of_ble_eq_true rfl⟩ (cs_lt o 9 0 ho hM) (cs_k o 9 0 ho hM) rfl (Nat.le_of_ble_eq_true rfl) dX9_aim_70 ⟨Nat.zero_le _, Nat.zero_le _⟩ ?_
    refine aw_isub hC dX9_aim_73 ?_
    refine aw_istore hC [(6, .int _), (5, .int _), (0, .ref o), (1, .ref sc1), (2, .ref lp2), (3, .int _), (4, .int _)] dX9_aim_74 (by decide) rfl ?_
    generalize ex8 : ((gI S6 lp2 0) - (f_X9_sizeFor S6 o x7)) = x8
    refine aw_aload_n hC 2 dX9_aim_76 rfl rfl ?_
    refine aw_iload hC 1 dX9_aim_77 rfl ?_
    refine aw_cut (S' := S6) (pc' := 92) (lv' := [(6, .int x8), (5, .int x7), (0, .ref o), (1, .ref sc1), (2, .ref lp2), (3, .int a3), (4, .int a4)]) (st' := [.int (if x7 = 0 then (0 : Int32) else (if (0 : Int32) < x8 then x8 else (0 : Int32))), .ref o]) ?_ (fun Jc9 => ?_)
    · generalize ex10 : (if x7 = 0 then (0 : Int32) else (if (0 : Int32) < x8 then x8 else (0 : Int32))) = x10
      refine aw_putI hC hSt 1 (cs_lt o 9 0 ho hM) (cs_k o 9 0 ho hM) rfl (by decide) w_506 rfl rfl rfl rfl dX9_aim_92 ?_
      generalize eS11 : (sI S6 o 1 x10) = S11
      have hM : CS S11 := CS.of (by rw [← eS11]; exact shp_sI _ _ _ _) hM
      refine aw_aload_n hC 2 dX9_aim_95 rfl rfl ?_
      refine aw_iload hC 1 dX9_aim_96 rfl ?_
      refine aw_cut (S' := S11) (pc' := 114) (lv' := [(6, .int x8), (5, .int x7), (0, .ref o), (1, .ref sc1), (2, .ref lp2), (3, .int a3), (4, .int a4)]) (st' := [.int (if x7 = 0 then (500 : Int32) else (if (0 : Int32) < (-x8) then (-x8) else (0 : Int32))), .ref o]) ?_ (fun Jc12 => ?_)
      · generalize ex13 : (if x7 = 0 then (500 : Int32) else (if (0 : Int32) < (-x8) then (-x8) else (0 : Int32))) = x13
        refine aw_putI hC hSt 0 (cs_lt o 9 0 ho hM) (cs_k o 9 0 ho hM) rfl (by decide) w_507 rfl rfl rfl rfl dX9_aim_114 ?_
        generalize eS14 : (sI S11 o 0 x13) = S14
        have hM : CS S14 := CS.of (by rw [← eS14]; exact shp_sI _ _ _ _) hM
        refine aw_vret hC dX9_aim_117 (Nat.le_refl _) (Nat.le_refl _) ?_
        exact FP.qV ((bd_eq er1).trans ((bd_eq eS2).trans ((bd_eq eS3).trans ((bd_eq eS4).trans ((if_pos c5).trans ((bd_eq eS6).trans ((bd_eq ex7).trans ((bd_eq ex8).trans ((bd_eq ex10).trans ((bd_eq eS11).trans ((bd_eq ex13).trans ((bd_eq eS14).trans (rfl)))))))))))))
      · refine aw_if_ne hC 107 dX9_aim_98 (by decide) (fun c12 => ?_) (fun c12 => ?_)
        · refine aw_iconst (v := 0) hC dX9_aim_107 (by decide) ?_
          refine aw_iload hC 0 dX9_aim_108 rfl ?_
          refine aw_ineg hC dX9_aim_110 ?_
          refine aw_max hC w_174 w_91 w_92 w_93 (by decide) (Nat.le_of_ble_eq_true rfl) (by decide) (by decide) dX9_aim_111 ?_
          simp only [bd_def, if_neg c12] at Jc12 ⊢
          exact Jc12
        · refine aw_sipush (v := 500) hC dX9_aim_101 (by decide) ?_
          refine aw_goto hC 114 dX9_aim_104 (by decide) ?_
          simp only [bd_def, if_pos c12] at Jc12 ⊢
          exact Jc12
    · refine aw_if_ne hC 86 dX9_aim_79 (by decide) (fun c9 => ?_) (fun c9 => ?_)
      · refine aw_iconst (v := 0) hC dX9_aim_86 (by decide) ?_
        refine aw_iload hC 0 dX9_aim_87 rfl ?_
        refine aw_max hC w_174 w_91 w_92 w_93 (by decide) (Nat.le_of_ble_eq_true rfl) (by decide) (by decide) dX9_aim_89 ?_
        simp only [bd_def, if_neg c9] at Jc9 ⊢
        exact Jc9
      · refine aw_iconst (v := 0) hC dX9_aim_82 (by decide) ?_
        refine aw_goto hC 92 dX9_aim_83 (by decide) ?_
        simp only [bd_def, if_pos c9] at Jc9 ⊢
        exact Jc9
  · refine aw_vret hC dX9_aim_36 (Nat.le_refl _) (Nat.le_refl _) ?_
    exact FP.qV ((bd_eq er1).trans ((bd_eq eS2).trans ((bd_eq eS3).trans ((bd_eq eS4).trans ((if_neg c5).trans (rfl))))))
theorem q_X9_aim (S : HSt) (o : Nat) (sc1 : Nat) (lp2 : Nat) (a3 : Int32) (a4 : Int32) : shp (f_X9_aim S o sc1 lp2 a3 a4) = shp S := by
  unfold f_X9_aim
  repeat' (first | with_reducible rfl | with_reducible refine (q_X9_face _ _ _ _ _ _).trans ?_ | with_reducible refine (shp_sI _ _ _ _).trans ?_ | with_reducible refine (shp_sJ _ _ _ _).trans ?_ | with_reducible refine (shp_rI _ _ _).trans ?_ | with_reducible refine shi ?_ ?_ | with_reducible refine shb (fun _ _ => ?_) | (subst_vars; with_reducible rfl) | (subst_vars; with_reducible refine (q_X9_face _ _ _ _ _ _).trans ?_) | (subst_vars; with_reducible refine (shp_sI _ _ _ _).trans ?_) | (subst_vars; with_reducible refine (shp_sJ _ _ _ _).trans ?_) | (subst_vars; with_reducible refine (shp_rI _ _ _).trans ?_) | (subst_vars; with_reducible refine shi ?_ ?_) | (subst_vars; with_reducible refine shb (fun _ _ => ?_)))
theorem v_X9_aim (S : HSt) (o : Nat) (sc1 : Nat) (lp2 : Nat) (a3 : Int32) (a4 : Int32) : Fr [(o, 0), (o, 1), (o, 10), (o, 2), (o, 3), (o, 4), (o, 5), (o, 6), (o, 7), (o, 8), (o, 9)] S (f_X9_aim S o sc1 lp2 a3 a4) := by
  unfold f_X9_aim
  repeat' (first | with_reducible exact Fr.refl _ _ | with_reducible refine Fr.l1 (fun _ _ => ?_) | with_reducible refine Fr.ite ?_ ?_ | with_reducible refine Fr.sE (by assumption) (by first | decide | simp only [List.mem_cons, List.not_mem_nil, or_false, true_or, or_true, eq_self_iff_true]) ?_ | with_reducible refine Fr.jE (by assumption) ?_ | with_reducible refine Fr.rE (by assumption) (by first | decide | simp only [List.mem_cons, List.not_mem_nil, or_false, true_or, or_true, eq_self_iff_true]) ?_ | with_reducible refine Fr.iE (by assumption) ?_ ?_ | with_reducible refine Fr.tr (w_X9_face _ _ _ _ _ _ _ (by assumption)) (by first | decide | simp only [List.mem_cons, List.not_mem_nil, or_false, forall_eq_or_imp, forall_eq, true_or, or_true, and_self, eq_self_iff_true]) ?_)
theorem w_X9_aim (S : HSt) (o : Nat) (sc1 : Nat) (lp2 : Nat) (a3 : Int32) (a4 : Int32) (r : HSt) (e : f_X9_aim S o sc1 lp2 a3 a4 = r) : Fr [(o, 0), (o, 1), (o, 10), (o, 2), (o, 3), (o, 4), (o, 5), (o, 6), (o, 7), (o, 8), (o, 9)] S r := by
  rw [← e]
  exact v_X9_aim S o sc1 lp2 a3 a4
noncomputable def F_X0_begunAt (S : HSt) (_o0 : Nat) (a1 : Int32) : Int32 × HSt := bd ((if a1 < 0 then (-1000000 : Int32) else (if (gI S 62 1) ≤ a1 then (-1000000 : Int32) else (gI S 63 a1.toNatClampNeg)))) fun x3 => pr (x3) (S)
noncomputable def f_X0_begunAt (S : HSt) (_o0 : Nat) (a1 : Int32) : Int32 := (F_X0_begunAt S _o0 a1).1
def p_X0_begunAt (S : HSt) (_o0 : Nat) (a1 : Int32) : Prop := ((¬ a1 < 0) → (¬ (gI S 62 1) ≤ a1) → vp_in a1 16)
set_option maxRecDepth 100000 in
theorem t_X0_begunAt (G : GG) (l : Launch) {S : HSt} (hM : CS S) (a1 : Int32)  (hp : p_X0_begunAt S 62 a1) : AM G l yX0_begunAt cX0_begunAt 2 (some .int) (rmD 0 0 0) 0 0 [.ref 62, .int a1] S (FP (some (.int (f_X0_begunAt S 62 a1))) (S)) := by
  have h0 := hp
  unfold p_X0_begunAt at h0
  refine AM.mk (by decide) (Nat.le_of_ble_eq_true rfl) ?_
  intro p e s m below meth c hC hSt _
  refine aw_iload_n hC 1 dX0_begunAt_0 rfl rfl ?_
  refine aw_cut (S' := S) (pc' := 23) (lv' := [(0, .ref 62), (1, .int a1)]) (st' := [.int (if a1 < 0 then (-1000000 : Int32) else (if (gI S 62 1) ≤ a1 then (-1000000 : Int32) else (gI S 63 a1.toNatClampNeg)))]) ?_ (fun Jc1 => ?_)
  · generalize ex3 : (if a1 < 0 then (-1000000 : Int32) else (if (gI S 62 1) ≤ a1 then (-1000000 : Int32) else (gI S 63 a1.toNatClampNeg))) = x3
    refine aw_iret hC dX0_begunAt_23 (Nat.le_refl _) (Nat.le_refl _) ?_
    exact FP.pI ((bd_eq ex3).trans (rfl))
  · refine aw_if_lt hC 21 dX0_begunAt_1 (by decide) (fun c1 => ?_) (fun c1 => ?_)
    · refine aw_ldc (v := -1000000) hC w_8 dX0_begunAt_21 ?_
      simp only [bd_def, if_pos c1] at Jc1 ⊢
      exact Jc1
    · refine aw_iload_n hC 1 dX0_begunAt_4 rfl rfl ?_
      refine aw_aload_n hC 0 dX0_begunAt_5 rfl rfl ?_
      refine aw_getI hC hSt 1 (cs_lt 62 0 0 (by decide) hM) (cs_k 62 0 0 (by decide) hM) rfl (by decide) w_7 rfl dX0_begunAt_6 ?_
      refine aw_icmp_ge hC 21 dX0_begunAt_9 (by decide) (fun c2 => ?_) (fun c2 => ?_)
      · refine aw_ldc (v := -1000000) hC w_8 dX0_begunAt_21 ?_
        simp only [bd_def, if_neg c1, if_pos c2] at Jc1 ⊢
        exact Jc1
      · refine aw_aload_n hC 0 dX0_begunAt_12 rfl rfl ?_
        refine aw_getP (b := 63) hC hSt 0 (cs_lt 62 0 0 (by decide) hM) (cs_k 62 0 0 (by decide) hM) rfl (by decide) w_5 rfl (cs_p 62 0 63 (by decide) hM) dX0_begunAt_13 ?_
        refine aw_iload_n hC 1 dX0_begunAt_16 rfl rfl ?_
        refine aw_iald hC hSt (cs_lt 63 14 16 (by decide) hM) (cs_k 63 14 16 (by decide) hM) (vp_len (n := 16) (cs_l 63 14 16 (by decide) hM) (h0 c1 c2)) dX0_begunAt_17 ?_
        refine aw_goto hC 23 dX0_begunAt_18 (by decide) ?_
        simp only [bd_def, if_neg c1, if_neg c2] at Jc1 ⊢
        exact Jc1
noncomputable def f_X0_begin (S : HSt) (_o0 : Nat) (a1 : Int32) : HSt := bd ((if (16 : Int32) ≤ (gI S 62 1) then S else (bd ((sI S 63 (gI S 62 1).toNatClampNeg a1)) fun S2 => bd ((sI S2 62 1 ((gI S2 62 1) + (1 : Int32)))) fun S3 => S3))) fun S4 => S4
def p_X0_begin (S : HSt) (_o0 : Nat) (a1 : Int32) : Prop := ((¬ (16 : Int32) ≤ (gI S 62 1)) → vp_in (gI S 62 1) 16)
set_option maxRecDepth 100000 in
theorem t_X0_begin (G : GG) (l : Launch) {S : HSt} (hM : CS S) (a1 : Int32)  (hp : p_X0_begin S 62 a1) : AM G l yX0_begin cX0_begin 2 none (rmD 0 0 0) 0 0 [.ref 62, .int a1] S (FP none (f_X0_begin S 62 a1)) := by
  have h0 := hp
  unfold p_X0_begin at h0
  refine AM.mk (by decide) (Nat.le_of_ble_eq_true rfl) ?_
  intro p e s m below meth c hC hSt _
  refine aw_aload_n hC 0 dX0_begin_0 rfl rfl ?_
  refine aw_getI hC hSt 1 (cs_lt 62 0 0 (by decide) hM) (cs_k 62 0 0 (by decide) hM) rfl (by decide) w_7 rfl dX0_begin_1 ?_
  refine aw_bipush (v := 16) hC dX0_begin_4 (by decide) ?_
  refine aw_cut (S' := (if (16 : Int32) ≤ (gI S 62 1) then S else (bd ((sI S 63 (gI S 62 1).toNatClampNeg a1)) fun S2 => bd ((sI S2 62 1 ((gI S2 62 1) + (1 : Int32)))) fun S3 => S3))) (pc' := 29) (lv' := [(0, .ref 62), (1, .int a1)]) (st' := []) ?_ (fun Jc1 => ?_)
  · generalize eS4 : (if (16 : Int32) ≤ (gI S 62 1) then S else (bd ((sI S 63 (gI S 62 1).toNatClampNeg a1)) fun S2 => bd ((sI S2 62 1 ((gI S2 62 1) + (1 : Int32)))) fun S3 => S3)) = S4
    have hM : CS S4 := CS.of (by rw [← eS4]; repeat' (first | with_reducible rfl | with_reducible refine (shp_sI _ _ _ _).trans ?_ | with_reducible refine (shp_sJ _ _ _ _).trans ?_ | with_reducible refine (shp_rI _ _ _).trans ?_ | with_reducible refine shi ?_ ?_ | with_reducible refine shb (fun _ _ => ?_) | (subst_vars; with_reducible rfl) | (subst_vars; with_reducible refine (shp_sI _ _ _ _).trans ?_) | (subst_vars; with_reducible refine (shp_sJ _ _ _ _).trans ?_) | (subst_vars; with_reducible refine (shp_rI _ _ _).trans ?_) | (subst_vars; with_reducible refine shi ?_ ?_) | (subst_vars; with_reducible refine shb (fun _ _ => ?_)))) hM
    refine aw_vret hC dX0_begin_29 (Nat.le_refl _) (Nat.le_refl _) ?_
    exact FP.qV ((bd_eq eS4).trans (rfl))
  · refine aw_icmp_ge hC 29 dX0_begin_6 (by decide) (fun c1 => ?_) (fun c1 => ?_)
    · simp only [bd_def, if_pos c1] at Jc1 ⊢
      exact Jc1
    · refine aw_aload_n hC 0 dX0_begin_9 rfl rfl ?_
      refine aw_getP (b := 63) hC hSt 0 (cs_lt 62 0 0 (by decide) hM) (cs_k 62 0 0 (by decide) hM) rfl (by decide) w_5 rfl (cs_p 62 0 63 (by decide) hM) dX0_begin_10 ?_
      refine aw_aload_n hC 0 dX0_begin_13 rfl rfl ?_
      refine aw_getI hC hSt 1 (cs_lt 62 0 0 (by decide) hM) (cs_k 62 0 0 (by decide) hM) rfl (by decide) w_7 rfl dX0_begin_14 ?_
      refine aw_iload_n hC 1 dX0_begin_17 rfl rfl ?_
      refine aw_iast hC hSt (cs_lt 63 14 16 (by decide) hM) (cs_k 63 14 16 (by decide) hM) (vp_len (n := 16) (cs_l 63 14 16 (by decide) hM) (h0 c1)) dX0_begin_18 ?_
      generalize eS2 : (sI S 63 (gI S 62 1).toNatClampNeg a1) = S2
      have hM : CS S2 := CS.of (by rw [← eS2]; exact shp_sI _ _ _ _) hM
      refine aw_aload_n hC 0 dX0_begin_19 rfl rfl ?_
      refine aw_dup hC dX0_begin_20 rfl ?_
      refine aw_getI hC hSt 1 (cs_lt 62 0 0 (by decide) hM) (cs_k 62 0 0 (by decide) hM) rfl (by decide) w_7 rfl dX0_begin_21 ?_
      refine aw_iconst (v := 1) hC dX0_begin_24 (by decide) ?_
      refine aw_iadd hC dX0_begin_25 ?_
      refine aw_putI hC hSt 1 (cs_lt 62 0 0 (by decide) hM) (cs_k 62 0 0 (by decide) hM) rfl (by decide) w_7 rfl rfl rfl rfl dX0_begin_26 ?_
      generalize eS3 : (sI S2 62 1 ((gI S2 62 1) + (1 : Int32))) = S3
      have hM : CS S3 := CS.of (by rw [← eS3]; exact shp_sI _ _ _ _) hM
      subst eS3
      subst eS2
      simp only [bd_def, if_neg c1] at Jc1 ⊢
      exact Jc1
theorem q_X0_begin (S : HSt) (_o0 : Nat) (a1 : Int32) : shp (f_X0_begin S _o0 a1) = shp S := by
  unfold f_X0_begin
  repeat' (first | with_reducible rfl | with_reducible refine (shp_sI _ _ _ _).trans ?_ | with_reducible refine (shp_sJ _ _ _ _).trans ?_ | with_reducible refine (shp_rI _ _ _).trans ?_ | with_reducible refine shi ?_ ?_ | with_reducible refine shb (fun _ _ => ?_) | (subst_vars; with_reducible rfl) | (subst_vars; with_reducible refine (shp_sI _ _ _ _).trans ?_) | (subst_vars; with_reducible refine (shp_sJ _ _ _ _).trans ?_) | (subst_vars; with_reducible refine (shp_rI _ _ _).trans ?_) | (subst_vars; with_reducible refine shi ?_ ?_) | (subst_vars; with_reducible refine shb (fun _ _ => ?_)))
theorem v_X0_begin (S : HSt) (_o0 : Nat) (a1 : Int32) : Fr [(62, 1), (63, 1000)] S (f_X0_begin S _o0 a1) := by
  unfold f_X0_begin
  repeat' (first | with_reducible exact Fr.refl _ _ | with_reducible refine Fr.l1 (fun _ _ => ?_) | with_reducible refine Fr.ite ?_ ?_ | with_reducible refine Fr.sE (by assumption) (by first | decide | simp only [List.mem_cons, List.not_mem_nil, or_false, true_or, or_true, eq_self_iff_true]) ?_ | with_reducible refine Fr.jE (by assumption) ?_ | with_reducible refine Fr.rE (by assumption) (by first | decide | simp only [List.mem_cons, List.not_mem_nil, or_false, true_or, or_true, eq_self_iff_true]) ?_ | with_reducible refine Fr.iE (by assumption) ?_ ?_)
theorem w_X0_begin (S : HSt) (_o0 : Nat) (a1 : Int32) (r : HSt) (e : f_X0_begin S _o0 a1 = r) : Fr [(62, 1), (63, 1000)] S r := by
  rw [← e]
  exact v_X0_begin S _o0 a1
noncomputable def f_X0_body10 (S : HSt) (_o0 : Nat) : Int32 × HSt := bd (f_X0_begin S 62 (10 : Int32)) fun r1 => pr ((1 : Int32)) (r1)
def p_X0_body10 (S : HSt) (_o0 : Nat) : Prop := (p_X0_begin S 62 (10 : Int32))
set_option maxRecDepth 100000 in
theorem t_X0_body10 (G : GG) (l : Launch) {S : HSt} (hM : CS S)   (hp : p_X0_body10 S 62) : AM G l yX0_body10 cX0_body10 1 (some .int) (rmD 1 0 0) 0 0 [.ref 62] S (FP (some (.int (f_X0_body10 S 62).1)) ((f_X0_body10 S 62).2)) := by
  have h0 := hp
  unfold p_X0_body10 at h0
  refine AM.mk (by decide) (Nat.le_of_ble_eq_true rfl) ?_
  intro p e s m below meth c hC hSt _
  refine aw_aload_n hC 0 dX0_body10_0 rfl rfl ?_
  refine aw_bipush (v := 10) hC dX0_body10_1 (by decide) ?_
  refine aw_cV1v hC hSt (t_X0_begin G l hM _ (h0)) w_9 w_20 w_21 w_22 w_23 rfl rfl (by decide +kernel) ⟨Nat.le_of_ble_eq_true rfl, Nat.le_of_ble_eq_true rfl⟩ (cs_lt 62 0 0 (by decide) hM) (cs_k 62 0 0 (by decide) hM) rfl (Nat.le_of_ble_eq_true rfl) dX0_body10_3 ⟨Nat.zero_le _, Nat.zero_le _⟩ ?_
  generalize er1 : f_X0_begin S 62 (10 : Int32) = r1
  have hM : CS r1 := CS.of (by rw [← er1]; exact q_X0_begin _ _ _) hM
  refine aw_iconst (v := 1) hC dX0_body10_6 (by decide) ?_
  refine aw_iret hC dX0_body10_7 (Nat.le_refl _) (Nat.le_refl _) ?_
  exact FP.qI ((bd_eq er1).trans (rfl))
theorem q_X0_body10 (S : HSt) (_o0 : Nat) : shp ((f_X0_body10 S _o0).2) = shp S := by
  unfold f_X0_body10
  repeat' (first | with_reducible refine shpr1 ?_ | with_reducible rfl | with_reducible refine (q_X0_begin _ _ _).trans ?_ | with_reducible refine (shp_sI _ _ _ _).trans ?_ | with_reducible refine (shp_sJ _ _ _ _).trans ?_ | with_reducible refine (shp_rI _ _ _).trans ?_ | with_reducible refine shi ?_ ?_ | with_reducible refine shb (fun _ _ => ?_) | with_reducible refine shiP (fun q : Int32 × HSt => q.2) ?_ ?_ | with_reducible refine shbP (fun q : Int32 × HSt => q.2) (fun _ _ => ?_) | (subst_vars; with_reducible rfl) | (subst_vars; with_reducible refine (q_X0_begin _ _ _).trans ?_) | (subst_vars; with_reducible refine (shp_sI _ _ _ _).trans ?_) | (subst_vars; with_reducible refine (shp_sJ _ _ _ _).trans ?_) | (subst_vars; with_reducible refine (shp_rI _ _ _).trans ?_) | (subst_vars; with_reducible refine shi ?_ ?_) | (subst_vars; with_reducible refine shb (fun _ _ => ?_)))
theorem v_X0_body10 (S : HSt) (_o0 : Nat) : Fr [(62, 1), (63, 1000)] S ((f_X0_body10 S _o0).2) := by
  unfold f_X0_body10
  repeat' (first | with_reducible refine frpr1 ?_ | with_reducible exact Fr.refl _ _ | with_reducible refine Fr.lP (fun q : Int32 × HSt => q.2) (fun _ _ => ?_) | with_reducible refine Fr.iteP (fun q : Int32 × HSt => q.2) ?_ ?_ | with_reducible refine Fr.l1 (fun _ _ => ?_) | with_reducible refine Fr.ite ?_ ?_ | with_reducible refine Fr.sE (by assumption) (by first | decide | simp only [List.mem_cons, List.not_mem_nil, or_false, true_or, or_true, eq_self_iff_true]) ?_ | with_reducible refine Fr.jE (by assumption) ?_ | with_reducible refine Fr.rE (by assumption) (by first | decide | simp only [List.mem_cons, List.not_mem_nil, or_false, true_or, or_true, eq_self_iff_true]) ?_ | with_reducible refine Fr.iE (by assumption) ?_ ?_ | with_reducible refine Fr.tr (w_X0_begin _ _ _ _ (by assumption)) (by first | decide | simp only [List.mem_cons, List.not_mem_nil, or_false, forall_eq_or_imp, forall_eq, true_or, or_true, and_self, eq_self_iff_true]) ?_)
theorem w_X0_body10 (S : HSt) (_o0 : Nat) (r : Int32 × HSt) (e : f_X0_body10 S _o0 = r) : Fr [(62, 1), (63, 1000)] S r.2 := by
  rw [← e]
  exact v_X0_body10 S _o0
noncomputable def f_X0_body11 (S : HSt) (_o0 : Nat) (w1 : Nat) (a2 : Int32) : Int32 × HSt := bd (f_X0_begin S 62 (11 : Int32)) fun r1 => bd (f_X0_body10 r1 62) fun r2 => pr ((r2.1 + (f_X10_value r2.2 w1 (5 : Int32) a2 (1 : Int32)))) (r2.2)
def p_X0_body11 (S : HSt) (_o0 : Nat) (w1 : Nat) (a2 : Int32) : Prop := (p_X0_begin S 62 (11 : Int32)) ∧ (∀ r1, f_X0_begin S 62 (11 : Int32) = r1 → p_X0_body10 r1 62) ∧ (∀ r1, f_X0_begin S 62 (11 : Int32) = r1 → ∀ r2, f_X0_body10 r1 62 = r2 → p_X10_value r2.2 w1 (5 : Int32) a2 (1 : Int32))
set_option maxRecDepth 100000 in
theorem t_X0_body11 (G : GG) (l : Launch) {S : HSt} (hM : CS S) (w1 : Nat) (a2 : Int32) (hw1 : (w1, 10, 0) ∈ cKT) (hp : p_X0_body11 S 62 w1 a2) : AM G l yX0_body11 cX0_body11 3 (some .int) (rmD 2 0 0) 0 0 [.ref 62, .ref w1, .int a2] S (FP (some (.int (f_X0_body11 S 62 w1 a2).1)) ((f_X0_body11 S 62 w1 a2).2)) := by
  obtain ⟨h0, h1, h2⟩ := hp
  refine AM.mk (by decide) (Nat.le_of_ble_eq_true rfl) ?_
  intro p e s m below meth c hC hSt _
  refine aw_aload_n hC 0 dX0_body11_0 rfl rfl ?_
  refine aw_bipush (v := 11) hC dX0_body11_1 (by decide) ?_
  refine aw_cV1v hC hSt (t_X0_begin G l hM _ (h0)) w_9 w_20 w_21 w_22 w_23 rfl rfl (by decide +kernel) ⟨Nat.le_of_ble_eq_true rfl, Nat.le_of_ble_eq_true rfl⟩ (cs_lt 62 0 0 (by decide) hM) (cs_k 62 0 0 (by decide) hM) rfl (Nat.le_of_ble_eq_true rfl) dX0_body11_3 ⟨Nat.zero_le _, Nat.zero_le _⟩ ?_
  generalize er1 : f_X0_begin S 62 (11 : Int32) = r1
  have hM : CS r1 := CS.of (by rw [← er1]; exact q_X0_begin _ _ _) hM
  refine aw_aload_n hC 0 dX0_body11_6 rfl rfl ?_
  refine aw_cV0r hC hSt (t_X0_body10 G l hM  (h1 r1 er1)) w_19 w_25 w_26 w_27 w_23 rfl rfl (by decide +kernel) ⟨Nat.le_of_ble_eq_true rfl, Nat.le_of_ble_eq_true rfl⟩ (cs_lt 62 0 0 (by decide) hM) (cs_k 62 0 0 (by decide) hM) rfl (Nat.le_of_ble_eq_true rfl) dX0_body11_7 ⟨Nat.zero_le _, Nat.zero_le _⟩ ?_
  generalize er2 : f_X0_body10 r1 62 = r2
  have hM : CS r2.2 := CS.of (by rw [← er2]; exact q_X0_body10 _ _) hM
  refine aw_aload_n hC 1 dX0_body11_10 rfl rfl ?_
  refine aw_iconst (v := 5) hC dX0_body11_11 (by decide) ?_
  refine aw_iload_n hC 2 dX0_body11_12 rfl rfl ?_
  refine aw_iconst (v := 1) hC dX0_body11_13 (by decide) ?_
  refine aw_cV3r hC hSt (t_X10_value G l hM _ _ _ _ hw1 (h2 r1 er1 r2 er2)) w_10 w_28 w_16 w_17 w_18 rfl rfl (by decide +kernel) ⟨Nat.le_of_ble_eq_true rfl, Nat.le_of_ble_eq_true rfl⟩ (cs_lt w1 10 0 hw1 hM) (cs_k w1 10 0 hw1 hM) rfl (Nat.le_of_ble_eq_true rfl) dX0_body11_14 ⟨Nat.zero_le _, Nat.zero_le _⟩ ?_
  refine aw_iadd hC dX0_body11_17 ?_
  refine aw_iret hC dX0_body11_18 (Nat.le_refl _) (Nat.le_refl _) ?_
  exact FP.qI ((bd_eq er1).trans ((bd_eq er2).trans (rfl)))
theorem q_X0_body11 (S : HSt) (_o0 : Nat) (w1 : Nat) (a2 : Int32) : shp ((f_X0_body11 S _o0 w1 a2).2) = shp S := by
  unfold f_X0_body11
  repeat' (first | with_reducible refine shpr1 ?_ | with_reducible rfl | with_reducible refine (q_X0_begin _ _ _).trans ?_ | with_reducible refine (q_X0_body10 _ _).trans ?_ | with_reducible refine (shp_sI _ _ _ _).trans ?_ | with_reducible refine (shp_sJ _ _ _ _).trans ?_ | with_reducible refine (shp_rI _ _ _).trans ?_ | with_reducible refine shi ?_ ?_ | with_reducible refine shb (fun _ _ => ?_) | with_reducible refine shiP (fun q : Int32 × HSt => q.2) ?_ ?_ | with_reducible refine shbP (fun q : Int32 × HSt => q.2) (fun _ _ => ?_) | (subst_vars; with_reducible rfl) | (subst_vars; with_reducible refine (q_X0_begin _ _ _).trans ?_) | (subst_vars; with_reducible refine (q_X0_body10 _ _).trans ?_) | (subst_vars; with_reducible refine (shp_sI _ _ _ _).trans ?_) | (subst_vars; with_reducible refine (shp_sJ _ _ _ _).trans ?_) | (subst_vars; with_reducible refine (shp_rI _ _ _).trans ?_) | (subst_vars; with_reducible refine shi ?_ ?_) | (subst_vars; with_reducible refine shb (fun _ _ => ?_)))
theorem v_X0_body11 (S : HSt) (_o0 : Nat) (w1 : Nat) (a2 : Int32) : Fr [(62, 1), (63, 1000)] S ((f_X0_body11 S _o0 w1 a2).2) := by
  unfold f_X0_body11
  repeat' (first | with_reducible refine frpr1 ?_ | with_reducible exact Fr.refl _ _ | with_reducible refine Fr.lP (fun q : Int32 × HSt => q.2) (fun _ _ => ?_) | with_reducible refine Fr.iteP (fun q : Int32 × HSt => q.2) ?_ ?_ | with_reducible refine Fr.l1 (fun _ _ => ?_) | with_reducible refine Fr.ite ?_ ?_ | with_reducible refine Fr.sE (by assumption) (by first | decide | simp only [List.mem_cons, List.not_mem_nil, or_false, true_or, or_true, eq_self_iff_true]) ?_ | with_reducible refine Fr.jE (by assumption) ?_ | with_reducible refine Fr.rE (by assumption) (by first | decide | simp only [List.mem_cons, List.not_mem_nil, or_false, true_or, or_true, eq_self_iff_true]) ?_ | with_reducible refine Fr.iE (by assumption) ?_ ?_ | with_reducible refine Fr.tr (w_X0_begin _ _ _ _ (by assumption)) (by first | decide | simp only [List.mem_cons, List.not_mem_nil, or_false, forall_eq_or_imp, forall_eq, true_or, or_true, and_self, eq_self_iff_true]) ?_ | with_reducible refine Fr.tr (w_X0_body10 _ _ _ (by assumption)) (by first | decide | simp only [List.mem_cons, List.not_mem_nil, or_false, forall_eq_or_imp, forall_eq, true_or, or_true, and_self, eq_self_iff_true]) ?_)
theorem w_X0_body11 (S : HSt) (_o0 : Nat) (w1 : Nat) (a2 : Int32) (r : Int32 × HSt) (e : f_X0_body11 S _o0 w1 a2 = r) : Fr [(62, 1), (63, 1000)] S r.2 := by
  rw [← e]
  exact v_X0_body11 S _o0 w1 a2
noncomputable def f_X0_body12 (S : HSt) (_o0 : Nat) (w1 : Nat) (a2 : Int32) : Int32 × HSt := bd (f_X0_begin S 62 (12 : Int32)) fun r1 => bd (f_X0_body11 r1 62 w1 a2) fun r2 => pr (((2 : Int32) * r2.1)) (r2.2)
def p_X0_body12 (S : HSt) (_o0 : Nat) (w1 : Nat) (a2 : Int32) : Prop := (p_X0_begin S 62 (12 : Int32)) ∧ (∀ r1, f_X0_begin S 62 (12 : Int32) = r1 → p_X0_body11 r1 62 w1 a2)
set_option maxRecDepth 100000 in
theorem t_X0_body12 (G : GG) (l : Launch) {S : HSt} (hM : CS S) (w1 : Nat) (a2 : Int32) (hw1 : (w1, 10, 0) ∈ cKT) (hp : p_X0_body12 S 62 w1 a2) : AM G l yX0_body12 cX0_body12 3 (some .int) (rmD 3 0 0) 0 0 [.ref 62, .ref w1, .int a2] S (FP (some (.int (f_X0_body12 S 62 w1 a2).1)) ((f_X0_body12 S 62 w1 a2).2)) := by
  obtain ⟨h0, h1⟩ := hp
  refine AM.mk (by decide) (Nat.le_of_ble_eq_true rfl) ?_
  intro p e s m below meth c hC hSt _
  refine aw_aload_n hC 0 dX0_body12_0 rfl rfl ?_
  refine aw_bipush (v := 12) hC dX0_body12_1 (by decide) ?_
  refine aw_cV1v hC hSt (t_X0_begin G l hM _ (h0)) w_9 w_20 w_21 w_22 w_23 rfl rfl (by decide +kernel) ⟨Nat.le_of_ble_eq_true rfl, Nat.le_of_ble_eq_true rfl⟩ (cs_lt 62 0 0 (by decide) hM) (cs_k 62 0 0 (by decide) hM) rfl (Nat.le_of_ble_eq_true rfl) dX0_body12_3 ⟨Nat.zero_le _, Nat.zero_le _⟩ ?_
  generalize er1 : f_X0_begin S 62 (12 : Int32) = r1
  have hM : CS r1 := CS.of (by rw [← er1]; exact q_X0_begin _ _ _) hM
  refine aw_iconst (v := 2) hC dX0_body12_6 (by decide) ?_
  refine aw_aload_n hC 0 dX0_body12_7 rfl rfl ?_
  refine aw_aload_n hC 1 dX0_body12_8 rfl rfl ?_
  refine aw_iload_n hC 2 dX0_body12_9 rfl rfl ?_
  refine aw_cV2r hC hSt (t_X0_body11 G l hM _ _ hw1 (h1 r1 er1)) w_24 w_30 w_31 w_32 w_23 rfl rfl (by decide +kernel) ⟨Nat.le_of_ble_eq_true rfl, Nat.le_of_ble_eq_true rfl⟩ (cs_lt 62 0 0 (by decide) hM) (cs_k 62 0 0 (by decide) hM) rfl (Nat.le_of_ble_eq_true rfl) dX0_body12_10 ⟨Nat.zero_le _, Nat.zero_le _⟩ ?_
  generalize er2 : f_X0_body11 r1 62 w1 a2 = r2
  have hM : CS r2.2 := CS.of (by rw [← er2]; exact q_X0_body11 _ _ _ _) hM
  refine aw_imul hC dX0_body12_13 ?_
  refine aw_iret hC dX0_body12_14 (Nat.le_refl _) (Nat.le_refl _) ?_
  exact FP.qI ((bd_eq er1).trans ((bd_eq er2).trans (rfl)))
theorem q_X0_body12 (S : HSt) (_o0 : Nat) (w1 : Nat) (a2 : Int32) : shp ((f_X0_body12 S _o0 w1 a2).2) = shp S := by
  unfold f_X0_body12
  repeat' (first | with_reducible refine shpr1 ?_ | with_reducible rfl | with_reducible refine (q_X0_begin _ _ _).trans ?_ | with_reducible refine (q_X0_body11 _ _ _ _).trans ?_ | with_reducible refine (shp_sI _ _ _ _).trans ?_ | with_reducible refine (shp_sJ _ _ _ _).trans ?_ | with_reducible refine (shp_rI _ _ _).trans ?_ | with_reducible refine shi ?_ ?_ | with_reducible refine shb (fun _ _ => ?_) | with_reducible refine shiP (fun q : Int32 × HSt => q.2) ?_ ?_ | with_reducible refine shbP (fun q : Int32 × HSt => q.2) (fun _ _ => ?_) | (subst_vars; with_reducible rfl) | (subst_vars; with_reducible refine (q_X0_begin _ _ _).trans ?_) | (subst_vars; with_reducible refine (q_X0_body11 _ _ _ _).trans ?_) | (subst_vars; with_reducible refine (shp_sI _ _ _ _).trans ?_) | (subst_vars; with_reducible refine (shp_sJ _ _ _ _).trans ?_) | (subst_vars; with_reducible refine (shp_rI _ _ _).trans ?_) | (subst_vars; with_reducible refine shi ?_ ?_) | (subst_vars; with_reducible refine shb (fun _ _ => ?_)))
theorem v_X0_body12 (S : HSt) (_o0 : Nat) (w1 : Nat) (a2 : Int32) : Fr [(62, 1), (63, 1000)] S ((f_X0_body12 S _o0 w1 a2).2) := by
  unfold f_X0_body12
  repeat' (first | with_reducible refine frpr1 ?_ | with_reducible exact Fr.refl _ _ | with_reducible refine Fr.lP (fun q : Int32 × HSt => q.2) (fun _ _ => ?_) | with_reducible refine Fr.iteP (fun q : Int32 × HSt => q.2) ?_ ?_ | with_reducible refine Fr.l1 (fun _ _ => ?_) | with_reducible refine Fr.ite ?_ ?_ | with_reducible refine Fr.sE (by assumption) (by first | decide | simp only [List.mem_cons, List.not_mem_nil, or_false, true_or, or_true, eq_self_iff_true]) ?_ | with_reducible refine Fr.jE (by assumption) ?_ | with_reducible refine Fr.rE (by assumption) (by first | decide | simp only [List.mem_cons, List.not_mem_nil, or_false, true_or, or_true, eq_self_iff_true]) ?_ | with_reducible refine Fr.iE (by assumption) ?_ ?_ | with_reducible refine Fr.tr (w_X0_begin _ _ _ _ (by assumption)) (by first | decide | simp only [List.mem_cons, List.not_mem_nil, or_false, forall_eq_or_imp, forall_eq, true_or, or_true, and_self, eq_self_iff_true]) ?_ | with_reducible refine Fr.tr (w_X0_body11 _ _ _ _ _ (by assumption)) (by first | decide | simp only [List.mem_cons, List.not_mem_nil, or_false, forall_eq_or_imp, forall_eq, true_or, or_true, and_self, eq_self_iff_true]) ?_)
theorem w_X0_body12 (S : HSt) (_o0 : Nat) (w1 : Nat) (a2 : Int32) (r : Int32 × HSt) (e : f_X0_body12 S _o0 w1 a2 = r) : Fr [(62, 1), (63, 1000)] S r.2 := by
  rw [← e]
  exact v_X0_body12 S _o0 w1 a2
noncomputable def f_X0_body13 (S : HSt) (_o0 : Nat) (w1 : Nat) (a2 : Int32) : Int32 × HSt := bd (f_X0_begin S 62 (13 : Int32)) fun r1 => bd ((f_X10_value r1 w1 (5 : Int32) a2 (1 : Int32))) fun x2 => bd (f_X0_body10 r1 62) fun r3 => pr ((r3.1 + (f_X10_value r3.2 w1 (2 : Int32) x2 (0 : Int32)))) (r3.2)
def p_X0_body13 (S : HSt) (_o0 : Nat) (w1 : Nat) (a2 : Int32) : Prop := (p_X0_begin S 62 (13 : Int32)) ∧ (∀ r1, f_X0_begin S 62 (13 : Int32) = r1 → p_X10_value r1 w1 (5 : Int32) a2 (1 : Int32)) ∧ (∀ r1, f_X0_begin S 62 (13 : Int32) = r1 → ∀ x2 : Int32, (f_X10_value r1 w1 (5 : Int32) a2 (1 : Int32)) = x2 → p_X0_body10 r1 62) ∧ (∀ r1, f_X0_begin S 62 (13 : Int32) = r1 → ∀ x2 : Int32, (f_X10_value r1 w1 (5 : Int32) a2 (1 : Int32)) = x2 → ∀ r3, f_X0_body10 r1 62 = r3 → p_X10_value r3.2 w1 (2 : Int32) x2 (0 : Int32))
set_option maxRecDepth 100000 in
theorem t_X0_body13 (G : GG) (l : Launch) {S : HSt} (hM : CS S) (w1 : Nat) (a2 : Int32) (hw1 : (w1, 10, 0) ∈ cKT) (hp : p_X0_body13 S 62 w1 a2) : AM G l yX0_body13 cX0_body13 4 (some .int) (rmD 2 0 0) 0 0 [.ref 62, .ref w1, .int a2] S (FP (some (.int (f_X0_body13 S 62 w1 a2).1)) ((f_X0_body13 S 62 w1 a2).2)) := by
  obtain ⟨h0, h1, h2, h3⟩ := hp
  refine AM.mk (by decide) (Nat.le_of_ble_eq_true rfl) ?_
  intro p e s m below meth c hC hSt _
  refine aw_aload_n hC 0 dX0_body13_0 rfl rfl ?_
  refine aw_bipush (v := 13) hC dX0_body13_1 (by decide) ?_
  refine aw_cV1v hC hSt (t_X0_begin G l hM _ (h0)) w_9 w_20 w_21 w_22 w_23 rfl rfl (by decide +kernel) ⟨Nat.le_of_ble_eq_true rfl, Nat.le_of_ble_eq_true rfl⟩ (cs_lt 62 0 0 (by decide) hM) (cs_k 62 0 0 (by decide) hM) rfl (Nat.le_of_ble_eq_true rfl) dX0_body13_3 ⟨Nat.zero_le _, Nat.zero_le _⟩ ?_
  generalize er1 : f_X0_begin S 62 (13 : Int32) = r1
  have hM : CS r1 := CS.of (by rw [← er1]; exact q_X0_begin _ _ _) hM
  refine aw_aload_n hC 1 dX0_body13_6 rfl rfl ?_
  refine aw_iconst (v := 5) hC dX0_body13_7 (by decide) ?_
  refine aw_iload_n hC 2 dX0_body13_8 rfl rfl ?_
  refine aw_iconst (v := 1) hC dX0_body13_9 (by decide) ?_
  refine aw_cV3r hC hSt (t_X10_value G l hM _ _ _ _ hw1 (h1 r1 er1)) w_10 w_28 w_16 w_17 w_18 rfl rfl (by decide +kernel) ⟨Nat.le_of_ble_eq_true rfl, Nat.le_of_ble_eq_true rfl⟩ (cs_lt w1 10 0 hw1 hM) (cs_k w1 10 0 hw1 hM) rfl (Nat.le_of_ble_eq_true rfl) dX0_body13_10 ⟨Nat.zero_le _, Nat.zero_le _⟩ ?_
  refine aw_istore_n hC [(3, .int _), (0, .ref 62), (1, .ref w1), (2, .int _)] dX0_body13_13 rfl (by decide) rfl ?_
  generalize ex2 : (f_X10_value r1 w1 (5 : Int32) a2 (1 : Int32)) = x2
  refine aw_aload_n hC 1 dX0_body13_14 rfl rfl ?_
  refine aw_cV0r hC hSt (t_X0_body10 G l hM  (h2 r1 er1 x2 ex2)) w_19 w_25 w_26 w_27 w_23 rfl rfl (by decide +kernel) ⟨Nat.le_of_ble_eq_true rfl, Nat.le_of_ble_eq_true rfl⟩ (cs_lt 62 0 0 (by decide) hM) (cs_k 62 0 0 (by decide) hM) rfl (Nat.le_of_ble_eq_true rfl) dX0_body13_15 ⟨Nat.zero_le _, Nat.zero_le _⟩ ?_
  generalize er3 : f_X0_body10 r1 62 = r3
  have hM : CS r3.2 := CS.of (by rw [← er3]; exact q_X0_body10 _ _) hM
  refine aw_aload_n hC 2 dX0_body13_18 rfl rfl ?_
  refine aw_iconst (v := 2) hC dX0_body13_19 (by decide) ?_
  refine aw_iload_n hC 0 dX0_body13_20 rfl rfl ?_
  refine aw_iconst (v := 0) hC dX0_body13_21 (by decide) ?_
  refine aw_cV3r hC hSt (t_X10_value G l hM _ _ _ _ hw1 (h3 r1 er1 x2 ex2 r3 er3)) w_10 w_28 w_16 w_17 w_18 rfl rfl (by decide +kernel) ⟨Nat.le_of_ble_eq_true rfl, Nat.le_of_ble_eq_true rfl⟩ (cs_lt w1 10 0 hw1 hM) (cs_k w1 10 0 hw1 hM) rfl (Nat.le_of_ble_eq_true rfl) dX0_body13_22 ⟨Nat.zero_le _, Nat.zero_le _⟩ ?_
  refine aw_iadd hC dX0_body13_25 ?_
  refine aw_iret hC dX0_body13_26 (Nat.le_refl _) (Nat.le_refl _) ?_
  exact FP.qI ((bd_eq er1).trans ((bd_eq ex2).trans ((bd_eq er3).trans (rfl))))
theorem q_X0_body13 (S : HSt) (_o0 : Nat) (w1 : Nat) (a2 : Int32) : shp ((f_X0_body13 S _o0 w1 a2).2) = shp S := by
  unfold f_X0_body13
  repeat' (first | with_reducible refine shpr1 ?_ | with_reducible rfl | with_reducible refine (q_X0_begin _ _ _).trans ?_ | with_reducible refine (q_X0_body10 _ _).trans ?_ | with_reducible refine (shp_sI _ _ _ _).trans ?_ | with_reducible refine (shp_sJ _ _ _ _).trans ?_ | with_reducible refine (shp_rI _ _ _).trans ?_ | with_reducible refine shi ?_ ?_ | with_reducible refine shb (fun _ _ => ?_) | with_reducible refine shiP (fun q : Int32 × HSt => q.2) ?_ ?_ | with_reducible refine shbP (fun q : Int32 × HSt => q.2) (fun _ _ => ?_) | (subst_vars; with_reducible rfl) | (subst_vars; with_reducible refine (q_X0_begin _ _ _).trans ?_) | (subst_vars; with_reducible refine (q_X0_body10 _ _).trans ?_) | (subst_vars; with_reducible refine (shp_sI _ _ _ _).trans ?_) | (subst_vars; with_reducible refine (shp_sJ _ _ _ _).trans ?_) | (subst_vars; with_reducible refine (shp_rI _ _ _).trans ?_) | (subst_vars; with_reducible refine shi ?_ ?_) | (subst_vars; with_reducible refine shb (fun _ _ => ?_)))
theorem v_X0_body13 (S : HSt) (_o0 : Nat) (w1 : Nat) (a2 : Int32) : Fr [(62, 1), (63, 1000)] S ((f_X0_body13 S _o0 w1 a2).2) := by
  unfold f_X0_body13
  repeat' (first | with_reducible refine frpr1 ?_ | with_reducible exact Fr.refl _ _ | with_reducible refine Fr.lP (fun q : Int32 × HSt => q.2) (fun _ _ => ?_) | with_reducible refine Fr.iteP (fun q : Int32 × HSt => q.2) ?_ ?_ | with_reducible refine Fr.l1 (fun _ _ => ?_) | with_reducible refine Fr.ite ?_ ?_ | with_reducible refine Fr.sE (by assumption) (by first | decide | simp only [List.mem_cons, List.not_mem_nil, or_false, true_or, or_true, eq_self_iff_true]) ?_ | with_reducible refine Fr.jE (by assumption) ?_ | with_reducible refine Fr.rE (by assumption) (by first | decide | simp only [List.mem_cons, List.not_mem_nil, or_false, true_or, or_true, eq_self_iff_true]) ?_ | with_reducible refine Fr.iE (by assumption) ?_ ?_ | with_reducible refine Fr.tr (w_X0_begin _ _ _ _ (by assumption)) (by first | decide | simp only [List.mem_cons, List.not_mem_nil, or_false, forall_eq_or_imp, forall_eq, true_or, or_true, and_self, eq_self_iff_true]) ?_ | with_reducible refine Fr.tr (w_X0_body10 _ _ _ (by assumption)) (by first | decide | simp only [List.mem_cons, List.not_mem_nil, or_false, forall_eq_or_imp, forall_eq, true_or, or_true, and_self, eq_self_iff_true]) ?_)
theorem w_X0_body13 (S : HSt) (_o0 : Nat) (w1 : Nat) (a2 : Int32) (r : Int32 × HSt) (e : f_X0_body13 S _o0 w1 a2 = r) : Fr [(62, 1), (63, 1000)] S r.2 := by
  rw [← e]
  exact v_X0_body13 S _o0 w1 a2
noncomputable def f_X0_body20 (S : HSt) (_o0 : Nat) (a1 : Int32) : Int32 × HSt := bd (f_X0_begin S 62 (20 : Int32)) fun r1 => pr (a1) (r1)
def p_X0_body20 (S : HSt) (_o0 : Nat) (a1 : Int32) : Prop := (p_X0_begin S 62 (20 : Int32))
set_option maxRecDepth 100000 in
theorem t_X0_body20 (G : GG) (l : Launch) {S : HSt} (hM : CS S) (a1 : Int32)  (hp : p_X0_body20 S 62 a1) : AM G l yX0_body20 cX0_body20 2 (some .int) (rmD 1 0 0) 0 0 [.ref 62, .int a1] S (FP (some (.int (f_X0_body20 S 62 a1).1)) ((f_X0_body20 S 62 a1).2)) := by
  have h0 := hp
  unfold p_X0_body20 at h0
  refine AM.mk (by decide) (Nat.le_of_ble_eq_true rfl) ?_
  intro p e s m below meth c hC hSt _
  refine aw_aload_n hC 0 dX0_body20_0 rfl rfl ?_
  refine aw_bipush (v := 20) hC dX0_body20_1 (by decide) ?_
  refine aw_cV1v hC hSt (t_X0_begin G l hM _ (h0)) w_9 w_20 w_21 w_22 w_23 rfl rfl (by decide +kernel) ⟨Nat.le_of_ble_eq_true rfl, Nat.le_of_ble_eq_true rfl⟩ (cs_lt 62 0 0 (by decide) hM) (cs_k 62 0 0 (by decide) hM) rfl (Nat.le_of_ble_eq_true rfl) dX0_body20_3 ⟨Nat.zero_le _, Nat.zero_le _⟩ ?_
  generalize er1 : f_X0_begin S 62 (20 : Int32) = r1
  have hM : CS r1 := CS.of (by rw [← er1]; exact q_X0_begin _ _ _) hM
  refine aw_iload_n hC 1 dX0_body20_6 rfl rfl ?_
  refine aw_iret hC dX0_body20_7 (Nat.le_refl _) (Nat.le_refl _) ?_
  exact FP.qI ((bd_eq er1).trans (rfl))
theorem q_X0_body20 (S : HSt) (_o0 : Nat) (a1 : Int32) : shp ((f_X0_body20 S _o0 a1).2) = shp S := by
  unfold f_X0_body20
  repeat' (first | with_reducible refine shpr1 ?_ | with_reducible rfl | with_reducible refine (q_X0_begin _ _ _).trans ?_ | with_reducible refine (shp_sI _ _ _ _).trans ?_ | with_reducible refine (shp_sJ _ _ _ _).trans ?_ | with_reducible refine (shp_rI _ _ _).trans ?_ | with_reducible refine shi ?_ ?_ | with_reducible refine shb (fun _ _ => ?_) | with_reducible refine shiP (fun q : Int32 × HSt => q.2) ?_ ?_ | with_reducible refine shbP (fun q : Int32 × HSt => q.2) (fun _ _ => ?_) | (subst_vars; with_reducible rfl) | (subst_vars; with_reducible refine (q_X0_begin _ _ _).trans ?_) | (subst_vars; with_reducible refine (shp_sI _ _ _ _).trans ?_) | (subst_vars; with_reducible refine (shp_sJ _ _ _ _).trans ?_) | (subst_vars; with_reducible refine (shp_rI _ _ _).trans ?_) | (subst_vars; with_reducible refine shi ?_ ?_) | (subst_vars; with_reducible refine shb (fun _ _ => ?_)))
theorem v_X0_body20 (S : HSt) (_o0 : Nat) (a1 : Int32) : Fr [(62, 1), (63, 1000)] S ((f_X0_body20 S _o0 a1).2) := by
  unfold f_X0_body20
  repeat' (first | with_reducible refine frpr1 ?_ | with_reducible exact Fr.refl _ _ | with_reducible refine Fr.lP (fun q : Int32 × HSt => q.2) (fun _ _ => ?_) | with_reducible refine Fr.iteP (fun q : Int32 × HSt => q.2) ?_ ?_ | with_reducible refine Fr.l1 (fun _ _ => ?_) | with_reducible refine Fr.ite ?_ ?_ | with_reducible refine Fr.sE (by assumption) (by first | decide | simp only [List.mem_cons, List.not_mem_nil, or_false, true_or, or_true, eq_self_iff_true]) ?_ | with_reducible refine Fr.jE (by assumption) ?_ | with_reducible refine Fr.rE (by assumption) (by first | decide | simp only [List.mem_cons, List.not_mem_nil, or_false, true_or, or_true, eq_self_iff_true]) ?_ | with_reducible refine Fr.iE (by assumption) ?_ ?_ | with_reducible refine Fr.tr (w_X0_begin _ _ _ _ (by assumption)) (by first | decide | simp only [List.mem_cons, List.not_mem_nil, or_false, forall_eq_or_imp, forall_eq, true_or, or_true, and_self, eq_self_iff_true]) ?_)
theorem w_X0_body20 (S : HSt) (_o0 : Nat) (a1 : Int32) (r : Int32 × HSt) (e : f_X0_body20 S _o0 a1 = r) : Fr [(62, 1), (63, 1000)] S r.2 := by
  rw [← e]
  exact v_X0_body20 S _o0 a1
noncomputable def f_X0_body24 (S : HSt) (_o0 : Nat) (a1 : Int32) : Int32 × HSt := bd (f_X0_begin S 62 (24 : Int32)) fun r1 => bd (f_X0_body20 r1 62 a1) fun r2 => pr ((r2.1 + (50 : Int32))) (r2.2)
def p_X0_body24 (S : HSt) (_o0 : Nat) (a1 : Int32) : Prop := (p_X0_begin S 62 (24 : Int32)) ∧ (∀ r1, f_X0_begin S 62 (24 : Int32) = r1 → p_X0_body20 r1 62 a1)
set_option maxRecDepth 100000 in
theorem t_X0_body24 (G : GG) (l : Launch) {S : HSt} (hM : CS S) (a1 : Int32)  (hp : p_X0_body24 S 62 a1) : AM G l yX0_body24 cX0_body24 2 (some .int) (rmD 2 0 0) 0 0 [.ref 62, .int a1] S (FP (some (.int (f_X0_body24 S 62 a1).1)) ((f_X0_body24 S 62 a1).2)) := by
  obtain ⟨h0, h1⟩ := hp
  refine AM.mk (by decide) (Nat.le_of_ble_eq_true rfl) ?_
  intro p e s m below meth c hC hSt _
  refine aw_aload_n hC 0 dX0_body24_0 rfl rfl ?_
  refine aw_bipush (v := 24) hC dX0_body24_1 (by decide) ?_
  refine aw_cV1v hC hSt (t_X0_begin G l hM _ (h0)) w_9 w_20 w_21 w_22 w_23 rfl rfl (by decide +kernel) ⟨Nat.le_of_ble_eq_true rfl, Nat.le_of_ble_eq_true rfl⟩ (cs_lt 62 0 0 (by decide) hM) (cs_k 62 0 0 (by decide) hM) rfl (Nat.le_of_ble_eq_true rfl) dX0_body24_3 ⟨Nat.zero_le _, Nat.zero_le _⟩ ?_
  generalize er1 : f_X0_begin S 62 (24 : Int32) = r1
  have hM : CS r1 := CS.of (by rw [← er1]; exact q_X0_begin _ _ _) hM
  refine aw_aload_n hC 0 dX0_body24_6 rfl rfl ?_
  refine aw_iload_n hC 1 dX0_body24_7 rfl rfl ?_
  refine aw_cV1r hC hSt (t_X0_body20 G l hM _ (h1 r1 er1)) w_34 w_36 w_37 w_38 w_23 rfl rfl (by decide +kernel) ⟨Nat.le_of_ble_eq_true rfl, Nat.le_of_ble_eq_true rfl⟩ (cs_lt 62 0 0 (by decide) hM) (cs_k 62 0 0 (by decide) hM) rfl (Nat.le_of_ble_eq_true rfl) dX0_body24_8 ⟨Nat.zero_le _, Nat.zero_le _⟩ ?_
  generalize er2 : f_X0_body20 r1 62 a1 = r2
  have hM : CS r2.2 := CS.of (by rw [← er2]; exact q_X0_body20 _ _ _) hM
  refine aw_bipush (v := 50) hC dX0_body24_11 (by decide) ?_
  refine aw_iadd hC dX0_body24_13 ?_
  refine aw_iret hC dX0_body24_14 (Nat.le_refl _) (Nat.le_refl _) ?_
  exact FP.qI ((bd_eq er1).trans ((bd_eq er2).trans (rfl)))
theorem q_X0_body24 (S : HSt) (_o0 : Nat) (a1 : Int32) : shp ((f_X0_body24 S _o0 a1).2) = shp S := by
  unfold f_X0_body24
  repeat' (first | with_reducible refine shpr1 ?_ | with_reducible rfl | with_reducible refine (q_X0_begin _ _ _).trans ?_ | with_reducible refine (q_X0_body20 _ _ _).trans ?_ | with_reducible refine (shp_sI _ _ _ _).trans ?_ | with_reducible refine (shp_sJ _ _ _ _).trans ?_ | with_reducible refine (shp_rI _ _ _).trans ?_ | with_reducible refine shi ?_ ?_ | with_reducible refine shb (fun _ _ => ?_) | with_reducible refine shiP (fun q : Int32 × HSt => q.2) ?_ ?_ | with_reducible refine shbP (fun q : Int32 × HSt => q.2) (fun _ _ => ?_) | (subst_vars; with_reducible rfl) | (subst_vars; with_reducible refine (q_X0_begin _ _ _).trans ?_) | (subst_vars; with_reducible refine (q_X0_body20 _ _ _).trans ?_) | (subst_vars; with_reducible refine (shp_sI _ _ _ _).trans ?_) | (subst_vars; with_reducible refine (shp_sJ _ _ _ _).trans ?_) | (subst_vars; with_reducible refine (shp_rI _ _ _).trans ?_) | (subst_vars; with_reducible refine shi ?_ ?_) | (subst_vars; with_reducible refine shb (fun _ _ => ?_)))
theorem v_X0_body24 (S : HSt) (_o0 : Nat) (a1 : Int32) : Fr [(62, 1), (63, 1000)] S ((f_X0_body24 S _o0 a1).2) := by
  unfold f_X0_body24
  repeat' (first | with_reducible refine frpr1 ?_ | with_reducible exact Fr.refl _ _ | with_reducible refine Fr.lP (fun q : Int32 × HSt => q.2) (fun _ _ => ?_) | with_reducible refine Fr.iteP (fun q : Int32 × HSt => q.2) ?_ ?_ | with_reducible refine Fr.l1 (fun _ _ => ?_) | with_reducible refine Fr.ite ?_ ?_ | with_reducible refine Fr.sE (by assumption) (by first | decide | simp only [List.mem_cons, List.not_mem_nil, or_false, true_or, or_true, eq_self_iff_true]) ?_ | with_reducible refine Fr.jE (by assumption) ?_ | with_reducible refine Fr.rE (by assumption) (by first | decide | simp only [List.mem_cons, List.not_mem_nil, or_false, true_or, or_true, eq_self_iff_true]) ?_ | with_reducible refine Fr.iE (by assumption) ?_ ?_ | with_reducible refine Fr.tr (w_X0_begin _ _ _ _ (by assumption)) (by first | decide | simp only [List.mem_cons, List.not_mem_nil, or_false, forall_eq_or_imp, forall_eq, true_or, or_true, and_self, eq_self_iff_true]) ?_ | with_reducible refine Fr.tr (w_X0_body20 _ _ _ _ (by assumption)) (by first | decide | simp only [List.mem_cons, List.not_mem_nil, or_false, forall_eq_or_imp, forall_eq, true_or, or_true, and_self, eq_self_iff_true]) ?_)
theorem w_X0_body24 (S : HSt) (_o0 : Nat) (a1 : Int32) (r : Int32 × HSt) (e : f_X0_body24 S _o0 a1 = r) : Fr [(62, 1), (63, 1000)] S r.2 := by
  rw [← e]
  exact v_X0_body24 S _o0 a1
noncomputable def f_X0_body14 (S : HSt) (_o0 : Nat) (w1 : Nat) (a2 : Int32) : Int32 × HSt := bd (f_X0_begin S 62 (14 : Int32)) fun r1 => bd (f_X0_body13 r1 62 w1 a2) fun r2 => bd (r2.1) fun x3 => bd (f_X0_body24 r2.2 62 a2) fun r4 => pr ((x3 - r4.1)) (r4.2)
def p_X0_body14 (S : HSt) (_o0 : Nat) (w1 : Nat) (a2 : Int32) : Prop := (p_X0_begin S 62 (14 : Int32)) ∧ (∀ r1, f_X0_begin S 62 (14 : Int32) = r1 → p_X0_body13 r1 62 w1 a2) ∧ (∀ r1, f_X0_begin S 62 (14 : Int32) = r1 → ∀ r2, f_X0_body13 r1 62 w1 a2 = r2 → ∀ x3 : Int32, r2.1 = x3 → p_X0_body24 r2.2 62 a2)
set_option maxRecDepth 100000 in
theorem t_X0_body14 (G : GG) (l : Launch) {S : HSt} (hM : CS S) (w1 : Nat) (a2 : Int32) (hw1 : (w1, 10, 0) ∈ cKT) (hp : p_X0_body14 S 62 w1 a2) : AM G l yX0_body14 cX0_body14 4 (some .int) (rmD 3 0 0) 0 0 [.ref 62, .ref w1, .int a2] S (FP (some (.int (f_X0_body14 S 62 w1 a2).1)) ((f_X0_body14 S 62 w1 a2).2)) := by
  obtain ⟨h0, h1, h2⟩ := hp
  refine AM.mk (by decide) (Nat.le_of_ble_eq_true rfl) ?_
  intro p e s m below meth c hC hSt _
  refine aw_aload_n hC 0 dX0_body14_0 rfl rfl ?_
  refine aw_bipush (v := 14) hC dX0_body14_1 (by decide) ?_
  refine aw_cV1v hC hSt (t_X0_begin G l hM _ (h0)) w_9 w_20 w_21 w_22 w_23 rfl rfl (by decide +kernel) ⟨Nat.le_of_ble_eq_true rfl, Nat.le_of_ble_eq_true rfl⟩ (cs_lt 62 0 0 (by decide) hM) (cs_k 62 0 0 (by decide) hM) rfl (Nat.le_of_ble_eq_true rfl) dX0_body14_3 ⟨Nat.zero_le _, Nat.zero_le _⟩ ?_
  generalize er1 : f_X0_begin S 62 (14 : Int32) = r1
  have hM : CS r1 := CS.of (by rw [← er1]; exact q_X0_begin _ _ _) hM
  refine aw_aload_n hC 0 dX0_body14_6 rfl rfl ?_
  refine aw_aload_n hC 1 dX0_body14_7 rfl rfl ?_
  refine aw_iload_n hC 2 dX0_body14_8 rfl rfl ?_
  refine aw_cV2r hC hSt (t_X0_body13 G l hM _ _ hw1 (h1 r1 er1)) w_33 w_39 w_40 w_41 w_23 rfl rfl (by decide +kernel) ⟨Nat.le_of_ble_eq_true rfl, Nat.le_of_ble_eq_true rfl⟩ (cs_lt 62 0 0 (by decide) hM) (cs_k 62 0 0 (by decide) hM) rfl (Nat.le_of_ble_eq_true rfl) dX0_body14_9 ⟨Nat.zero_le _, Nat.zero_le _⟩ ?_
  generalize er2 : f_X0_body13 r1 62 w1 a2 = r2
  have hM : CS r2.2 := CS.of (by rw [← er2]; exact q_X0_body13 _ _ _ _) hM
  refine aw_istore_n hC [(3, .int _), (0, .ref 62), (1, .ref w1), (2, .int _)] dX0_body14_12 rfl (by decide) rfl ?_
  generalize ex3 : r2.1 = x3
  refine aw_iload_n hC 0 dX0_body14_13 rfl rfl ?_
  refine aw_aload_n hC 1 dX0_body14_14 rfl rfl ?_
  refine aw_iload_n hC 3 dX0_body14_15 rfl rfl ?_
  refine aw_cV1r hC hSt (t_X0_body24 G l hM _ (h2 r1 er1 r2 er2 x3 ex3)) w_35 w_42 w_43 w_44 w_23 rfl rfl (by decide +kernel) ⟨Nat.le_of_ble_eq_true rfl, Nat.le_of_ble_eq_true rfl⟩ (cs_lt 62 0 0 (by decide) hM) (cs_k 62 0 0 (by decide) hM) rfl (Nat.le_of_ble_eq_true rfl) dX0_body14_16 ⟨Nat.zero_le _, Nat.zero_le _⟩ ?_
  generalize er4 : f_X0_body24 r2.2 62 a2 = r4
  have hM : CS r4.2 := CS.of (by rw [← er4]; exact q_X0_body24 _ _ _) hM
  refine aw_isub hC dX0_body14_19 ?_
  refine aw_iret hC dX0_body14_20 (Nat.le_refl _) (Nat.le_refl _) ?_
  exact FP.qI ((bd_eq er1).trans ((bd_eq er2).trans ((bd_eq ex3).trans ((bd_eq er4).trans (rfl)))))
theorem q_X0_body14 (S : HSt) (_o0 : Nat) (w1 : Nat) (a2 : Int32) : shp ((f_X0_body14 S _o0 w1 a2).2) = shp S := by
  unfold f_X0_body14
  repeat' (first | with_reducible refine shpr1 ?_ | with_reducible rfl | with_reducible refine (q_X0_begin _ _ _).trans ?_ | with_reducible refine (q_X0_body13 _ _ _ _).trans ?_ | with_reducible refine (q_X0_body24 _ _ _).trans ?_ | with_reducible refine (shp_sI _ _ _ _).trans ?_ | with_reducible refine (shp_sJ _ _ _ _).trans ?_ | with_reducible refine (shp_rI _ _ _).trans ?_ | with_reducible refine shi ?_ ?_ | with_reducible refine shb (fun _ _ => ?_) | with_reducible refine shiP (fun q : Int32 × HSt => q.2) ?_ ?_ | with_reducible refine shbP (fun q : Int32 × HSt => q.2) (fun _ _ => ?_) | (subst_vars; with_reducible rfl) | (subst_vars; with_reducible refine (q_X0_begin _ _ _).trans ?_) | (subst_vars; with_reducible refine (q_X0_body13 _ _ _ _).trans ?_) | (subst_vars; with_reducible refine (q_X0_body24 _ _ _).trans ?_) | (subst_vars; with_reducible refine (shp_sI _ _ _ _).trans ?_) | (subst_vars; with_reducible refine (shp_sJ _ _ _ _).trans ?_) | (subst_vars; with_reducible refine (shp_rI _ _ _).trans ?_) | (subst_vars; with_reducible refine shi ?_ ?_) | (subst_vars; with_reducible refine shb (fun _ _ => ?_)))
theorem v_X0_body14 (S : HSt) (_o0 : Nat) (w1 : Nat) (a2 : Int32) : Fr [(62, 1), (63, 1000)] S ((f_X0_body14 S _o0 w1 a2).2) := by
  unfold f_X0_body14
  repeat' (first | with_reducible refine frpr1 ?_ | with_reducible exact Fr.refl _ _ | with_reducible refine Fr.lP (fun q : Int32 × HSt => q.2) (fun _ _ => ?_) | with_reducible refine Fr.iteP (fun q : Int32 × HSt => q.2) ?_ ?_ | with_reducible refine Fr.l1 (fun _ _ => ?_) | with_reducible refine Fr.ite ?_ ?_ | with_reducible refine Fr.sE (by assumption) (by first | decide | simp only [List.mem_cons, List.not_mem_nil, or_false, true_or, or_true, eq_self_iff_true]) ?_ | with_reducible refine Fr.jE (by assumption) ?_ | with_reducible refine Fr.rE (by assumption) (by first | decide | simp only [List.mem_cons, List.not_mem_nil, or_false, true_or, or_true, eq_self_iff_true]) ?_ | with_reducible refine Fr.iE (by assumption) ?_ ?_ | with_reducible refine Fr.tr (w_X0_begin _ _ _ _ (by assumption)) (by first | decide | simp only [List.mem_cons, List.not_mem_nil, or_false, forall_eq_or_imp, forall_eq, true_or, or_true, and_self, eq_self_iff_true]) ?_ | with_reducible refine Fr.tr (w_X0_body13 _ _ _ _ _ (by assumption)) (by first | decide | simp only [List.mem_cons, List.not_mem_nil, or_false, forall_eq_or_imp, forall_eq, true_or, or_true, and_self, eq_self_iff_true]) ?_ | with_reducible refine Fr.tr (w_X0_body24 _ _ _ _ (by assumption)) (by first | decide | simp only [List.mem_cons, List.not_mem_nil, or_false, forall_eq_or_imp, forall_eq, true_or, or_true, and_self, eq_self_iff_true]) ?_)
theorem w_X0_body14 (S : HSt) (_o0 : Nat) (w1 : Nat) (a2 : Int32) (r : Int32 × HSt) (e : f_X0_body14 S _o0 w1 a2 = r) : Fr [(62, 1), (63, 1000)] S r.2 := by
  rw [← e]
  exact v_X0_body14 S _o0 w1 a2
noncomputable def f_X0_body21 (S : HSt) (_o0 : Nat) (w1 : Nat) (a2 : Int32) : Int32 × HSt := bd (f_X0_begin S 62 (21 : Int32)) fun r1 => bd (f_X0_body20 r1 62 a2) fun r2 => pr ((r2.1 + (f_X10_value r2.2 w1 (5 : Int32) a2 (3 : Int32)))) (r2.2)
def p_X0_body21 (S : HSt) (_o0 : Nat) (w1 : Nat) (a2 : Int32) : Prop := (p_X0_begin S 62 (21 : Int32)) ∧ (∀ r1, f_X0_begin S 62 (21 : Int32) = r1 → p_X0_body20 r1 62 a2) ∧ (∀ r1, f_X0_begin S 62 (21 : Int32) = r1 → ∀ r2, f_X0_body20 r1 62 a2 = r2 → p_X10_value r2.2 w1 (5 : Int32) a2 (3 : Int32))
set_option maxRecDepth 100000 in
theorem t_X0_body21 (G : GG) (l : Launch) {S : HSt} (hM : CS S) (w1 : Nat) (a2 : Int32) (hw1 : (w1, 10, 0) ∈ cKT) (hp : p_X0_body21 S 62 w1 a2) : AM G l yX0_body21 cX0_body21 3 (some .int) (rmD 2 0 0) 0 0 [.ref 62, .ref w1, .int a2] S (FP (some (.int (f_X0_body21 S 62 w1 a2).1)) ((f_X0_body21 S 62 w1 a2).2)) := by
  obtain ⟨h0, h1, h2⟩ := hp
  refine AM.mk (by decide) (Nat.le_of_ble_eq_true rfl) ?_
  intro p e s m below meth c hC hSt _
  refine aw_aload_n hC 0 dX0_body21_0 rfl rfl ?_
  refine aw_bipush (v := 21) hC dX0_body21_1 (by decide) ?_
  refine aw_cV1v hC hSt (t_X0_begin G l hM _ (h0)) w_9 w_20 w_21 w_22 w_23 rfl rfl (by decide +kernel) ⟨Nat.le_of_ble_eq_true rfl, Nat.le_of_ble_eq_true rfl⟩ (cs_lt 62 0 0 (by decide) hM) (cs_k 62 0 0 (by decide) hM) rfl (Nat.le_of_ble_eq_true rfl) dX0_body21_3 ⟨Nat.zero_le _, Nat.zero_le _⟩ ?_
  generalize er1 : f_X0_begin S 62 (21 : Int32) = r1
  have hM : CS r1 := CS.of (by rw [← er1]; exact q_X0_begin _ _ _) hM
  refine aw_aload_n hC 0 dX0_body21_6 rfl rfl ?_
  refine aw_iload_n hC 2 dX0_body21_7 rfl rfl ?_
  refine aw_cV1r hC hSt (t_X0_body20 G l hM _ (h1 r1 er1)) w_34 w_36 w_37 w_38 w_23 rfl rfl (by decide +kernel) ⟨Nat.le_of_ble_eq_true rfl, Nat.le_of_ble_eq_true rfl⟩ (cs_lt 62 0 0 (by decide) hM) (cs_k 62 0 0 (by decide) hM) rfl (Nat.le_of_ble_eq_true rfl) dX0_body21_8 ⟨Nat.zero_le _, Nat.zero_le _⟩ ?_
  generalize er2 : f_X0_body20 r1 62 a2 = r2
  have hM : CS r2.2 := CS.of (by rw [← er2]; exact q_X0_body20 _ _ _) hM
  refine aw_aload_n hC 1 dX0_body21_11 rfl rfl ?_
  refine aw_iconst (v := 5) hC dX0_body21_12 (by decide) ?_
  refine aw_iload_n hC 2 dX0_body21_13 rfl rfl ?_
  refine aw_iconst (v := 3) hC dX0_body21_14 (by decide) ?_
  refine aw_cV3r hC hSt (t_X10_value G l hM _ _ _ _ hw1 (h2 r1 er1 r2 er2)) w_10 w_28 w_16 w_17 w_18 rfl rfl (by decide +kernel) ⟨Nat.le_of_ble_eq_true rfl, Nat.le_of_ble_eq_true rfl⟩ (cs_lt w1 10 0 hw1 hM) (cs_k w1 10 0 hw1 hM) rfl (Nat.le_of_ble_eq_true rfl) dX0_body21_15 ⟨Nat.zero_le _, Nat.zero_le _⟩ ?_
  refine aw_iadd hC dX0_body21_18 ?_
  refine aw_iret hC dX0_body21_19 (Nat.le_refl _) (Nat.le_refl _) ?_
  exact FP.qI ((bd_eq er1).trans ((bd_eq er2).trans (rfl)))
theorem q_X0_body21 (S : HSt) (_o0 : Nat) (w1 : Nat) (a2 : Int32) : shp ((f_X0_body21 S _o0 w1 a2).2) = shp S := by
  unfold f_X0_body21
  repeat' (first | with_reducible refine shpr1 ?_ | with_reducible rfl | with_reducible refine (q_X0_begin _ _ _).trans ?_ | with_reducible refine (q_X0_body20 _ _ _).trans ?_ | with_reducible refine (shp_sI _ _ _ _).trans ?_ | with_reducible refine (shp_sJ _ _ _ _).trans ?_ | with_reducible refine (shp_rI _ _ _).trans ?_ | with_reducible refine shi ?_ ?_ | with_reducible refine shb (fun _ _ => ?_) | with_reducible refine shiP (fun q : Int32 × HSt => q.2) ?_ ?_ | with_reducible refine shbP (fun q : Int32 × HSt => q.2) (fun _ _ => ?_) | (subst_vars; with_reducible rfl) | (subst_vars; with_reducible refine (q_X0_begin _ _ _).trans ?_) | (subst_vars; with_reducible refine (q_X0_body20 _ _ _).trans ?_) | (subst_vars; with_reducible refine (shp_sI _ _ _ _).trans ?_) | (subst_vars; with_reducible refine (shp_sJ _ _ _ _).trans ?_) | (subst_vars; with_reducible refine (shp_rI _ _ _).trans ?_) | (subst_vars; with_reducible refine shi ?_ ?_) | (subst_vars; with_reducible refine shb (fun _ _ => ?_)))
theorem v_X0_body21 (S : HSt) (_o0 : Nat) (w1 : Nat) (a2 : Int32) : Fr [(62, 1), (63, 1000)] S ((f_X0_body21 S _o0 w1 a2).2) := by
  unfold f_X0_body21
  repeat' (first | with_reducible refine frpr1 ?_ | with_reducible exact Fr.refl _ _ | with_reducible refine Fr.lP (fun q : Int32 × HSt => q.2) (fun _ _ => ?_) | with_reducible refine Fr.iteP (fun q : Int32 × HSt => q.2) ?_ ?_ | with_reducible refine Fr.l1 (fun _ _ => ?_) | with_reducible refine Fr.ite ?_ ?_ | with_reducible refine Fr.sE (by assumption) (by first | decide | simp only [List.mem_cons, List.not_mem_nil, or_false, true_or, or_true, eq_self_iff_true]) ?_ | with_reducible refine Fr.jE (by assumption) ?_ | with_reducible refine Fr.rE (by assumption) (by first | decide | simp only [List.mem_cons, List.not_mem_nil, or_false, true_or, or_true, eq_self_iff_true]) ?_ | with_reducible refine Fr.iE (by assumption) ?_ ?_ | with_reducible refine Fr.tr (w_X0_begin _ _ _ _ (by assumption)) (by first | decide | simp only [List.mem_cons, List.not_mem_nil, or_false, forall_eq_or_imp, forall_eq, true_or, or_true, and_self, eq_self_iff_true]) ?_ | with_reducible refine Fr.tr (w_X0_body20 _ _ _ _ (by assumption)) (by first | decide | simp only [List.mem_cons, List.not_mem_nil, or_false, forall_eq_or_imp, forall_eq, true_or, or_true, and_self, eq_self_iff_true]) ?_)
theorem w_X0_body21 (S : HSt) (_o0 : Nat) (w1 : Nat) (a2 : Int32) (r : Int32 × HSt) (e : f_X0_body21 S _o0 w1 a2 = r) : Fr [(62, 1), (63, 1000)] S r.2 := by
  rw [← e]
  exact v_X0_body21 S _o0 w1 a2
noncomputable def f_X0_body22 (S : HSt) (_o0 : Nat) (w1 : Nat) (a2 : Int32) : Int32 × HSt := bd (f_X0_begin S 62 (22 : Int32)) fun r1 => bd (f_X0_body21 r1 62 w1 a2) fun r2 => bd (r2.1) fun x3 => bd (f_X0_body11 r2.2 62 w1 a2) fun r4 => pr ((x3 + r4.1)) (r4.2)
def p_X0_body22 (S : HSt) (_o0 : Nat) (w1 : Nat) (a2 : Int32) : Prop := (p_X0_begin S 62 (22 : Int32)) ∧ (∀ r1, f_X0_begin S 62 (22 : Int32) = r1 → p_X0_body21 r1 62 w1 a2) ∧ (∀ r1, f_X0_begin S 62 (22 : Int32) = r1 → ∀ r2, f_X0_body21 r1 62 w1 a2 = r2 → ∀ x3 : Int32, r2.1 = x3 → p_X0_body11 r2.2 62 w1 a2)
set_option maxRecDepth 100000 in
theorem t_X0_body22 (G : GG) (l : Launch) {S : HSt} (hM : CS S) (w1 : Nat) (a2 : Int32) (hw1 : (w1, 10, 0) ∈ cKT) (hp : p_X0_body22 S 62 w1 a2) : AM G l yX0_body22 cX0_body22 4 (some .int) (rmD 3 0 0) 0 0 [.ref 62, .ref w1, .int a2] S (FP (some (.int (f_X0_body22 S 62 w1 a2).1)) ((f_X0_body22 S 62 w1 a2).2)) := by
  obtain ⟨h0, h1, h2⟩ := hp
  refine AM.mk (by decide) (Nat.le_of_ble_eq_true rfl) ?_
  intro p e s m below meth c hC hSt _
  refine aw_aload_n hC 0 dX0_body22_0 rfl rfl ?_
  refine aw_bipush (v := 22) hC dX0_body22_1 (by decide) ?_
  refine aw_cV1v hC hSt (t_X0_begin G l hM _ (h0)) w_9 w_20 w_21 w_22 w_23 rfl rfl (by decide +kernel) ⟨Nat.le_of_ble_eq_true rfl, Nat.le_of_ble_eq_true rfl⟩ (cs_lt 62 0 0 (by decide) hM) (cs_k 62 0 0 (by decide) hM) rfl (Nat.le_of_ble_eq_true rfl) dX0_body22_3 ⟨Nat.zero_le _, Nat.zero_le _⟩ ?_
  generalize er1 : f_X0_begin S 62 (22 : Int32) = r1
  have hM : CS r1 := CS.of (by rw [← er1]; exact q_X0_begin _ _ _) hM
  refine aw_aload_n hC 0 dX0_body22_6 rfl rfl ?_
  refine aw_aload_n hC 1 dX0_body22_7 rfl rfl ?_
  refine aw_iload_n hC 2 dX0_body22_8 rfl rfl ?_
  refine aw_cV2r hC hSt (t_X0_body21 G l hM _ _ hw1 (h1 r1 er1)) w_56 w_57 w_58 w_59 w_23 rfl rfl (by decide +kernel) ⟨Nat.le_of_ble_eq_true rfl, Nat.le_of_ble_eq_true rfl⟩ (cs_lt 62 0 0 (by decide) hM) (cs_k 62 0 0 (by decide) hM) rfl (Nat.le_of_ble_eq_true rfl) dX0_body22_9 ⟨Nat.zero_le _, Nat.zero_le _⟩ ?_
  generalize er2 : f_X0_body21 r1 62 w1 a2 = r2
  have hM : CS r2.2 := CS.of (by rw [← er2]; exact q_X0_body21 _ _ _ _) hM
  refine aw_istore_n hC [(3, .int _), (0, .ref 62), (1, .ref w1), (2, .int _)] dX0_body22_12 rfl (by decide) rfl ?_
  generalize ex3 : r2.1 = x3
  refine aw_iload_n hC 0 dX0_body22_13 rfl rfl ?_
  refine aw_aload_n hC 1 dX0_body22_14 rfl rfl ?_
  refine aw_aload_n hC 2 dX0_body22_15 rfl rfl ?_
  refine aw_iload_n hC 3 dX0_body22_16 rfl rfl ?_
  refine aw_cV2r hC hSt (t_X0_body11 G l hM _ _ hw1 (h2 r1 er1 r2 er2 x3 ex3)) w_24 w_30 w_31 w_32 w_23 rfl rfl (by decide +kernel) ⟨Nat.le_of_ble_eq_true rfl, Nat.le_of_ble_eq_true rfl⟩ (cs_lt 62 0 0 (by decide) hM) (cs_k 62 0 0 (by decide) hM) rfl (Nat.le_of_ble_eq_true rfl) dX0_body22_17 ⟨Nat.zero_le _, Nat.zero_le _⟩ ?_
  generalize er4 : f_X0_body11 r2.2 62 w1 a2 = r4
  have hM : CS r4.2 := CS.of (by rw [← er4]; exact q_X0_body11 _ _ _ _) hM
  refine aw_iadd hC dX0_body22_20 ?_
  refine aw_iret hC dX0_body22_21 (Nat.le_refl _) (Nat.le_refl _) ?_
  exact FP.qI ((bd_eq er1).trans ((bd_eq er2).trans ((bd_eq ex3).trans ((bd_eq er4).trans (rfl)))))
theorem q_X0_body22 (S : HSt) (_o0 : Nat) (w1 : Nat) (a2 : Int32) : shp ((f_X0_body22 S _o0 w1 a2).2) = shp S := by
  unfold f_X0_body22
  repeat' (first | with_reducible refine shpr1 ?_ | with_reducible rfl | with_reducible refine (q_X0_begin _ _ _).trans ?_ | with_reducible refine (q_X0_body11 _ _ _ _).trans ?_ | with_reducible refine (q_X0_body21 _ _ _ _).trans ?_ | with_reducible refine (shp_sI _ _ _ _).trans ?_ | with_reducible refine (shp_sJ _ _ _ _).trans ?_ | with_reducible refine (shp_rI _ _ _).trans ?_ | with_reducible refine shi ?_ ?_ | with_reducible refine shb (fun _ _ => ?_) | with_reducible refine shiP (fun q : Int32 × HSt => q.2) ?_ ?_ | with_reducible refine shbP (fun q : Int32 × HSt => q.2) (fun _ _ => ?_) | (subst_vars; with_reducible rfl) | (subst_vars; with_reducible refine (q_X0_begin _ _ _).trans ?_) | (subst_vars; with_reducible refine (q_X0_body11 _ _ _ _).trans ?_) | (subst_vars; with_reducible refine (q_X0_body21 _ _ _ _).trans ?_) | (subst_vars; with_reducible refine (shp_sI _ _ _ _).trans ?_) | (subst_vars; with_reducible refine (shp_sJ _ _ _ _).trans ?_) | (subst_vars; with_reducible refine (shp_rI _ _ _).trans ?_) | (subst_vars; with_reducible refine shi ?_ ?_) | (subst_vars; with_reducible refine shb (fun _ _ => ?_)))
theorem v_X0_body22 (S : HSt) (_o0 : Nat) (w1 : Nat) (a2 : Int32) : Fr [(62, 1), (63, 1000)] S ((f_X0_body22 S _o0 w1 a2).2) := by
  unfold f_X0_body22
  repeat' (first | with_reducible refine frpr1 ?_ | with_reducible exact Fr.refl _ _ | with_reducible refine Fr.lP (fun q : Int32 × HSt => q.2) (fun _ _ => ?_) | with_reducible refine Fr.iteP (fun q : Int32 × HSt => q.2) ?_ ?_ | with_reducible refine Fr.l1 (fun _ _ => ?_) | with_reducible refine Fr.ite ?_ ?_ | with_reducible refine Fr.sE (by assumption) (by first | decide | simp only [List.mem_cons, List.not_mem_nil, or_false, true_or, or_true, eq_self_iff_true]) ?_ | with_reducible refine Fr.jE (by assumption) ?_ | with_reducible refine Fr.rE (by assumption) (by first | decide | simp only [List.mem_cons, List.not_mem_nil, or_false, true_or, or_true, eq_self_iff_true]) ?_ | with_reducible refine Fr.iE (by assumption) ?_ ?_ | with_reducible refine Fr.tr (w_X0_begin _ _ _ _ (by assumption)) (by first | decide | simp only [List.mem_cons, List.not_mem_nil, or_false, forall_eq_or_imp, forall_eq, true_or, or_true, and_self, eq_self_iff_true]) ?_ | with_reducible refine Fr.tr (w_X0_body11 _ _ _ _ _ (by assumption)) (by first | decide | simp only [List.mem_cons, List.not_mem_nil, or_false, forall_eq_or_imp, forall_eq, true_or, or_true, and_self, eq_self_iff_true]) ?_ | with_reducible refine Fr.tr (w_X0_body21 _ _ _ _ _ (by assumption)) (by first | decide | simp only [List.mem_cons, List.not_mem_nil, or_false, forall_eq_or_imp, forall_eq, true_or, or_true, and_self, eq_self_iff_true]) ?_)
theorem w_X0_body22 (S : HSt) (_o0 : Nat) (w1 : Nat) (a2 : Int32) (r : Int32 × HSt) (e : f_X0_body22 S _o0 w1 a2 = r) : Fr [(62, 1), (63, 1000)] S r.2 := by
  rw [← e]
  exact v_X0_body22 S _o0 w1 a2
noncomputable def f_X0_body23 (S : HSt) (_o0 : Nat) (a1 : Int32) : Int32 × HSt := bd (f_X0_begin S 62 (23 : Int32)) fun r1 => bd (f_X0_body20 r1 62 a1) fun r2 => pr ((-r2.1)) (r2.2)
def p_X0_body23 (S : HSt) (_o0 : Nat) (a1 : Int32) : Prop := (p_X0_begin S 62 (23 : Int32)) ∧ (∀ r1, f_X0_begin S 62 (23 : Int32) = r1 → p_X0_body20 r1 62 a1)
set_option maxRecDepth 100000 in
theorem t_X0_body23 (G : GG) (l : Launch) {S : HSt} (hM : CS S) (a1 : Int32)  (hp : p_X0_body23 S 62 a1) : AM G l yX0_body23 cX0_body23 2 (some .int) (rmD 2 0 0) 0 0 [.ref 62, .int a1] S (FP (some (.int (f_X0_body23 S 62 a1).1)) ((f_X0_body23 S 62 a1).2)) := by
  obtain ⟨h0, h1⟩ := hp
  refine AM.mk (by decide) (Nat.le_of_ble_eq_true rfl) ?_
  intro p e s m below meth c hC hSt _
  refine aw_aload_n hC 0 dX0_body23_0 rfl rfl ?_
  refine aw_bipush (v := 23) hC dX0_body23_1 (by decide) ?_
  refine aw_cV1v hC hSt (t_X0_begin G l hM _ (h0)) w_9 w_20 w_21 w_22 w_23 rfl rfl (by decide +kernel) ⟨Nat.le_of_ble_eq_true rfl, Nat.le_of_ble_eq_true rfl⟩ (cs_lt 62 0 0 (by decide) hM) (cs_k 62 0 0 (by decide) hM) rfl (Nat.le_of_ble_eq_true rfl) dX0_body23_3 ⟨Nat.zero_le _, Nat.zero_le _⟩ ?_
  generalize er1 : f_X0_begin S 62 (23 : Int32) = r1
  have hM : CS r1 := CS.of (by rw [← er1]; exact q_X0_begin _ _ _) hM
  refine aw_aload_n hC 0 dX0_body23_6 rfl rfl ?_
  refine aw_iload_n hC 1 dX0_body23_7 rfl rfl ?_
  refine aw_cV1r hC hSt (t_X0_body20 G l hM _ (h1 r1 er1)) w_34 w_36 w_37 w_38 w_23 rfl rfl (by decide +kernel) ⟨Nat.le_of_ble_eq_true rfl, Nat.le_of_ble_eq_true rfl⟩ (cs_lt 62 0 0 (by decide) hM) (cs_k 62 0 0 (by decide) hM) rfl (Nat.le_of_ble_eq_true rfl) dX0_body23_8 ⟨Nat.zero_le _, Nat.zero_le _⟩ ?_
  generalize er2 : f_X0_body20 r1 62 a1 = r2
  have hM : CS r2.2 := CS.of (by rw [← er2]; exact q_X0_body20 _ _ _) hM
  refine aw_ineg hC dX0_body23_11 ?_
  refine aw_iret hC dX0_body23_12 (Nat.le_refl _) (Nat.le_refl _) ?_
  exact FP.qI ((bd_eq er1).trans ((bd_eq er2).trans (rfl)))
theorem q_X0_body23 (S : HSt) (_o0 : Nat) (a1 : Int32) : shp ((f_X0_body23 S _o0 a1).2) = shp S := by
  unfold f_X0_body23
  repeat' (first | with_reducible refine shpr1 ?_ | with_reducible rfl | with_reducible refine (q_X0_begin _ _ _).trans ?_ | with_reducible refine (q_X0_body20 _ _ _).trans ?_ | with_reducible refine (shp_sI _ _ _ _).trans ?_ | with_reducible refine (shp_sJ _ _ _ _).trans ?_ | with_reducible refine (shp_rI _ _ _).trans ?_ | with_reducible refine shi ?_ ?_ | with_reducible refine shb (fun _ _ => ?_) | with_reducible refine shiP (fun q : Int32 × HSt => q.2) ?_ ?_ | with_reducible refine shbP (fun q : Int32 × HSt => q.2) (fun _ _ => ?_) | (subst_vars; with_reducible rfl) | (subst_vars; with_reducible refine (q_X0_begin _ _ _).trans ?_) | (subst_vars; with_reducible refine (q_X0_body20 _ _ _).trans ?_) | (subst_vars; with_reducible refine (shp_sI _ _ _ _).trans ?_) | (subst_vars; with_reducible refine (shp_sJ _ _ _ _).trans ?_) | (subst_vars; with_reducible refine (shp_rI _ _ _).trans ?_) | (subst_vars; with_reducible refine shi ?_ ?_) | (subst_vars; with_reducible refine shb (fun _ _ => ?_)))
theorem v_X0_body23 (S : HSt) (_o0 : Nat) (a1 : Int32) : Fr [(62, 1), (63, 1000)] S ((f_X0_body23 S _o0 a1).2) := by
  unfold f_X0_body23
  repeat' (first | with_reducible refine frpr1 ?_ | with_reducible exact Fr.refl _ _ | with_reducible refine Fr.lP (fun q : Int32 × HSt => q.2) (fun _ _ => ?_) | with_reducible refine Fr.iteP (fun q : Int32 × HSt => q.2) ?_ ?_ | with_reducible refine Fr.l1 (fun _ _ => ?_) | with_reducible refine Fr.ite ?_ ?_ | with_reducible refine Fr.sE (by assumption) (by first | decide | simp only [List.mem_cons, List.not_mem_nil, or_false, true_or, or_true, eq_self_iff_true]) ?_ | with_reducible refine Fr.jE (by assumption) ?_ | with_reducible refine Fr.rE (by assumption) (by first | decide | simp only [List.mem_cons, List.not_mem_nil, or_false, true_or, or_true, eq_self_iff_true]) ?_ | with_reducible refine Fr.iE (by assumption) ?_ ?_ | with_reducible refine Fr.tr (w_X0_begin _ _ _ _ (by assumption)) (by first | decide | simp only [List.mem_cons, List.not_mem_nil, or_false, forall_eq_or_imp, forall_eq, true_or, or_true, and_self, eq_self_iff_true]) ?_ | with_reducible refine Fr.tr (w_X0_body20 _ _ _ _ (by assumption)) (by first | decide | simp only [List.mem_cons, List.not_mem_nil, or_false, forall_eq_or_imp, forall_eq, true_or, or_true, and_self, eq_self_iff_true]) ?_)
theorem w_X0_body23 (S : HSt) (_o0 : Nat) (a1 : Int32) (r : Int32 × HSt) (e : f_X0_body23 S _o0 a1 = r) : Fr [(62, 1), (63, 1000)] S r.2 := by
  rw [← e]
  exact v_X0_body23 S _o0 a1
noncomputable def f_X0_sizeOf (S : HSt) (_o0 : Nat) (w1 : Nat) (a2 : Int32) : Int32 × HSt := bd ((sI S 62 1 (0 : Int32))) fun S1 => if (f_X10_kindOf S1 w1 a2) = (2 : Int32) then (bd (f_X0_body11 S1 62 w1 a2) fun r4 => pr (r4.1) (r4.2)) else (if (f_X10_kindOf S1 w1 a2) = (3 : Int32) then (bd (f_X0_body12 S1 62 w1 a2) fun r5 => pr (r5.1) (r5.2)) else (if (f_X10_kindOf S1 w1 a2) = (4 : Int32) then (bd (f_X0_body13 S1 62 w1 a2) fun r6 => pr (r6.1) (r6.2)) else (if (f_X10_kindOf S1 w1 a2) = (5 : Int32) then (bd (f_X0_body14 S1 62 w1 a2) fun r7 => pr (r7.1) (r7.2)) else (bd (f_X0_body10 S1 62) fun r3 => pr (r3.1) (r3.2)))))
def p_X0_sizeOf (S : HSt) (_o0 : Nat) (w1 : Nat) (a2 : Int32) : Prop := (∀ S1 : HSt, (sI S 62 1 (0 : Int32)) = S1 → p_X10_kindOf S1 w1 a2) ∧ (∀ S1 : HSt, (sI S 62 1 (0 : Int32)) = S1 → (¬ (f_X10_kindOf S1 w1 a2) = (2 : Int32)) → (¬ (f_X10_kindOf S1 w1 a2) = (3 : Int32)) → (¬ (f_X10_kindOf S1 w1 a2) = (4 : Int32)) → (¬ (f_X10_kindOf S1 w1 a2) = (5 : Int32)) → p_X0_body10 S1 62) ∧ (∀ S1 : HSt, (sI S 62 1 (0 : Int32)) = S1 → ((f_X10_kindOf S1 w1 a2) = (2 : Int32)) → p_X0_body11 S1 62 w1 a2) ∧ (∀ S1 : HSt, (sI S 62 1 (0 : Int32)) = S1 → (¬ (f_X10_kindOf S1 w1 a2) = (2 : Int32)) → ((f_X10_kindOf S1 w1 a2) = (3 : Int32)) → p_X0_body12 S1 62 w1 a2) ∧ (∀ S1 : HSt, (sI S 62 1 (0 : Int32)) = S1 → (¬ (f_X10_kindOf S1 w1 a2) = (2 : Int32)) → (¬ (f_X10_kindOf S1 w1 a2) = (3 : Int32)) → ((f_X10_kindOf S1 w1 a2) = (4 : Int32)) → p_X0_body13 S1 62 w1 a2) ∧ (∀ S1 : HSt, (sI S 62 1 (0 : Int32)) = S1 → (¬ (f_X10_kindOf S1 w1 a2) = (2 : Int32)) → (¬ (f_X10_kindOf S1 w1 a2) = (3 : Int32)) → (¬ (f_X10_kindOf S1 w1 a2) = (4 : Int32)) → ((f_X10_kindOf S1 w1 a2) = (5 : Int32)) → p_X0_body14 S1 62 w1 a2)
set_option maxRecDepth 100000 in
theorem t_X0_sizeOf (G : GG) (l : Launch) {S : HSt} (hM : CS S) (w1 : Nat) (a2 : Int32) (hw1 : (w1, 10, 0) ∈ cKT) (hp : p_X0_sizeOf S 62 w1 a2) : AM G l yX0_sizeOf cX0_sizeOf 3 (some .int) (rmD 4 0 0) 0 0 [.ref 62, .ref w1, .int a2] S (FP (some (.int (f_X0_sizeOf S 62 w1 a2).1)) ((f_X0_sizeOf S 62 w1 a2).2)) := by
  obtain ⟨h0, h1, h2, h3, h4, h5⟩ := hp
  refine AM.mk (by decide) (Nat.le_of_ble_eq_true rfl) ?_
  intro p e s m below meth c hC hSt _
  refine aw_aload_n hC 0 dX0_sizeOf_0 rfl rfl ?_
  refine aw_iconst (v := 0) hC dX0_sizeOf_1 (by decide) ?_
  refine aw_putI hC hSt 1 (cs_lt 62 0 0 (by decide) hM) (cs_k 62 0 0 (by decide) hM) rfl (by decide) w_7 rfl rfl rfl rfl dX0_sizeOf_2 ?_
  generalize eS1 : (sI S 62 1 (0 : Int32)) = S1
  have hM : CS S1 := CS.of (by rw [← eS1]; exact shp_sI _ _ _ _) hM
  refine aw_aload_n hC 1 dX0_sizeOf_5 rfl rfl ?_
  refine aw_iload_n hC 2 dX0_sizeOf_6 rfl rfl ?_
  refine aw_cV1r hC hSt (t_X10_kindOf G l hM _ _ hw1 (h0 S1 eS1)) w_14 w_46 w_47 w_48 w_18 rfl rfl (by decide +kernel) ⟨Nat.le_of_ble_eq_true rfl, Nat.le_of_ble_eq_true rfl⟩ (cs_lt w1 10 0 hw1 hM) (cs_k w1 10 0 hw1 hM) rfl (Nat.le_of_ble_eq_true rfl) dX0_sizeOf_7 ⟨Nat.zero_le _, Nat.zero_le _⟩ ?_
  refine aw_switchE hC dX0_sizeOf_10 68 (by decide) [40, 47, 54, 61] rfl (by decide) (by decide) (fun hdc2 => ?_) (fun kc2 hkc2 hxc2 => ?_)
  · have c2_0 : ¬ (f_X10_kindOf S1 w1 a2) = (2 : Int32) := hdc2 0 (by decide)
    have c2_1 : ¬ (f_X10_kindOf S1 w1 a2) = (3 : Int32) := hdc2 1 (by decide)
    have c2_2 : ¬ (f_X10_kindOf S1 w1 a2) = (4 : Int32) := hdc2 2 (by decide)
    have c2_3 : ¬ (f_X10_kindOf S1 w1 a2) = (5 : Int32) := hdc2 3 (by decide)
    refine aw_aload_n hC 0 dX0_sizeOf_68 rfl rfl ?_
    refine aw_cV0r hC hSt (t_X0_body10 G l hM  (h1 S1 eS1 c2_0 c2_1 c2_2 c2_3)) w_19 w_25 w_26 w_27 w_23 rfl rfl (by decide +kernel) ⟨Nat.le_of_ble_eq_true rfl, Nat.le_of_ble_eq_true rfl⟩ (cs_lt 62 0 0 (by decide) hM) (cs_k 62 0 0 (by decide) hM) rfl (Nat.le_of_ble_eq_true rfl) dX0_sizeOf_69 ⟨Nat.zero_le _, Nat.zero_le _⟩ ?_
    generalize er3 : f_X0_body10 S1 62 = r3
    have hM : CS r3.2 := CS.of (by rw [← er3]; exact q_X0_body10 _ _) hM
    refine aw_iret hC dX0_sizeOf_72 (Nat.le_refl _) (Nat.le_refl _) ?_
    exact FP.qI ((bd_eq eS1).trans ((if_neg c2_0).trans ((if_neg c2_1).trans ((if_neg c2_2).trans ((if_neg c2_3).trans ((bd_eq er3).trans (rfl)))))))
  · match kc2, hkc2, hxc2 with
    | 0, _, hxc2 =>
      have c2_0 : (f_X10_kindOf S1 w1 a2) = (2 : Int32) := hxc2
      refine aw_at (pc' := 40) rfl ?_
      refine aw_aload_n hC 0 dX0_sizeOf_40 rfl rfl ?_
      refine aw_aload_n hC 1 dX0_sizeOf_41 rfl rfl ?_
      refine aw_iload_n hC 2 dX0_sizeOf_42 rfl rfl ?_
      refine aw_cV2r hC hSt (t_X0_body11 G l hM _ _ hw1 (h2 S1 eS1 c2_0)) w_24 w_30 w_31 w_32 w_23 rfl rfl (by decide +kernel) ⟨Nat.le_of_ble_eq_true rfl, Nat.le_of_ble_eq_true rfl⟩ (cs_lt 62 0 0 (by decide) hM) (cs_k 62 0 0 (by decide) hM) rfl (Nat.le_of_ble_eq_true rfl) dX0_sizeOf_43 ⟨Nat.zero_le _, Nat.zero_le _⟩ ?_
      generalize er4 : f_X0_body11 S1 62 w1 a2 = r4
      have hM : CS r4.2 := CS.of (by rw [← er4]; exact q_X0_body11 _ _ _ _) hM
      refine aw_iret hC dX0_sizeOf_46 (Nat.le_refl _) (Nat.le_refl _) ?_
      exact FP.qI ((bd_eq eS1).trans ((if_pos c2_0).trans ((bd_eq er4).trans (rfl))))
    | 1, _, hxc2 =>
      have c2_1 : (f_X10_kindOf S1 w1 a2) = (3 : Int32) := hxc2
      have c2_0 : ¬ (f_X10_kindOf S1 w1 a2) = (2 : Int32) := by rw [c2_1]; decide
      refine aw_at (pc' := 47) rfl ?_
      refine aw_aload_n hC 0 dX0_sizeOf_47 rfl rfl ?_
      refine aw_aload_n hC 1 dX0_sizeOf_48 rfl rfl ?_
      refine aw_iload_n hC 2 dX0_sizeOf_49 rfl rfl ?_
      refine aw_cV2r hC hSt (t_X0_body12 G l hM _ _ hw1 (h3 S1 eS1 c2_0 c2_1)) w_29 w_49 w_50 w_51 w_23 rfl rfl (by decide +kernel) ⟨Nat.le_of_ble_eq_true rfl, Nat.le_of_ble_eq_true rfl⟩ (cs_lt 62 0 0 (by decide) hM) (cs_k 62 0 0 (by decide) hM) rfl (Nat.le_of_ble_eq_true rfl) dX0_sizeOf_50 ⟨Nat.zero_le _, Nat.zero_le _⟩ ?_
      generalize er5 : f_X0_body12 S1 62 w1 a2 = r5
      have hM : CS r5.2 := CS.of (by rw [← er5]; exact q_X0_body12 _ _ _ _) hM
      refine aw_iret hC dX0_sizeOf_53 (Nat.le_refl _) (Nat.le_refl _) ?_
      exact FP.qI ((bd_eq eS1).trans ((if_neg c2_0).trans ((if_pos c2_1).trans ((bd_eq er5).trans (rfl)))))
    | 2, _, hxc2 =>
      have c2_2 : (f_X10_kindOf S1 w1 a2) = (4 : Int32) := hxc2
      have c2_0 : ¬ (f_X10_kindOf S1 w1 a2) = (2 : Int32) := by rw [c2_2]; decide
      have c2_1 : ¬ (f_X10_kindOf S1 w1 a2) = (3 : Int32) := by rw [c2_2]; decide
      refine aw_at (pc' := 54) rfl ?_
      refine aw_aload_n hC 0 dX0_sizeOf_54 rfl rfl ?_
      refine aw_aload_n hC 1 dX0_sizeOf_55 rfl rfl ?_
      refine aw_iload_n hC 2 dX0_sizeOf_56 rfl rfl ?_
      refine aw_cV2r hC hSt (t_X0_body13 G l hM _ _ hw1 (h4 S1 eS1 c2_0 c2_1 c2_2)) w_33 w_39 w_40 w_41 w_23 rfl rfl (by decide +kernel) ⟨Nat.le_of_ble_eq_true rfl, Nat.le_of_ble_eq_true rfl⟩ (cs_lt 62 0 0 (by decide) hM) (cs_k 62 0 0 (by decide) hM) rfl (Nat.le_of_ble_eq_true rfl) dX0_sizeOf_57 ⟨Nat.zero_le _, Nat.zero_le _⟩ ?_
      generalize er6 : f_X0_body13 S1 62 w1 a2 = r6
      have hM : CS r6.2 := CS.of (by rw [← er6]; exact q_X0_body13 _ _ _ _) hM
      refine aw_iret hC dX0_sizeOf_60 (Nat.le_refl _) (Nat.le_refl _) ?_
      exact FP.qI ((bd_eq eS1).trans ((if_neg c2_0).trans ((if_neg c2_1).trans ((if_pos c2_2).trans ((bd_eq er6).trans (rfl))))))
    | 3, _, hxc2 =>
      have c2_3 : (f_X10_kindOf S1 w1 a2) = (5 : Int32) := hxc2
      have c2_0 : ¬ (f_X10_kindOf S1 w1 a2) = (2 : Int32) := by rw [c2_3]; decide
      have c2_1 : ¬ (f_X10_kindOf S1 w1 a2) = (3 : Int32) := by rw [c2_3]; decide
      have c2_2 : ¬ (f_X10_kindOf S1 w1 a2) = (4 : Int32) := by rw [c2_3]; decide
      refine aw_at (pc' := 61) rfl ?_
      refine aw_aload_n hC 0 dX0_sizeOf_61 rfl rfl ?_
      refine aw_aload_n hC 1 dX0_sizeOf_62 rfl rfl ?_
      refine aw_iload_n hC 2 dX0_sizeOf_63 rfl rfl ?_
      refine aw_cV2r hC hSt (t_X0_body14 G l hM _ _ hw1 (h5 S1 eS1 c2_0 c2_1 c2_2 c2_3)) w_45 w_52 w_53 w_54 w_23 rfl rfl (by decide +kernel) ⟨Nat.le_of_ble_eq_true rfl, Nat.le_of_ble_eq_true rfl⟩ (cs_lt 62 0 0 (by decide) hM) (cs_k 62 0 0 (by decide) hM) rfl (Nat.le_of_ble_eq_true rfl) dX0_sizeOf_64 ⟨Nat.zero_le _, Nat.zero_le _⟩ ?_
      generalize er7 : f_X0_body14 S1 62 w1 a2 = r7
      have hM : CS r7.2 := CS.of (by rw [← er7]; exact q_X0_body14 _ _ _ _) hM
      refine aw_iret hC dX0_sizeOf_67 (Nat.le_refl _) (Nat.le_refl _) ?_
      exact FP.qI ((bd_eq eS1).trans ((if_neg c2_0).trans ((if_neg c2_1).trans ((if_neg c2_2).trans ((if_pos c2_3).trans ((bd_eq er7).trans (rfl)))))))
    | kc2 + 4, hkc2, _ => exact absurd hkc2 (by simp)
theorem q_X0_sizeOf (S : HSt) (_o0 : Nat) (w1 : Nat) (a2 : Int32) : shp ((f_X0_sizeOf S _o0 w1 a2).2) = shp S := by
  unfold f_X0_sizeOf
  repeat' (first | with_reducible refine shpr1 ?_ | with_reducible rfl | with_reducible refine (q_X0_body10 _ _).trans ?_ | with_reducible refine (q_X0_body11 _ _ _ _).trans ?_ | with_reducible refine (q_X0_body12 _ _ _ _).trans ?_ | with_reducible refine (q_X0_body13 _ _ _ _).trans ?_ | with_reducible refine (q_X0_body14 _ _ _ _).trans ?_ | with_reducible refine (shp_sI _ _ _ _).trans ?_ | with_reducible refine (shp_sJ _ _ _ _).trans ?_ | with_reducible refine (shp_rI _ _ _).trans ?_ | with_reducible refine shi ?_ ?_ | with_reducible refine shb (fun _ _ => ?_) | with_reducible refine shiP (fun q : Int32 × HSt => q.2) ?_ ?_ | with_reducible refine shbP (fun q : Int32 × HSt => q.2) (fun _ _ => ?_) | (subst_vars; with_reducible rfl) | (subst_vars; with_reducible refine (q_X0_body10 _ _).trans ?_) | (subst_vars; with_reducible refine (q_X0_body11 _ _ _ _).trans ?_) | (subst_vars; with_reducible refine (q_X0_body12 _ _ _ _).trans ?_) | (subst_vars; with_reducible refine (q_X0_body13 _ _ _ _).trans ?_) | (subst_vars; with_reducible refine (q_X0_body14 _ _ _ _).trans ?_) | (subst_vars; with_reducible refine (shp_sI _ _ _ _).trans ?_) | (subst_vars; with_reducible refine (shp_sJ _ _ _ _).trans ?_) | (subst_vars; with_reducible refine (shp_rI _ _ _).trans ?_) | (subst_vars; with_reducible refine shi ?_ ?_) | (subst_vars; with_reducible refine shb (fun _ _ => ?_)))
theorem v_X0_sizeOf (S : HSt) (_o0 : Nat) (w1 : Nat) (a2 : Int32) : Fr [(62, 1), (63, 1000)] S ((f_X0_sizeOf S _o0 w1 a2).2) := by
  unfold f_X0_sizeOf
  repeat' (first | with_reducible refine frpr1 ?_ | with_reducible exact Fr.refl _ _ | with_reducible refine Fr.lP (fun q : Int32 × HSt => q.2) (fun _ _ => ?_) | with_reducible refine Fr.iteP (fun q : Int32 × HSt => q.2) ?_ ?_ | with_reducible refine Fr.l1 (fun _ _ => ?_) | with_reducible refine Fr.ite ?_ ?_ | with_reducible refine Fr.sE (by assumption) (by first | decide | simp only [List.mem_cons, List.not_mem_nil, or_false, true_or, or_true, eq_self_iff_true]) ?_ | with_reducible refine Fr.jE (by assumption) ?_ | with_reducible refine Fr.rE (by assumption) (by first | decide | simp only [List.mem_cons, List.not_mem_nil, or_false, true_or, or_true, eq_self_iff_true]) ?_ | with_reducible refine Fr.iE (by assumption) ?_ ?_ | with_reducible refine Fr.tr (w_X0_body10 _ _ _ (by assumption)) (by first | decide | simp only [List.mem_cons, List.not_mem_nil, or_false, forall_eq_or_imp, forall_eq, true_or, or_true, and_self, eq_self_iff_true]) ?_ | with_reducible refine Fr.tr (w_X0_body11 _ _ _ _ _ (by assumption)) (by first | decide | simp only [List.mem_cons, List.not_mem_nil, or_false, forall_eq_or_imp, forall_eq, true_or, or_true, and_self, eq_self_iff_true]) ?_ | with_reducible refine Fr.tr (w_X0_body12 _ _ _ _ _ (by assumption)) (by first | decide | simp only [List.mem_cons, List.not_mem_nil, or_false, forall_eq_or_imp, forall_eq, true_or, or_true, and_self, eq_self_iff_true]) ?_ | with_reducible refine Fr.tr (w_X0_body13 _ _ _ _ _ (by assumption)) (by first | decide | simp only [List.mem_cons, List.not_mem_nil, or_false, forall_eq_or_imp, forall_eq, true_or, or_true, and_self, eq_self_iff_true]) ?_ | with_reducible refine Fr.tr (w_X0_body14 _ _ _ _ _ (by assumption)) (by first | decide | simp only [List.mem_cons, List.not_mem_nil, or_false, forall_eq_or_imp, forall_eq, true_or, or_true, and_self, eq_self_iff_true]) ?_)
theorem w_X0_sizeOf (S : HSt) (_o0 : Nat) (w1 : Nat) (a2 : Int32) (r : Int32 × HSt) (e : f_X0_sizeOf S _o0 w1 a2 = r) : Fr [(62, 1), (63, 1000)] S r.2 := by
  rw [← e]
  exact v_X0_sizeOf S _o0 w1 a2
noncomputable def f_X0_markOf (S : HSt) (_o0 : Nat) (w1 : Nat) (a2 : Int32) : Int32 × HSt := bd ((sI S 62 1 (0 : Int32))) fun S1 => if (f_X10_kindOf S1 w1 a2) = (2 : Int32) then (bd (f_X0_body22 S1 62 w1 a2) fun r4 => pr (r4.1) (r4.2)) else (if (f_X10_kindOf S1 w1 a2) = (3 : Int32) then (bd (f_X0_body21 S1 62 w1 a2) fun r5 => pr (r5.1) (r5.2)) else (if (f_X10_kindOf S1 w1 a2) = (4 : Int32) then (bd (f_X0_body20 S1 62 a2) fun r6 => pr (r6.1) (r6.2)) else (if (f_X10_kindOf S1 w1 a2) = (5 : Int32) then (bd (f_X0_body24 S1 62 a2) fun r7 => pr (r7.1) (r7.2)) else (if (f_X10_kindOf S1 w1 a2) = (6 : Int32) then (bd (f_X0_body23 S1 62 a2) fun r8 => pr (r8.1) (r8.2)) else (bd (f_X0_body20 S1 62 a2) fun r3 => pr (r3.1) (r3.2))))))
def p_X0_markOf (S : HSt) (_o0 : Nat) (w1 : Nat) (a2 : Int32) : Prop := (∀ S1 : HSt, (sI S 62 1 (0 : Int32)) = S1 → p_X10_kindOf S1 w1 a2) ∧ (∀ S1 : HSt, (sI S 62 1 (0 : Int32)) = S1 → (¬ (f_X10_kindOf S1 w1 a2) = (2 : Int32)) → (¬ (f_X10_kindOf S1 w1 a2) = (3 : Int32)) → (¬ (f_X10_kindOf S1 w1 a2) = (4 : Int32)) → (¬ (f_X10_kindOf S1 w1 a2) = (5 : Int32)) → (¬ (f_X10_kindOf S1 w1 a2) = (6 : Int32)) → p_X0_body20 S1 62 a2) ∧ (∀ S1 : HSt, (sI S 62 1 (0 : Int32)) = S1 → ((f_X10_kindOf S1 w1 a2) = (2 : Int32)) → p_X0_body22 S1 62 w1 a2) ∧ (∀ S1 : HSt, (sI S 62 1 (0 : Int32)) = S1 → (¬ (f_X10_kindOf S1 w1 a2) = (2 : Int32)) → ((f_X10_kindOf S1 w1 a2) = (3 : Int32)) → p_X0_body21 S1 62 w1 a2) ∧ (∀ S1 : HSt, (sI S 62 1 (0 : Int32)) = S1 → (¬ (f_X10_kindOf S1 w1 a2) = (2 : Int32)) → (¬ (f_X10_kindOf S1 w1 a2) = (3 : Int32)) → ((f_X10_kindOf S1 w1 a2) = (4 : Int32)) → p_X0_body20 S1 62 a2) ∧ (∀ S1 : HSt, (sI S 62 1 (0 : Int32)) = S1 → (¬ (f_X10_kindOf S1 w1 a2) = (2 : Int32)) → (¬ (f_X10_kindOf S1 w1 a2) = (3 : Int32)) → (¬ (f_X10_kindOf S1 w1 a2) = (4 : Int32)) → ((f_X10_kindOf S1 w1 a2) = (5 : Int32)) → p_X0_body24 S1 62 a2) ∧ (∀ S1 : HSt, (sI S 62 1 (0 : Int32)) = S1 → (¬ (f_X10_kindOf S1 w1 a2) = (2 : Int32)) → (¬ (f_X10_kindOf S1 w1 a2) = (3 : Int32)) → (¬ (f_X10_kindOf S1 w1 a2) = (4 : Int32)) → (¬ (f_X10_kindOf S1 w1 a2) = (5 : Int32)) → ((f_X10_kindOf S1 w1 a2) = (6 : Int32)) → p_X0_body23 S1 62 a2)
set_option maxRecDepth 100000 in
theorem t_X0_markOf (G : GG) (l : Launch) {S : HSt} (hM : CS S) (w1 : Nat) (a2 : Int32) (hw1 : (w1, 10, 0) ∈ cKT) (hp : p_X0_markOf S 62 w1 a2) : AM G l yX0_markOf cX0_markOf 3 (some .int) (rmD 4 0 0) 0 0 [.ref 62, .ref w1, .int a2] S (FP (some (.int (f_X0_markOf S 62 w1 a2).1)) ((f_X0_markOf S 62 w1 a2).2)) := by
  obtain ⟨h0, h1, h2, h3, h4, h5, h6⟩ := hp
  refine AM.mk (by decide) (Nat.le_of_ble_eq_true rfl) ?_
  intro p e s m below meth c hC hSt _
  refine aw_aload_n hC 0 dX0_markOf_0 rfl rfl ?_
  refine aw_iconst (v := 0) hC dX0_markOf_1 (by decide) ?_
  refine aw_putI hC hSt 1 (cs_lt 62 0 0 (by decide) hM) (cs_k 62 0 0 (by decide) hM) rfl (by decide) w_7 rfl rfl rfl rfl dX0_markOf_2 ?_
  generalize eS1 : (sI S 62 1 (0 : Int32)) = S1
  have hM : CS S1 := CS.of (by rw [← eS1]; exact shp_sI _ _ _ _) hM
  refine aw_aload_n hC 1 dX0_markOf_5 rfl rfl ?_
  refine aw_iload_n hC 2 dX0_markOf_6 rfl rfl ?_
  refine aw_cV1r hC hSt (t_X10_kindOf G l hM _ _ hw1 (h0 S1 eS1)) w_14 w_46 w_47 w_48 w_18 rfl rfl (by decide +kernel) ⟨Nat.le_of_ble_eq_true rfl, Nat.le_of_ble_eq_true rfl⟩ (cs_lt w1 10 0 hw1 hM) (cs_k w1 10 0 hw1 hM) rfl (Nat.le_of_ble_eq_true rfl) dX0_markOf_7 ⟨Nat.zero_le _, Nat.zero_le _⟩ ?_
  refine aw_switchE hC dX0_markOf_10 70 (by decide) [44, 51, 70, 58, 64] rfl (by decide) (by decide) (fun hdc2 => ?_) (fun kc2 hkc2 hxc2 => ?_)
  · have c2_0 : ¬ (f_X10_kindOf S1 w1 a2) = (2 : Int32) := hdc2 0 (by decide)
    have c2_1 : ¬ (f_X10_kindOf S1 w1 a2) = (3 : Int32) := hdc2 1 (by decide)
    have c2_2 : ¬ (f_X10_kindOf S1 w1 a2) = (4 : Int32) := hdc2 2 (by decide)
    have c2_3 : ¬ (f_X10_kindOf S1 w1 a2) = (5 : Int32) := hdc2 3 (by decide)
    have c2_4 : ¬ (f_X10_kindOf S1 w1 a2) = (6 : Int32) := hdc2 4 (by decide)
    refine aw_aload_n hC 0 dX0_markOf_70 rfl rfl ?_
    refine aw_iload_n hC 2 dX0_markOf_71 rfl rfl ?_
    refine aw_cV1r hC hSt (t_X0_body20 G l hM _ (h1 S1 eS1 c2_0 c2_1 c2_2 c2_3 c2_4)) w_34 w_36 w_37 w_38 w_23 rfl rfl (by decide +kernel) ⟨Nat.le_of_ble_eq_true rfl, Nat.le_of_ble_eq_true rfl⟩ (cs_lt 62 0 0 (by decide) hM) (cs_k 62 0 0 (by decide) hM) rfl (Nat.le_of_ble_eq_true rfl) dX0_markOf_72 ⟨Nat.zero_le _, Nat.zero_le _⟩ ?_
    generalize er3 : f_X0_body20 S1 62 a2 = r3
    have hM : CS r3.2 := CS.of (by rw [← er3]; exact q_X0_body20 _ _ _) hM
    refine aw_iret hC dX0_markOf_75 (Nat.le_refl _) (Nat.le_refl _) ?_
    exact FP.qI ((bd_eq eS1).trans ((if_neg c2_0).trans ((if_neg c2_1).trans ((if_neg c2_2).trans ((if_neg c2_3).trans ((if_neg c2_4).trans ((bd_eq er3).trans (rfl))))))))
  · match kc2, hkc2, hxc2 with
    | 0, _, hxc2 =>
      have c2_0 : (f_X10_kindOf S1 w1 a2) = (2 : Int32) := hxc2
      refine aw_at (pc' := 44) rfl ?_
      refine aw_aload_n hC 0 dX0_markOf_44 rfl rfl ?_
      refine aw_aload_n hC 1 dX0_markOf_45 rfl rfl ?_
      refine aw_iload_n hC 2 dX0_markOf_46 rfl rfl ?_
      refine aw_cV2r hC hSt (t_X0_body22 G l hM _ _ hw1 (h2 S1 eS1 c2_0)) w_60 w_62 w_63 w_64 w_23 rfl rfl (by decide +kernel) ⟨Nat.le_of_ble_eq_true rfl, Nat.le_of_ble_eq_true rfl⟩ (cs_lt 62 0 0 (by decide) hM) (cs_k 62 0 0 (by decide) hM) rfl (Nat.le_of_ble_eq_true rfl) dX0_markOf_47 ⟨Nat.zero_le _, Nat.zero_le _⟩ ?_
      generalize er4 : f_X0_body22 S1 62 w1 a2 = r4
      have hM : CS r4.2 := CS.of (by rw [← er4]; exact q_X0_body22 _ _ _ _) hM
      refine aw_iret hC dX0_markOf_50 (Nat.le_refl _) (Nat.le_refl _) ?_
      exact FP.qI ((bd_eq eS1).trans ((if_pos c2_0).trans ((bd_eq er4).trans (rfl))))
    | 1, _, hxc2 =>
      have c2_1 : (f_X10_kindOf S1 w1 a2) = (3 : Int32) := hxc2
      have c2_0 : ¬ (f_X10_kindOf S1 w1 a2) = (2 : Int32) := by rw [c2_1]; decide
      refine aw_at (pc' := 51) rfl ?_
      refine aw_aload_n hC 0 dX0_markOf_51 rfl rfl ?_
      refine aw_aload_n hC 1 dX0_markOf_52 rfl rfl ?_
      refine aw_iload_n hC 2 dX0_markOf_53 rfl rfl ?_
      refine aw_cV2r hC hSt (t_X0_body21 G l hM _ _ hw1 (h3 S1 eS1 c2_0 c2_1)) w_56 w_57 w_58 w_59 w_23 rfl rfl (by decide +kernel) ⟨Nat.le_of_ble_eq_true rfl, Nat.le_of_ble_eq_true rfl⟩ (cs_lt 62 0 0 (by decide) hM) (cs_k 62 0 0 (by decide) hM) rfl (Nat.le_of_ble_eq_true rfl) dX0_markOf_54 ⟨Nat.zero_le _, Nat.zero_le _⟩ ?_
      generalize er5 : f_X0_body21 S1 62 w1 a2 = r5
      have hM : CS r5.2 := CS.of (by rw [← er5]; exact q_X0_body21 _ _ _ _) hM
      refine aw_iret hC dX0_markOf_57 (Nat.le_refl _) (Nat.le_refl _) ?_
      exact FP.qI ((bd_eq eS1).trans ((if_neg c2_0).trans ((if_pos c2_1).trans ((bd_eq er5).trans (rfl)))))
    | 2, _, hxc2 =>
      have c2_2 : (f_X10_kindOf S1 w1 a2) = (4 : Int32) := hxc2
      have c2_0 : ¬ (f_X10_kindOf S1 w1 a2) = (2 : Int32) := by rw [c2_2]; decide
      have c2_1 : ¬ (f_X10_kindOf S1 w1 a2) = (3 : Int32) := by rw [c2_2]; decide
      refine aw_at (pc' := 70) rfl ?_
      refine aw_aload_n hC 0 dX0_markOf_70 rfl rfl ?_
      refine aw_iload_n hC 2 dX0_markOf_71 rfl rfl ?_
      refine aw_cV1r hC hSt (t_X0_body20 G l hM _ (h4 S1 eS1 c2_0 c2_1 c2_2)) w_34 w_36 w_37 w_38 w_23 rfl rfl (by decide +kernel) ⟨Nat.le_of_ble_eq_true rfl, Nat.le_of_ble_eq_true rfl⟩ (cs_lt 62 0 0 (by decide) hM) (cs_k 62 0 0 (by decide) hM) rfl (Nat.le_of_ble_eq_true rfl) dX0_markOf_72 ⟨Nat.zero_le _, Nat.zero_le _⟩ ?_
      generalize er6 : f_X0_body20 S1 62 a2 = r6
      have hM : CS r6.2 := CS.of (by rw [← er6]; exact q_X0_body20 _ _ _) hM
      refine aw_iret hC dX0_markOf_75 (Nat.le_refl _) (Nat.le_refl _) ?_
      exact FP.qI ((bd_eq eS1).trans ((if_neg c2_0).trans ((if_neg c2_1).trans ((if_pos c2_2).trans ((bd_eq er6).trans (rfl))))))
    | 3, _, hxc2 =>
      have c2_3 : (f_X10_kindOf S1 w1 a2) = (5 : Int32) := hxc2
      have c2_0 : ¬ (f_X10_kindOf S1 w1 a2) = (2 : Int32) := by rw [c2_3]; decide
      have c2_1 : ¬ (f_X10_kindOf S1 w1 a2) = (3 : Int32) := by rw [c2_3]; decide
      have c2_2 : ¬ (f_X10_kindOf S1 w1 a2) = (4 : Int32) := by rw [c2_3]; decide
      refine aw_at (pc' := 58) rfl ?_
      refine aw_aload_n hC 0 dX0_markOf_58 rfl rfl ?_
      refine aw_iload_n hC 2 dX0_markOf_59 rfl rfl ?_
      refine aw_cV1r hC hSt (t_X0_body24 G l hM _ (h5 S1 eS1 c2_0 c2_1 c2_2 c2_3)) w_35 w_42 w_43 w_44 w_23 rfl rfl (by decide +kernel) ⟨Nat.le_of_ble_eq_true rfl, Nat.le_of_ble_eq_true rfl⟩ (cs_lt 62 0 0 (by decide) hM) (cs_k 62 0 0 (by decide) hM) rfl (Nat.le_of_ble_eq_true rfl) dX0_markOf_60 ⟨Nat.zero_le _, Nat.zero_le _⟩ ?_
      generalize er7 : f_X0_body24 S1 62 a2 = r7
      have hM : CS r7.2 := CS.of (by rw [← er7]; exact q_X0_body24 _ _ _) hM
      refine aw_iret hC dX0_markOf_63 (Nat.le_refl _) (Nat.le_refl _) ?_
      exact FP.qI ((bd_eq eS1).trans ((if_neg c2_0).trans ((if_neg c2_1).trans ((if_neg c2_2).trans ((if_pos c2_3).trans ((bd_eq er7).trans (rfl)))))))
    | 4, _, hxc2 =>
      have c2_4 : (f_X10_kindOf S1 w1 a2) = (6 : Int32) := hxc2
      have c2_0 : ¬ (f_X10_kindOf S1 w1 a2) = (2 : Int32) := by rw [c2_4]; decide
      have c2_1 : ¬ (f_X10_kindOf S1 w1 a2) = (3 : Int32) := by rw [c2_4]; decide
      have c2_2 : ¬ (f_X10_kindOf S1 w1 a2) = (4 : Int32) := by rw [c2_4]; decide
      have c2_3 : ¬ (f_X10_kindOf S1 w1 a2) = (5 : Int32) := by rw [c2_4]; decide
      refine aw_at (pc' := 64) rfl ?_
      refine aw_aload_n hC 0 dX0_markOf_64 rfl rfl ?_
      refine aw_iload_n hC 2 dX0_markOf_65 rfl rfl ?_
      refine aw_cV1r hC hSt (t_X0_body23 G l hM _ (h6 S1 eS1 c2_0 c2_1 c2_2 c2_3 c2_4)) w_61 w_65 w_66 w_67 w_23 rfl rfl (by decide +kernel) ⟨Nat.le_of_ble_eq_true rfl, Nat.le_of_ble_eq_true rfl⟩ (cs_lt 62 0 0 (by decide) hM) (cs_k 62 0 0 (by decide) hM) rfl (Nat.le_of_ble_eq_true rfl) dX0_markOf_66 ⟨Nat.zero_le _, Nat.zero_le _⟩ ?_
      generalize er8 : f_X0_body23 S1 62 a2 = r8
      have hM : CS r8.2 := CS.of (by rw [← er8]; exact q_X0_body23 _ _ _) hM
      refine aw_iret hC dX0_markOf_69 (Nat.le_refl _) (Nat.le_refl _) ?_
      exact FP.qI ((bd_eq eS1).trans ((if_neg c2_0).trans ((if_neg c2_1).trans ((if_neg c2_2).trans ((if_neg c2_3).trans ((if_pos c2_4).trans ((bd_eq er8).trans (rfl))))))))
    | kc2 + 5, hkc2, _ => exact absurd hkc2 (by simp)
theorem q_X0_markOf (S : HSt) (_o0 : Nat) (w1 : Nat) (a2 : Int32) : shp ((f_X0_markOf S _o0 w1 a2).2) = shp S := by
  unfold f_X0_markOf
  repeat' (first | with_reducible refine shpr1 ?_ | with_reducible rfl | with_reducible refine (q_X0_body20 _ _ _).trans ?_ | with_reducible refine (q_X0_body21 _ _ _ _).trans ?_ | with_reducible refine (q_X0_body22 _ _ _ _).trans ?_ | with_reducible refine (q_X0_body23 _ _ _).trans ?_ | with_reducible refine (q_X0_body24 _ _ _).trans ?_ | with_reducible refine (shp_sI _ _ _ _).trans ?_ | with_reducible refine (shp_sJ _ _ _ _).trans ?_ | with_reducible refine (shp_rI _ _ _).trans ?_ | with_reducible refine shi ?_ ?_ | with_reducible refine shb (fun _ _ => ?_) | with_reducible refine shiP (fun q : Int32 × HSt => q.2) ?_ ?_ | with_reducible refine shbP (fun q : Int32 × HSt => q.2) (fun _ _ => ?_) | (subst_vars; with_reducible rfl) | (subst_vars; with_reducible refine (q_X0_body20 _ _ _).trans ?_) | (subst_vars; with_reducible refine (q_X0_body21 _ _ _ _).trans ?_) | (subst_vars; with_reducible refine (q_X0_body22 _ _ _ _).trans ?_) | (subst_vars; with_reducible refine (q_X0_body23 _ _ _).trans ?_) | (subst_vars; with_reducible refine (q_X0_body24 _ _ _).trans ?_) | (subst_vars; with_reducible refine (shp_sI _ _ _ _).trans ?_) | (subst_vars; with_reducible refine (shp_sJ _ _ _ _).trans ?_) | (subst_vars; with_reducible refine (shp_rI _ _ _).trans ?_) | (subst_vars; with_reducible refine shi ?_ ?_) | (subst_vars; with_reducible refine shb (fun _ _ => ?_)))
theorem v_X0_markOf (S : HSt) (_o0 : Nat) (w1 : Nat) (a2 : Int32) : Fr [(62, 1), (63, 1000)] S ((f_X0_markOf S _o0 w1 a2).2) := by
  unfold f_X0_markOf
  repeat' (first | with_reducible refine frpr1 ?_ | with_reducible exact Fr.refl _ _ | with_reducible refine Fr.lP (fun q : Int32 × HSt => q.2) (fun _ _ => ?_) | with_reducible refine Fr.iteP (fun q : Int32 × HSt => q.2) ?_ ?_ | with_reducible refine Fr.l1 (fun _ _ => ?_) | with_reducible refine Fr.ite ?_ ?_ | with_reducible refine Fr.sE (by assumption) (by first | decide | simp only [List.mem_cons, List.not_mem_nil, or_false, true_or, or_true, eq_self_iff_true]) ?_ | with_reducible refine Fr.jE (by assumption) ?_ | with_reducible refine Fr.rE (by assumption) (by first | decide | simp only [List.mem_cons, List.not_mem_nil, or_false, true_or, or_true, eq_self_iff_true]) ?_ | with_reducible refine Fr.iE (by assumption) ?_ ?_ | with_reducible refine Fr.tr (w_X0_body20 _ _ _ _ (by assumption)) (by first | decide | simp only [List.mem_cons, List.not_mem_nil, or_false, forall_eq_or_imp, forall_eq, true_or, or_true, and_self, eq_self_iff_true]) ?_ | with_reducible refine Fr.tr (w_X0_body21 _ _ _ _ _ (by assumption)) (by first | decide | simp only [List.mem_cons, List.not_mem_nil, or_false, forall_eq_or_imp, forall_eq, true_or, or_true, and_self, eq_self_iff_true]) ?_ | with_reducible refine Fr.tr (w_X0_body22 _ _ _ _ _ (by assumption)) (by first | decide | simp only [List.mem_cons, List.not_mem_nil, or_false, forall_eq_or_imp, forall_eq, true_or, or_true, and_self, eq_self_iff_true]) ?_ | with_reducible refine Fr.tr (w_X0_body23 _ _ _ _ (by assumption)) (by first | decide | simp only [List.mem_cons, List.not_mem_nil, or_false, forall_eq_or_imp, forall_eq, true_or, or_true, and_self, eq_self_iff_true]) ?_ | with_reducible refine Fr.tr (w_X0_body24 _ _ _ _ (by assumption)) (by first | decide | simp only [List.mem_cons, List.not_mem_nil, or_false, forall_eq_or_imp, forall_eq, true_or, or_true, and_self, eq_self_iff_true]) ?_)
theorem w_X0_markOf (S : HSt) (_o0 : Nat) (w1 : Nat) (a2 : Int32) (r : Int32 × HSt) (e : f_X0_markOf S _o0 w1 a2 = r) : Fr [(62, 1), (63, 1000)] S r.2 := by
  rw [← e]
  exact v_X0_markOf S _o0 w1 a2
noncomputable def F_X5_isRow (S : HSt) (a1 : Int32) : Int32 × HSt := bd ((if a1 < 0 then (0 : Int32) else (if (8 : Int32) ≤ a1 then (0 : Int32) else (1 : Int32)))) fun x3 => pr (x3) (S)
noncomputable def f_X5_isRow (S : HSt) (a1 : Int32) : Int32 := (F_X5_isRow S a1).1
set_option maxRecDepth 100000 in
theorem t_X5_isRow (G : GG) (l : Launch) {S : HSt} (a1 : Int32)   : AM G l yX5_isRow cX5_isRow 1 (some .boolean) (rmD 0 0 0) 0 0 [.int a1] S (FP (some (.int (f_X5_isRow S a1))) (S)) := by
  refine AM.mk (by decide) (Nat.le_of_ble_eq_true rfl) ?_
  intro p e s m below meth c hC hSt _
  refine aw_iload_n hC 0 dX5_isRow_0 rfl rfl ?_
  refine aw_cut (S' := S) (pc' := 15) (lv' := [(0, .int a1)]) (st' := [.int (if a1 < 0 then (0 : Int32) else (if (8 : Int32) ≤ a1 then (0 : Int32) else (1 : Int32)))]) ?_ (fun Jc1 => ?_)
  · generalize ex3 : (if a1 < 0 then (0 : Int32) else (if (8 : Int32) ≤ a1 then (0 : Int32) else (1 : Int32))) = x3
    refine aw_zret hC dX5_isRow_15 (Nat.le_refl _) (Nat.le_refl _) (Bz.n (ex3 ▸ (Bz.ite (Or.inl rfl) (Bz.ite (Or.inl rfl) (Or.inr rfl))))) ?_
    exact FP.pI ((bd_eq ex3).trans (rfl))
  · refine aw_if_lt hC 14 dX5_isRow_1 (by decide) (fun c1 => ?_) (fun c1 => ?_)
    · refine aw_iconst (v := 0) hC dX5_isRow_14 (by decide) ?_
      simp only [bd_def, if_pos c1] at Jc1 ⊢
      exact Jc1
    · refine aw_iload_n hC 0 dX5_isRow_4 rfl rfl ?_
      refine aw_bipush (v := 8) hC dX5_isRow_5 (by decide) ?_
      refine aw_icmp_ge hC 14 dX5_isRow_7 (by decide) (fun c2 => ?_) (fun c2 => ?_)
      · refine aw_iconst (v := 0) hC dX5_isRow_14 (by decide) ?_
        simp only [bd_def, if_neg c1, if_pos c2] at Jc1 ⊢
        exact Jc1
      · refine aw_iconst (v := 1) hC dX5_isRow_10 (by decide) ?_
        refine aw_goto hC 15 dX5_isRow_11 (by decide) ?_
        simp only [bd_def, if_neg c1, if_neg c2] at Jc1 ⊢
        exact Jc1
theorem b_X5_isRow (S : HSt) (a1 : Int32) : Bz (f_X5_isRow S a1) := by
  unfold f_X5_isRow F_X5_isRow
  (try dsimp only [bd])
  (repeat' split) <;> first | exact Or.inl rfl | exact Or.inr rfl
noncomputable def F_X5_isMissing (S : HSt) (_o0 : Nat) (a1 : Int32) : Int32 × HSt := bd ((if (f_X5_isRow S a1) = 0 then (1 : Int32) else (if (gI S 12 a1.toNatClampNeg) = (-1 : Int32) then (1 : Int32) else (0 : Int32)))) fun x3 => pr (x3) (S)
noncomputable def f_X5_isMissing (S : HSt) (_o0 : Nat) (a1 : Int32) : Int32 := (F_X5_isMissing S _o0 a1).1
def p_X5_isMissing (S : HSt) (_o0 : Nat) (a1 : Int32) : Prop := ((¬ (f_X5_isRow S a1) = 0) → vp_in a1 8)
set_option maxRecDepth 100000 in
theorem t_X5_isMissing (G : GG) (l : Launch) {S : HSt} (hM : CS S) (a1 : Int32)  (hp : p_X5_isMissing S 1 a1) : AM G l yX5_isMissing cX5_isMissing 2 (some .boolean) (rmD 1 0 0) 0 0 [.ref 1, .int a1] S (FP (some (.int (f_X5_isMissing S 1 a1))) (S)) := by
  have h0 := hp
  unfold p_X5_isMissing at h0
  refine AM.mk (by decide) (Nat.le_of_ble_eq_true rfl) ?_
  intro p e s m below meth c hC hSt _
  refine aw_iload_n hC 1 dX5_isMissing_0 rfl rfl ?_
  refine aw_cS1r hC hSt (t_X5_isRow G l  _) w_469 w_471 w_472 w_473 rfl rfl (by decide +kernel) ⟨Nat.le_of_ble_eq_true rfl, Nat.le_of_ble_eq_true rfl⟩ (Nat.le_of_ble_eq_true rfl) dX5_isMissing_1 ⟨Nat.zero_le _, Nat.zero_le _⟩ ?_
  refine aw_cut (S' := S) (pc' := 22) (lv' := [(0, .ref 1), (1, .int a1)]) (st' := [.int (if (f_X5_isRow S a1) = 0 then (1 : Int32) else (if (gI S 12 a1.toNatClampNeg) = (-1 : Int32) then (1 : Int32) else (0 : Int32)))]) ?_ (fun Jc1 => ?_)
  · generalize ex3 : (if (f_X5_isRow S a1) = 0 then (1 : Int32) else (if (gI S 12 a1.toNatClampNeg) = (-1 : Int32) then (1 : Int32) else (0 : Int32))) = x3
    refine aw_zret hC dX5_isMissing_22 (Nat.le_refl _) (Nat.le_refl _) (Bz.n (ex3 ▸ (Bz.ite (Or.inr rfl) (Bz.ite (Or.inr rfl) (Or.inl rfl))))) ?_
    exact FP.pI ((bd_eq ex3).trans (rfl))
  · refine aw_if_eq hC 17 dX5_isMissing_4 (by decide) (fun c1 => ?_) (fun c1 => ?_)
    · refine aw_iconst (v := 1) hC dX5_isMissing_17 (by decide) ?_
      refine aw_goto hC 22 dX5_isMissing_18 (by decide) ?_
      simp only [bd_def, if_pos c1] at Jc1 ⊢
      exact Jc1
    · refine aw_aload_n hC 0 dX5_isMissing_7 rfl rfl ?_
      refine aw_getP (b := 12) hC hSt 2 (cs_lt 1 5 0 (by decide) hM) (cs_k 1 5 0 (by decide) hM) rfl (by decide) w_467 rfl (cs_p 1 2 12 (by decide) hM) dX5_isMissing_8 ?_
      refine aw_iload_n hC 1 dX5_isMissing_11 rfl rfl ?_
      refine aw_iald hC hSt (cs_lt 12 14 8 (by decide) hM) (cs_k 12 14 8 (by decide) hM) (vp_len (n := 8) (cs_l 12 14 8 (by decide) hM) (h0 c1)) dX5_isMissing_12 ?_
      refine aw_iconst (v := -1) hC dX5_isMissing_13 (by decide) ?_
      refine aw_icmp_ne hC 21 dX5_isMissing_14 (by decide) (fun c2 => ?_) (fun c2 => ?_)
      · refine aw_iconst (v := 0) hC dX5_isMissing_21 (by decide) ?_
        simp only [bd_def, if_neg c1, if_neg c2] at Jc1 ⊢
        exact Jc1
      · refine aw_iconst (v := 1) hC dX5_isMissing_17 (by decide) ?_
        refine aw_goto hC 22 dX5_isMissing_18 (by decide) ?_
        simp only [bd_def, if_neg c1, if_pos c2] at Jc1 ⊢
        exact Jc1
theorem b_X5_isMissing (S : HSt) (_o0 : Nat) (a1 : Int32) : Bz (f_X5_isMissing S _o0 a1) := by
  unfold f_X5_isMissing F_X5_isMissing
  (try dsimp only [bd])
  (repeat' split) <;> first | exact Or.inl rfl | exact Or.inr rfl | exact b_X5_isRow _ _
noncomputable def F_X5_laneOf (S : HSt) (_o0 : Nat) (a1 : Int32) : Int32 × HSt := bd ((if (f_X5_isRow S a1) = 0 then (-1000000 : Int32) else (gI S 11 a1.toNatClampNeg))) fun x2 => pr (x2) (S)
noncomputable def f_X5_laneOf (S : HSt) (_o0 : Nat) (a1 : Int32) : Int32 := (F_X5_laneOf S _o0 a1).1
def p_X5_laneOf (S : HSt) (_o0 : Nat) (a1 : Int32) : Prop := ((¬ (f_X5_isRow S a1) = 0) → vp_in a1 8)
set_option maxRecDepth 100000 in
theorem t_X5_laneOf (G : GG) (l : Launch) {S : HSt} (hM : CS S) (a1 : Int32)  (hp : p_X5_laneOf S 1 a1) : AM G l yX5_laneOf cX5_laneOf 2 (some .int) (rmD 1 0 0) 0 0 [.ref 1, .int a1] S (FP (some (.int (f_X5_laneOf S 1 a1))) (S)) := by
  have h0 := hp
  unfold p_X5_laneOf at h0
  refine AM.mk (by decide) (Nat.le_of_ble_eq_true rfl) ?_
  intro p e s m below meth c hC hSt _
  refine aw_iload_n hC 1 dX5_laneOf_0 rfl rfl ?_
  refine aw_cS1r hC hSt (t_X5_isRow G l  _) w_469 w_471 w_472 w_473 rfl rfl (by decide +kernel) ⟨Nat.le_of_ble_eq_true rfl, Nat.le_of_ble_eq_true rfl⟩ (Nat.le_of_ble_eq_true rfl) dX5_laneOf_1 ⟨Nat.zero_le _, Nat.zero_le _⟩ ?_
  refine aw_cut (S' := S) (pc' := 18) (lv' := [(0, .ref 1), (1, .int a1)]) (st' := [.int (if (f_X5_isRow S a1) = 0 then (-1000000 : Int32) else (gI S 11 a1.toNatClampNeg))]) ?_ (fun Jc1 => ?_)
  · generalize ex2 : (if (f_X5_isRow S a1) = 0 then (-1000000 : Int32) else (gI S 11 a1.toNatClampNeg)) = x2
    refine aw_iret hC dX5_laneOf_18 (Nat.le_refl _) (Nat.le_refl _) ?_
    exact FP.pI ((bd_eq ex2).trans (rfl))
  · refine aw_if_eq hC 16 dX5_laneOf_4 (by decide) (fun c1 => ?_) (fun c1 => ?_)
    · refine aw_ldc (v := -1000000) hC w_475 dX5_laneOf_16 ?_
      simp only [bd_def, if_pos c1] at Jc1 ⊢
      exact Jc1
    · refine aw_aload_n hC 0 dX5_laneOf_7 rfl rfl ?_
      refine aw_getP (b := 11) hC hSt 1 (cs_lt 1 5 0 (by decide) hM) (cs_k 1 5 0 (by decide) hM) rfl (by decide) w_466 rfl (cs_p 1 1 11 (by decide) hM) dX5_laneOf_8 ?_
      refine aw_iload_n hC 1 dX5_laneOf_11 rfl rfl ?_
      refine aw_iald hC hSt (cs_lt 11 14 8 (by decide) hM) (cs_k 11 14 8 (by decide) hM) (vp_len (n := 8) (cs_l 11 14 8 (by decide) hM) (h0 c1)) dX5_laneOf_12 ?_
      refine aw_goto hC 18 dX5_laneOf_13 (by decide) ?_
      simp only [bd_def, if_neg c1] at Jc1 ⊢
      exact Jc1
noncomputable def F_X5_hasPlaces (S : HSt) (_o0 : Nat) (a1 : Int32) (a2 : Int32) (a3 : Int32) : Int32 × HSt := bd ((if (f_X5_isMissing S 1 a1) = 0 then (if a2 < 0 then (0 : Int32) else (if a3 < 0 then (0 : Int32) else (if (gI S 12 a1.toNatClampNeg) < a3 then (0 : Int32) else (if ((gI S 12 a1.toNatClampNeg) - a3) < a2 then (0 : Int32) else (1 : Int32))))) else (0 : Int32))) fun x6 => pr (x6) (S)
noncomputable def f_X5_hasPlaces (S : HSt) (_o0 : Nat) (a1 : Int32) (a2 : Int32) (a3 : Int32) : Int32 := (F_X5_hasPlaces S _o0 a1 a2 a3).1
def p_X5_hasPlaces (S : HSt) (_o0 : Nat) (a1 : Int32) (a2 : Int32) (a3 : Int32) : Prop := (p_X5_isMissing S 1 a1) ∧ (((f_X5_isMissing S 1 a1) = 0) → (¬ a2 < 0) → (¬ a3 < 0) → vp_in a1 8) ∧ (((f_X5_isMissing S 1 a1) = 0) → (¬ a2 < 0) → (¬ a3 < 0) → (¬ (gI S 12 a1.toNatClampNeg) < a3) → vp_in a1 8)
set_option maxRecDepth 100000 in
theorem t_X5_hasPlaces (G : GG) (l : Launch) {S : HSt} (hM : CS S) (a1 : Int32) (a2 : Int32) (a3 : Int32)  (hp : p_X5_hasPlaces S 1 a1 a2 a3) : AM G l yX5_hasPlaces cX5_hasPlaces 4 (some .boolean) (rmD 2 0 0) 0 0 [.ref 1, .int a1, .int a2, .int a3] S (FP (some (.int (f_X5_hasPlaces S 1 a1 a2 a3))) (S)) := by
  obtain ⟨h0, h1, h2⟩ := hp
  refine AM.mk (by decide) (Nat.le_of_ble_eq_true rfl) ?_
  intro p e s m below meth c hC hSt _
  refine aw_aload_n hC 0 dX5_hasPlaces_0 rfl rfl ?_
  refine aw_iload_n hC 1 dX5_hasPlaces_1 rfl rfl ?_
  refine aw_cV1r hC hSt (t_X5_isMissing G l hM _ (h0)) w_470 w_477 w_478 w_479 w_473 rfl rfl (by decide +kernel) ⟨Nat.le_of_ble_eq_true rfl, Nat.le_of_ble_eq_true rfl⟩ (cs_lt 1 5 0 (by decide) hM) (cs_k 1 5 0 (by decide) hM) rfl (Nat.le_of_ble_eq_true rfl) dX5_hasPlaces_2 ⟨Nat.zero_le _, Nat.zero_le _⟩ ?_
  refine aw_cut (S' := S) (pc' := 43) (lv' := [(0, .ref 1), (1, .int a1), (2, .int a2), (3, .int a3)]) (st' := [.int (if (f_X5_isMissing S 1 a1) = 0 then (if a2 < 0 then (0 : Int32) else (if a3 < 0 then (0 : Int32) else (if (gI S 12 a1.toNatClampNeg) < a3 then (0 : Int32) else (if ((gI S 12 a1.toNatClampNeg) - a3) < a2 then (0 : Int32) else (1 : Int32))))) else (0 : Int32))]) ?_ (fun Jc1 => ?_)
  · generalize ex6 : (if (f_X5_isMissing S 1 a1) = 0 then (if a2 < 0 then (0 : Int32) else (if a3 < 0 then (0 : Int32) else (if (gI S 12 a1.toNatClampNeg) < a3 then (0 : Int32) else (if ((gI S 12 a1.toNatClampNeg) - a3) < a2 then (0 : Int32) else (1 : Int32))))) else (0 : Int32)) = x6
    refine aw_zret hC dX5_hasPlaces_43 (Nat.le_refl _) (Nat.le_refl _) (Bz.n (ex6 ▸ (Bz.ite (Bz.ite (Or.inl rfl) (Bz.ite (Or.inl rfl) (Bz.ite (Or.inl rfl) (Bz.ite (Or.inl rfl) (Or.inr rfl))))) (Or.inl rfl)))) ?_
    exact FP.pI ((bd_eq ex6).trans (rfl))
  · refine aw_if_ne hC 42 dX5_hasPlaces_5 (by decide) (fun c1 => ?_) (fun c1 => ?_)
    · refine aw_iconst (v := 0) hC dX5_hasPlaces_42 (by decide) ?_
      simp only [bd_def, if_neg c1] at Jc1 ⊢
      exact Jc1
    · refine aw_iload_n hC 2 dX5_hasPlaces_8 rfl rfl ?_
      refine aw_if_lt hC 42 dX5_hasPlaces_9 (by decide) (fun c2 => ?_) (fun c2 => ?_)
      · refine aw_iconst (v := 0) hC dX5_hasPlaces_42 (by decide) ?_
        simp only [bd_def, if_pos c1, if_pos c2] at Jc1 ⊢
        exact Jc1
      · refine aw_iload_n hC 3 dX5_hasPlaces_12 rfl rfl ?_
        refine aw_if_lt hC 42 dX5_hasPlaces_13 (by decide) (fun c3 => ?_) (fun c3 => ?_)
        · refine aw_iconst (v := 0) hC dX5_hasPlaces_42 (by decide) ?_
          simp only [bd_def, if_pos c1, if_neg c2, if_pos c3] at Jc1 ⊢
          exact Jc1
        · refine aw_iload_n hC 3 dX5_hasPlaces_16 rfl rfl ?_
          refine aw_aload_n hC 0 dX5_hasPlaces_17 rfl rfl ?_
          refine aw_getP (b := 12) hC hSt 2 (cs_lt 1 5 0 (by decide) hM) (cs_k 1 5 0 (by decide) hM) rfl (by decide) w_467 rfl (cs_p 1 2 12 (by decide) hM) dX5_hasPlaces_18 ?_
          refine aw_iload_n hC 1 dX5_hasPlaces_21 rfl rfl ?_
          refine aw_iald hC hSt (cs_lt 12 14 8 (by decide) hM) (cs_k 12 14 8 (by decide) hM) (vp_len (n := 8) (cs_l 12 14 8 (by decide) hM) (h1 c1 c2 c3)) dX5_hasPlaces_22 ?_
          refine aw_icmp_gt hC 42 dX5_hasPlaces_23 (by decide) (fun c4 => ?_) (fun c4 => ?_)
          · refine aw_iconst (v := 0) hC dX5_hasPlaces_42 (by decide) ?_
            simp only [bd_def, if_pos c1, if_neg c2, if_neg c3, if_pos c4] at Jc1 ⊢
            exact Jc1
          · refine aw_iload_n hC 2 dX5_hasPlaces_26 rfl rfl ?_
            refine aw_aload_n hC 0 dX5_hasPlaces_27 rfl rfl ?_
            refine aw_getP (b := 12) hC hSt 2 (cs_lt 1 5 0 (by decide) hM) (cs_k 1 5 0 (by decide) hM) rfl (by decide) w_467 rfl (cs_p 1 2 12 (by decide) hM) dX5_hasPlaces_28 ?_
            refine aw_iload_n hC 1 dX5_hasPlaces_31 rfl rfl ?_
            refine aw_iald hC hSt (cs_lt 12 14 8 (by decide) hM) (cs_k 12 14 8 (by decide) hM) (vp_len (n := 8) (cs_l 12 14 8 (by decide) hM) (h2 c1 c2 c3 c4)) dX5_hasPlaces_32 ?_
            refine aw_iload_n hC 3 dX5_hasPlaces_33 rfl rfl ?_
            refine aw_isub hC dX5_hasPlaces_34 ?_
            refine aw_icmp_gt hC 42 dX5_hasPlaces_35 (by decide) (fun c5 => ?_) (fun c5 => ?_)
            · refine aw_iconst (v := 0) hC dX5_hasPlaces_42 (by decide) ?_
              simp only [bd_def, if_pos c1, if_neg c2, if_neg c3, if_neg c4, if_pos c5] at Jc1 ⊢
              exact Jc1
            · refine aw_iconst (v := 1) hC dX5_hasPlaces_38 (by decide) ?_
              refine aw_goto hC 43 dX5_hasPlaces_39 (by decide) ?_
              simp only [bd_def, if_pos c1, if_neg c2, if_neg c3, if_neg c4, if_neg c5] at Jc1 ⊢
              exact Jc1
theorem b_X5_hasPlaces (S : HSt) (_o0 : Nat) (a1 : Int32) (a2 : Int32) (a3 : Int32) : Bz (f_X5_hasPlaces S _o0 a1 a2 a3) := by
  unfold f_X5_hasPlaces F_X5_hasPlaces
  (try dsimp only [bd])
  (repeat' split) <;> first | exact Or.inl rfl | exact Or.inr rfl | exact b_X5_isMissing _ _ _
noncomputable def f_X5_put (S : HSt) (_o0 : Nat) (a1 : Int32) (a2 : Int32) (a3 : Int32) : Int32 × HSt := if (f_X5_hasPlaces S 1 a1 a2 (1 : Int32)) = 0 then (pr ((0 : Int32)) (S)) else (bd ((if (gI S 11 a1.toNatClampNeg) = 0 then a3.toInt8.toInt32 else (if (gI S 11 a1.toNatClampNeg) = (1 : Int32) then a3.toInt16.toInt32 else a3))) fun x4 => bd ((sI S (3 + a1.toNatClampNeg) a2.toNatClampNeg x4)) fun S5 => pr (x4) (S5))
def p_X5_put (S : HSt) (_o0 : Nat) (a1 : Int32) (a2 : Int32) (a3 : Int32) : Prop := (p_X5_hasPlaces S 1 a1 a2 (1 : Int32)) ∧ ((¬ (f_X5_hasPlaces S 1 a1 a2 (1 : Int32)) = 0) → vp_in a1 8) ∧ ((¬ (f_X5_hasPlaces S 1 a1 a2 (1 : Int32)) = 0) → (¬ (gI S 11 a1.toNatClampNeg) = 0) → vp_in a1 8) ∧ ((¬ (f_X5_hasPlaces S 1 a1 a2 (1 : Int32)) = 0) → ∀ x4 : Int32, (if (gI S 11 a1.toNatClampNeg) = 0 then a3.toInt8.toInt32 else (if (gI S 11 a1.toNatClampNeg) = (1 : Int32) then a3.toInt16.toInt32 else a3)) = x4 → vp_in a1 8) ∧ ((¬ (f_X5_hasPlaces S 1 a1 a2 (1 : Int32)) = 0) → ∀ x4 : Int32, (if (gI S 11 a1.toNatClampNeg) = 0 then a3.toInt8.toInt32 else (if (gI S 11 a1.toNatClampNeg) = (1 : Int32) then a3.toInt16.toInt32 else a3)) = x4 → vp_in a2 40)
set_option maxRecDepth 100000 in
theorem t_X5_put (G : GG) (l : Launch) {S : HSt} (hM : CS S) (a1 : Int32) (a2 : Int32) (a3 : Int32)  (hp : p_X5_put S 1 a1 a2 a3) : AM G l yX5_put cX5_put 5 (some .int) (rmD 3 0 0) 0 0 [.ref 1, .int a1, .int a2, .int a3] S (FP (some (.int (f_X5_put S 1 a1 a2 a3).1)) ((f_X5_put S 1 a1 a2 a3).2)) := by
  obtain ⟨h0, h1, h2, h3, h4⟩ := hp
  refine AM.mk (by decide) (Nat.le_of_ble_eq_true rfl) ?_
  intro p e s m below meth c hC hSt _
  refine aw_aload_n hC 0 dX5_put_0 rfl rfl ?_
  refine aw_iload_n hC 1 dX5_put_1 rfl rfl ?_
  refine aw_iload_n hC 2 dX5_put_2 rfl rfl ?_
  refine aw_iconst (v := 1) hC dX5_put_3 (by decide) ?_
  refine aw_cV3r hC hSt (t_X5_hasPlaces G l hM _ _ _ (h0)) w_476 w_482 w_483 w_484 w_473 rfl rfl (by decide +kernel) ⟨Nat.le_of_ble_eq_true rfl, Nat.le_of_ble_eq_true rfl⟩ (cs_lt 1 5 0 (by decide) hM) (cs_k 1 5 0 (by decide) hM) rfl (Nat.le_of_ble_eq_true rfl) dX5_put_4 ⟨Nat.zero_le _, Nat.zero_le _⟩ ?_
  refine aw_if_ne hC 12 dX5_put_7 (by decide) (fun c1 => ?_) (fun c1 => ?_)
  · refine aw_aload_n hC 0 dX5_put_12 rfl rfl ?_
    refine aw_getP (b := 11) hC hSt 1 (cs_lt 1 5 0 (by decide) hM) (cs_k 1 5 0 (by decide) hM) rfl (by decide) w_466 rfl (cs_p 1 1 11 (by decide) hM) dX5_put_13 ?_
    refine aw_iload_n hC 1 dX5_put_16 rfl rfl ?_
    refine aw_iald hC hSt (cs_lt 11 14 8 (by decide) hM) (cs_k 11 14 8 (by decide) hM) (vp_len (n := 8) (cs_l 11 14 8 (by decide) hM) (h1 c1)) dX5_put_17 ?_
    refine aw_cut (S' := S) (pc' := 42) (lv' := [(0, .ref 1), (1, .int a1), (2, .int a2), (3, .int a3)]) (st' := [.int (if (gI S 11 a1.toNatClampNeg) = 0 then a3.toInt8.toInt32 else (if (gI S 11 a1.toNatClampNeg) = (1 : Int32) then a3.toInt16.toInt32 else a3))]) ?_ (fun Jc2 => ?_)
    · generalize ex4 : (if (gI S 11 a1.toNatClampNeg) = 0 then a3.toInt8.toInt32 else (if (gI S 11 a1.toNatClampNeg) = (1 : Int32) then a3.toInt16.toInt32 else a3)) = x4
      refine aw_istore hC [(4, .int _), (0, .ref 1), (1, .int _), (2, .int _), (3, .int _)] dX5_put_42 (by decide) rfl ?_
      refine aw_aload_n hC 1 dX5_put_44 rfl rfl ?_
      refine aw_getP (b := 2) hC hSt 0 (cs_lt 1 5 0 (by decide) hM) (cs_k 1 5 0 (by decide) hM) rfl (by decide) w_465 rfl (cs_p 1 0 2 (by decide) hM) dX5_put_45 ?_
      refine aw_iload_n hC 2 dX5_put_48 rfl rfl ?_
      refine aw_aaldI hC hSt (cs_lt 2 19 8 (by decide) hM) (cs_k 2 19 8 (by decide) hM) (vp_len (n := 8) (cs_l 2 19 8 (by decide) hM) (h3 c1 x4 ex4)) (cs_p 2 a1.toNatClampNeg (3 + a1.toNatClampNeg) (ar_p2 (h3 c1 x4 ex4)) hM) dX5_put_49 ?_
      refine aw_iload_n hC 3 dX5_put_50 rfl rfl ?_
      refine aw_iload hC 0 dX5_put_51 rfl ?_
      refine aw_iast hC hSt (cs_lt (3 + a1.toNatClampNeg) 14 40 (ar_m2 (h3 c1 x4 ex4)) hM) (cs_k (3 + a1.toNatClampNeg) 14 40 (ar_m2 (h3 c1 x4 ex4)) hM) (vp_len (n := 40) (cs_l (3 + a1.toNatClampNeg) 14 40 (ar_m2 (h3 c1 x4 ex4)) hM) (h4 c1 x4 ex4)) dX5_put_53 ?_
      generalize eS5 : (sI S (3 + a1.toNatClampNeg) a2.toNatClampNeg x4) = S5
      have hM : CS S5 := CS.of (by rw [← eS5]; exact shp_sI _ _ _ _) hM
      refine aw_iload hC 0 dX5_put_54 rfl ?_
      refine aw_iret hC dX5_put_56 (Nat.le_refl _) (Nat.le_refl _) ?_
      exact FP.qI ((if_neg c1).trans ((bd_eq ex4).trans ((bd_eq eS5).trans (rfl))))
    · refine aw_if_ne hC 26 dX5_put_18 (by decide) (fun c2 => ?_) (fun c2 => ?_)
      · refine aw_aload_n hC 0 dX5_put_26 rfl rfl ?_
        refine aw_getP (b := 11) hC hSt 1 (cs_lt 1 5 0 (by decide) hM) (cs_k 1 5 0 (by decide) hM) rfl (by decide) w_466 rfl (cs_p 1 1 11 (by decide) hM) dX5_put_27 ?_
        refine aw_iload_n hC 1 dX5_put_30 rfl rfl ?_
        refine aw_iald hC hSt (cs_lt 11 14 8 (by decide) hM) (cs_k 11 14 8 (by decide) hM) (vp_len (n := 8) (cs_l 11 14 8 (by decide) hM) (h2 c1 c2)) dX5_put_31 ?_
        refine aw_iconst (v := 1) hC dX5_put_32 (by decide) ?_
        refine aw_icmp_ne hC 41 dX5_put_33 (by decide) (fun c3 => ?_) (fun c3 => ?_)
        · refine aw_iload_n hC 3 dX5_put_41 rfl rfl ?_
          simp only [bd_def, if_neg c2, if_neg c3] at Jc2 ⊢
          exact Jc2
        · refine aw_iload_n hC 3 dX5_put_36 rfl rfl ?_
          refine aw_i2s hC dX5_put_37 ?_
          refine aw_goto hC 42 dX5_put_38 (by decide) ?_
          simp only [bd_def, if_neg c2, if_pos c3] at Jc2 ⊢
          exact Jc2
      · refine aw_iload_n hC 3 dX5_put_21 rfl rfl ?_
        refine aw_i2b hC dX5_put_22 ?_
        refine aw_goto hC 42 dX5_put_23 (by decide) ?_
        simp only [bd_def, if_pos c2] at Jc2 ⊢
        exact Jc2
  · refine aw_iconst (v := 0) hC dX5_put_10 (by decide) ?_
    refine aw_iret hC dX5_put_11 (Nat.le_refl _) (Nat.le_refl _) ?_
    exact FP.qI ((if_pos c1).trans (rfl))
theorem q_X5_put (S : HSt) (_o0 : Nat) (a1 : Int32) (a2 : Int32) (a3 : Int32) : shp ((f_X5_put S _o0 a1 a2 a3).2) = shp S := by
  unfold f_X5_put
  repeat' (first | with_reducible refine shpr1 ?_ | with_reducible rfl | with_reducible refine (shp_sI _ _ _ _).trans ?_ | with_reducible refine (shp_sJ _ _ _ _).trans ?_ | with_reducible refine (shp_rI _ _ _).trans ?_ | with_reducible refine shi ?_ ?_ | with_reducible refine shb (fun _ _ => ?_) | with_reducible refine shiP (fun q : Int32 × HSt => q.2) ?_ ?_ | with_reducible refine shbP (fun q : Int32 × HSt => q.2) (fun _ _ => ?_) | (subst_vars; with_reducible rfl) | (subst_vars; with_reducible refine (shp_sI _ _ _ _).trans ?_) | (subst_vars; with_reducible refine (shp_sJ _ _ _ _).trans ?_) | (subst_vars; with_reducible refine (shp_rI _ _ _).trans ?_) | (subst_vars; with_reducible refine shi ?_ ?_) | (subst_vars; with_reducible refine shb (fun _ _ => ?_)))
noncomputable def F_X5_itemAt (S : HSt) (_o0 : Nat) (a1 : Int32) (a2 : Int32) : Int32 × HSt := bd ((if (f_X5_hasPlaces S 1 a1 a2 (1 : Int32)) = 0 then (0 : Int32) else (gI S (3 + a1.toNatClampNeg) a2.toNatClampNeg))) fun x2 => pr (x2) (S)
noncomputable def f_X5_itemAt (S : HSt) (_o0 : Nat) (a1 : Int32) (a2 : Int32) : Int32 := (F_X5_itemAt S _o0 a1 a2).1
def p_X5_itemAt (S : HSt) (_o0 : Nat) (a1 : Int32) (a2 : Int32) : Prop := (p_X5_hasPlaces S 1 a1 a2 (1 : Int32)) ∧ ((¬ (f_X5_hasPlaces S 1 a1 a2 (1 : Int32)) = 0) → vp_in a1 8) ∧ ((¬ (f_X5_hasPlaces S 1 a1 a2 (1 : Int32)) = 0) → vp_in a2 40)
set_option maxRecDepth 100000 in
theorem t_X5_itemAt (G : GG) (l : Launch) {S : HSt} (hM : CS S) (a1 : Int32) (a2 : Int32)  (hp : p_X5_itemAt S 1 a1 a2) : AM G l yX5_itemAt cX5_itemAt 3 (some .int) (rmD 3 0 0) 0 0 [.ref 1, .int a1, .int a2] S (FP (some (.int (f_X5_itemAt S 1 a1 a2))) (S)) := by
  obtain ⟨h0, h1, h2⟩ := hp
  refine AM.mk (by decide) (Nat.le_of_ble_eq_true rfl) ?_
  intro p e s m below meth c hC hSt _
  refine aw_aload_n hC 0 dX5_itemAt_0 rfl rfl ?_
  refine aw_iload_n hC 1 dX5_itemAt_1 rfl rfl ?_
  refine aw_iload_n hC 2 dX5_itemAt_2 rfl rfl ?_
  refine aw_iconst (v := 1) hC dX5_itemAt_3 (by decide) ?_
  refine aw_cV3r hC hSt (t_X5_hasPlaces G l hM _ _ _ (h0)) w_476 w_482 w_483 w_484 w_473 rfl rfl (by decide +kernel) ⟨Nat.le_of_ble_eq_true rfl, Nat.le_of_ble_eq_true rfl⟩ (cs_lt 1 5 0 (by decide) hM) (cs_k 1 5 0 (by decide) hM) rfl (Nat.le_of_ble_eq_true rfl) dX5_itemAt_4 ⟨Nat.zero_le _, Nat.zero_le _⟩ ?_
  refine aw_cut (S' := S) (pc' := 22) (lv' := [(0, .ref 1), (1, .int a1), (2, .int a2)]) (st' := [.int (if (f_X5_hasPlaces S 1 a1 a2 (1 : Int32)) = 0 then (0 : Int32) else (gI S (3 + a1.toNatClampNeg) a2.toNatClampNeg))]) ?_ (fun Jc1 => ?_)
  · generalize ex2 : (if (f_X5_hasPlaces S 1 a1 a2 (1 : Int32)) = 0 then (0 : Int32) else (gI S (3 + a1.toNatClampNeg) a2.toNatClampNeg)) = x2
    refine aw_iret hC dX5_itemAt_22 (Nat.le_refl _) (Nat.le_refl _) ?_
    exact FP.pI ((bd_eq ex2).trans (rfl))
  · refine aw_if_eq hC 21 dX5_itemAt_7 (by decide) (fun c1 => ?_) (fun c1 => ?_)
    · refine aw_iconst (v := 0) hC dX5_itemAt_21 (by decide) ?_
      simp only [bd_def, if_pos c1] at Jc1 ⊢
      exact Jc1
    · refine aw_aload_n hC 0 dX5_itemAt_10 rfl rfl ?_
      refine aw_getP (b := 2) hC hSt 0 (cs_lt 1 5 0 (by decide) hM) (cs_k 1 5 0 (by decide) hM) rfl (by decide) w_465 rfl (cs_p 1 0 2 (by decide) hM) dX5_itemAt_11 ?_
      refine aw_iload_n hC 1 dX5_itemAt_14 rfl rfl ?_
      refine aw_aaldI hC hSt (cs_lt 2 19 8 (by decide) hM) (cs_k 2 19 8 (by decide) hM) (vp_len (n := 8) (cs_l 2 19 8 (by decide) hM) (h1 c1)) (cs_p 2 a1.toNatClampNeg (3 + a1.toNatClampNeg) (ar_p2 (h1 c1)) hM) dX5_itemAt_15 ?_
      refine aw_iload_n hC 2 dX5_itemAt_16 rfl rfl ?_
      refine aw_iald hC hSt (cs_lt (3 + a1.toNatClampNeg) 14 40 (ar_m2 (h1 c1)) hM) (cs_k (3 + a1.toNatClampNeg) 14 40 (ar_m2 (h1 c1)) hM) (vp_len (n := 40) (cs_l (3 + a1.toNatClampNeg) 14 40 (ar_m2 (h1 c1)) hM) (h2 c1)) dX5_itemAt_17 ?_
      refine aw_goto hC 22 dX5_itemAt_18 (by decide) ?_
      simp only [bd_def, if_neg c1] at Jc1 ⊢
      exact Jc1
noncomputable def f_X5_make (S : HSt) (_o0 : Nat) (a1 : Int32) (a2 : Int32) (a3 : Int32) : HSt := bd ((if (f_X5_isRow S a1) = 0 then S else (if a3 < 0 then S else (if (40 : Int32) < a3 then S else (bd ((sI S 11 a1.toNatClampNeg a2)) fun S4 => bd ((sI S4 12 a1.toNatClampNeg a3)) fun S5 => bd (f_J7_fill_53178 S5 (3 + a1.toNatClampNeg) (0 : Int32)) fun r6 => r6))))) fun S7 => S7
def p_X5_make (S : HSt) (_o0 : Nat) (a1 : Int32) (a2 : Int32) (a3 : Int32) : Prop := ((¬ (f_X5_isRow S a1) = 0) → (¬ a3 < 0) → (¬ (40 : Int32) < a3) → vp_in a1 8) ∧ ((¬ (f_X5_isRow S a1) = 0) → (¬ a3 < 0) → (¬ (40 : Int32) < a3) → ∀ S4 : HSt, (sI S 11 a1.toNatClampNeg a2) = S4 → vp_in a1 8) ∧ ((¬ (f_X5_isRow S a1) = 0) → (¬ a3 < 0) → (¬ (40 : Int32) < a3) → ∀ S4 : HSt, (sI S 11 a1.toNatClampNeg a2) = S4 → ∀ S5 : HSt, (sI S4 12 a1.toNatClampNeg a3) = S5 → vp_in a1 8) ∧ ((¬ (f_X5_isRow S a1) = 0) → (¬ a3 < 0) → (¬ (40 : Int32) < a3) → ∀ S4 : HSt, (sI S 11 a1.toNatClampNeg a2) = S4 → ∀ S5 : HSt, (sI S4 12 a1.toNatClampNeg a3) = S5 → p_J7_fill_53178 S5 (3 + a1.toNatClampNeg) (0 : Int32))
set_option maxRecDepth 100000 in
theorem t_X5_make (G : GG) (l : Launch) {S : HSt} (hM : CS S) (a1 : Int32) (a2 : Int32) (a3 : Int32)  (hp : p_X5_make S 1 a1 a2 a3) : AM G l yX5_make cX5_make 4 none (rmD 1 0 0) 0 0 [.ref 1, .int a1, .int a2, .int a3] S (FP none (f_X5_make S 1 a1 a2 a3)) := by
  obtain ⟨h0, h1, h2, h3⟩ := hp
  refine AM.mk (by decide) (Nat.le_of_ble_eq_true rfl) ?_
  intro p e s m below meth c hC hSt _
  refine aw_iload_n hC 1 dX5_make_0 rfl rfl ?_
  refine aw_cS1r hC hSt (t_X5_isRow G l  _) w_469 w_471 w_472 w_473 rfl rfl (by decide +kernel) ⟨Nat.le_of_ble_eq_true rfl, Nat.le_of_ble_eq_true rfl⟩ (Nat.le_of_ble_eq_true rfl) dX5_make_1 ⟨Nat.zero_le _, Nat.zero_le _⟩ ?_
  refine aw_cut (S' := (if (f_X5_isRow S a1) = 0 then S else (if a3 < 0 then S else (if (40 : Int32) < a3 then S else (bd ((sI S 11 a1.toNatClampNeg a2)) fun S4 => bd ((sI S4 12 a1.toNatClampNeg a3)) fun S5 => bd (f_J7_fill_53178 S5 (3 + a1.toNatClampNeg) (0 : Int32)) fun r6 => r6))))) (pc' := 41) (lv' := [(0, .ref 1), (1, .int a1), (2, .int a2), (3, .int a3)]) (st' := []) ?_ (fun Jc1 => ?_)
  · generalize eS7 : (if (f_X5_isRow S a1) = 0 then S else (if a3 < 0 then S else (if (40 : Int32) < a3 then S else (bd ((sI S 11 a1.toNatClampNeg a2)) fun S4 => bd ((sI S4 12 a1.toNatClampNeg a3)) fun S5 => bd (f_J7_fill_53178 S5 (3 + a1.toNatClampNeg) (0 : Int32)) fun r6 => r6)))) = S7
    have hM : CS S7 := CS.of (by rw [← eS7]; repeat' (first | with_reducible rfl | with_reducible refine (q_J7_fill_53178 _ _ _).trans ?_ | with_reducible refine (shp_sI _ _ _ _).trans ?_ | with_reducible refine (shp_sJ _ _ _ _).trans ?_ | with_reducible refine (shp_rI _ _ _).trans ?_ | with_reducible refine shi ?_ ?_ | with_reducible refine shb (fun _ _ => ?_) | (subst_vars; with_reducible rfl) | (subst_vars; with_reducible refine (q_J7_fill_53178 _ _ _).trans ?_) | (subst_vars; with_reducible refine (shp_sI _ _ _ _).trans ?_) | (subst_vars; with_reducible refine (shp_sJ _ _ _ _).trans ?_) | (subst_vars; with_reducible refine (shp_rI _ _ _).trans ?_) | (subst_vars; with_reducible refine shi ?_ ?_) | (subst_vars; with_reducible refine shb (fun _ _ => ?_)))) hM
    refine aw_vret hC dX5_make_41 (Nat.le_refl _) (Nat.le_refl _) ?_
    exact FP.qV ((bd_eq eS7).trans (rfl))
  · refine aw_if_eq hC 41 dX5_make_4 (by decide) (fun c1 => ?_) (fun c1 => ?_)
    · simp only [bd_def, if_pos c1] at Jc1 ⊢
      exact Jc1
    · refine aw_iload_n hC 3 dX5_make_7 rfl rfl ?_
      refine aw_if_lt hC 41 dX5_make_8 (by decide) (fun c2 => ?_) (fun c2 => ?_)
      · simp only [bd_def, if_neg c1, if_pos c2] at Jc1 ⊢
        exact Jc1
      · refine aw_iload_n hC 3 dX5_make_11 rfl rfl ?_
        refine aw_bipush (v := 40) hC dX5_make_12 (by decide) ?_
        refine aw_icmp_gt hC 41 dX5_make_14 (by decide) (fun c3 => ?_) (fun c3 => ?_)
        · simp only [bd_def, if_neg c1, if_neg c2, if_pos c3] at Jc1 ⊢
          exact Jc1
        · refine aw_aload_n hC 0 dX5_make_17 rfl rfl ?_
          refine aw_getP (b := 11) hC hSt 1 (cs_lt 1 5 0 (by decide) hM) (cs_k 1 5 0 (by decide) hM) rfl (by decide) w_466 rfl (cs_p 1 1 11 (by decide) hM) dX5_make_18 ?_
          refine aw_iload_n hC 1 dX5_make_21 rfl rfl ?_
          refine aw_iload_n hC 2 dX5_make_22 rfl rfl ?_
          refine aw_iast hC hSt (cs_lt 11 14 8 (by decide) hM) (cs_k 11 14 8 (by decide) hM) (vp_len (n := 8) (cs_l 11 14 8 (by decide) hM) (h0 c1 c2 c3)) dX5_make_23 ?_
          generalize eS4 : (sI S 11 a1.toNatClampNeg a2) = S4
          have hM : CS S4 := CS.of (by rw [← eS4]; exact shp_sI _ _ _ _) hM
          refine aw_aload_n hC 0 dX5_make_24 rfl rfl ?_
          refine aw_getP (b := 12) hC hSt 2 (cs_lt 1 5 0 (by decide) hM) (cs_k 1 5 0 (by decide) hM) rfl (by decide) w_467 rfl (cs_p 1 2 12 (by decide) hM) dX5_make_25 ?_
          refine aw_iload_n hC 1 dX5_make_28 rfl rfl ?_
          refine aw_iload_n hC 3 dX5_make_29 rfl rfl ?_
          refine aw_iast hC hSt (cs_lt 12 14 8 (by decide) hM) (cs_k 12 14 8 (by decide) hM) (vp_len (n := 8) (cs_l 12 14 8 (by decide) hM) (h1 c1 c2 c3 S4 eS4)) dX5_make_30 ?_
          generalize eS5 : (sI S4 12 a1.toNatClampNeg a3) = S5
          have hM : CS S5 := CS.of (by rw [← eS5]; exact shp_sI _ _ _ _) hM
          refine aw_aload_n hC 0 dX5_make_31 rfl rfl ?_
          refine aw_getP (b := 2) hC hSt 0 (cs_lt 1 5 0 (by decide) hM) (cs_k 1 5 0 (by decide) hM) rfl (by decide) w_465 rfl (cs_p 1 0 2 (by decide) hM) dX5_make_32 ?_
          refine aw_iload_n hC 1 dX5_make_35 rfl rfl ?_
          refine aw_aaldI hC hSt (cs_lt 2 19 8 (by decide) hM) (cs_k 2 19 8 (by decide) hM) (vp_len (n := 8) (cs_l 2 19 8 (by decide) hM) (h2 c1 c2 c3 S4 eS4 S5 eS5)) (cs_p 2 a1.toNatClampNeg (3 + a1.toNatClampNeg) (ar_p2 (h2 c1 c2 c3 S4 eS4 S5 eS5)) hM) dX5_make_36 ?_
          refine aw_iconst (v := 0) hC dX5_make_37 (by decide) ?_
          refine aw_cS2v hC hSt (t_J7_fill_53178 G l hM _ _ ⟨40, (ar_m2 (h2 c1 c2 c3 S4 eS4 S5 eS5))⟩ (h3 c1 c2 c3 S4 eS4 S5 eS5)) w_145 w_468 w_260 w_261 rfl rfl (by decide +kernel) ⟨Nat.le_of_ble_eq_true rfl, Nat.le_of_ble_eq_true rfl⟩ (Nat.le_of_ble_eq_true rfl) dX5_make_38 ⟨Nat.zero_le _, Nat.zero_le _⟩ ?_
          generalize er6 : f_J7_fill_53178 S5 (3 + a1.toNatClampNeg) (0 : Int32) = r6
          have hM : CS r6 := CS.of (by rw [← er6]; exact q_J7_fill_53178 _ _ _) hM
          subst er6
          subst eS5
          subst eS4
          simp only [bd_def, if_neg c1, if_neg c2, if_neg c3] at Jc1 ⊢
          exact Jc1
theorem q_X5_make (S : HSt) (_o0 : Nat) (a1 : Int32) (a2 : Int32) (a3 : Int32) : shp (f_X5_make S _o0 a1 a2 a3) = shp S := by
  unfold f_X5_make
  repeat' (first | with_reducible rfl | with_reducible refine (q_J7_fill_53178 _ _ _).trans ?_ | with_reducible refine (shp_sI _ _ _ _).trans ?_ | with_reducible refine (shp_sJ _ _ _ _).trans ?_ | with_reducible refine (shp_rI _ _ _).trans ?_ | with_reducible refine shi ?_ ?_ | with_reducible refine shb (fun _ _ => ?_) | (subst_vars; with_reducible rfl) | (subst_vars; with_reducible refine (q_J7_fill_53178 _ _ _).trans ?_) | (subst_vars; with_reducible refine (shp_sI _ _ _ _).trans ?_) | (subst_vars; with_reducible refine (shp_sJ _ _ _ _).trans ?_) | (subst_vars; with_reducible refine (shp_rI _ _ _).trans ?_) | (subst_vars; with_reducible refine shi ?_ ?_) | (subst_vars; with_reducible refine shb (fun _ _ => ?_)))
noncomputable def f_X5_carry (S : HSt) (_o0 : Nat) (a1 : Int32) (a2 : Int32) (a3 : Int32) (a4 : Int32) (a5 : Int32) : HSt := bd ((if (f_X5_hasPlaces S 1 a1 a2 a5) = 0 then S else (if (f_X5_hasPlaces S 1 a3 a4 a5) = 0 then S else (bd ((rI S (3 + a3.toNatClampNeg) (va_cpy (gI S (3 + a1.toNatClampNeg)) (gI S (3 + a3.toNatClampNeg)) a2.toNatClampNeg a4.toNatClampNeg a5.toNatClampNeg))) fun S3 => S3)))) fun S4 => S4
def p_X5_carry (S : HSt) (_o0 : Nat) (a1 : Int32) (a2 : Int32) (a3 : Int32) (a4 : Int32) (a5 : Int32) : Prop := (p_X5_hasPlaces S 1 a1 a2 a5) ∧ ((¬ (f_X5_hasPlaces S 1 a1 a2 a5) = 0) → p_X5_hasPlaces S 1 a3 a4 a5) ∧ ((¬ (f_X5_hasPlaces S 1 a1 a2 a5) = 0) → (¬ (f_X5_hasPlaces S 1 a3 a4 a5) = 0) → vp_in a1 8) ∧ ((¬ (f_X5_hasPlaces S 1 a1 a2 a5) = 0) → (¬ (f_X5_hasPlaces S 1 a3 a4 a5) = 0) → vp_in a3 8) ∧ ((¬ (f_X5_hasPlaces S 1 a1 a2 a5) = 0) → (¬ (f_X5_hasPlaces S 1 a3 a4 a5) = 0) → ¬ a2 < 0) ∧ ((¬ (f_X5_hasPlaces S 1 a1 a2 a5) = 0) → (¬ (f_X5_hasPlaces S 1 a3 a4 a5) = 0) → ¬ a4 < 0) ∧ ((¬ (f_X5_hasPlaces S 1 a1 a2 a5) = 0) → (¬ (f_X5_hasPlaces S 1 a3 a4 a5) = 0) → ¬ a5 < 0) ∧ ((¬ (f_X5_hasPlaces S 1 a1 a2 a5) = 0) → (¬ (f_X5_hasPlaces S 1 a3 a4 a5) = 0) → a2.toNatClampNeg + a5.toNatClampNeg ≤ 40) ∧ ((¬ (f_X5_hasPlaces S 1 a1 a2 a5) = 0) → (¬ (f_X5_hasPlaces S 1 a3 a4 a5) = 0) → a4.toNatClampNeg + a5.toNatClampNeg ≤ 40)
set_option maxRecDepth 100000 in
theorem t_X5_carry (G : GG) (l : Launch) {S : HSt} (hM : CS S) (a1 : Int32) (a2 : Int32) (a3 : Int32) (a4 : Int32) (a5 : Int32)  (hp : p_X5_carry S 1 a1 a2 a3 a4 a5) : AM G l yX5_carry cX5_carry 6 none (rmD 3 0 0) 0 0 [.ref 1, .int a1, .int a2, .int a3, .int a4, .int a5] S (FP none (f_X5_carry S 1 a1 a2 a3 a4 a5)) := by
  obtain ⟨h0, h1, h2, h3, h4, h5, h6, h7, h8⟩ := hp
  refine AM.mk (by decide) (Nat.le_of_ble_eq_true rfl) ?_
  intro p e s m below meth c hC hSt _
  refine aw_aload_n hC 0 dX5_carry_0 rfl rfl ?_
  refine aw_iload_n hC 1 dX5_carry_1 rfl rfl ?_
  refine aw_iload_n hC 2 dX5_carry_2 rfl rfl ?_
  refine aw_iload hC 5 dX5_carry_3 rfl ?_
  refine aw_cV3r hC hSt (t_X5_hasPlaces G l hM _ _ _ (h0)) w_476 w_482 w_483 w_484 w_473 rfl rfl (by decide +kernel) ⟨Nat.le_of_ble_eq_true rfl, Nat.le_of_ble_eq_true rfl⟩ (cs_lt 1 5 0 (by decide) hM) (cs_k 1 5 0 (by decide) hM) rfl (Nat.le_of_ble_eq_true rfl) dX5_carry_5 ⟨Nat.zero_le _, Nat.zero_le _⟩ ?_
  refine aw_cut (S' := (if (f_X5_hasPlaces S 1 a1 a2 a5) = 0 then S else (if (f_X5_hasPlaces S 1 a3 a4 a5) = 0 then S else (bd ((rI S (3 + a3.toNatClampNeg) (va_cpy (gI S (3 + a1.toNatClampNeg)) (gI S (3 + a3.toNatClampNeg)) a2.toNatClampNeg a4.toNatClampNeg a5.toNatClampNeg))) fun S3 => S3)))) (pc' := 43) (lv' := [(0, .ref 1), (1, .int a1), (2, .int a2), (3, .int a3), (4, .int a4), (5, .int a5)]) (st' := []) ?_ (fun Jc1 => ?_)
  · generalize eS4 : (if (f_X5_hasPlaces S 1 a1 a2 a5) = 0 then S else (if (f_X5_hasPlaces S 1 a3 a4 a5) = 0 then S else (bd ((rI S (3 + a3.toNatClampNeg) (va_cpy (gI S (3 + a1.toNatClampNeg)) (gI S (3 + a3.toNatClampNeg)) a2.toNatClampNeg a4.toNatClampNeg a5.toNatClampNeg))) fun S3 => S3))) = S4
    have hM : CS S4 := CS.of (by rw [← eS4]; repeat' (first | with_reducible rfl | with_reducible refine (shp_sI _ _ _ _).trans ?_ | with_reducible refine (shp_sJ _ _ _ _).trans ?_ | with_reducible refine (shp_rI _ _ _).trans ?_ | with_reducible refine shi ?_ ?_ | with_reducible refine shb (fun _ _ => ?_) | (subst_vars; with_reducible rfl) | (subst_vars; with_reducible refine (shp_sI _ _ _ _).trans ?_) | (subst_vars; with_reducible refine (shp_sJ _ _ _ _).trans ?_) | (subst_vars; with_reducible refine (shp_rI _ _ _).trans ?_) | (subst_vars; with_reducible refine shi ?_ ?_) | (subst_vars; with_reducible refine shb (fun _ _ => ?_)))) hM
    refine aw_vret hC dX5_carry_43 (Nat.le_refl _) (Nat.le_refl _) ?_
    exact FP.qV ((bd_eq eS4).trans (rfl))
  · refine aw_if_eq hC 43 dX5_carry_8 (by decide) (fun c1 => ?_) (fun c1 => ?_)
    · simp only [bd_def, if_pos c1] at Jc1 ⊢
      exact Jc1
    · refine aw_aload_n hC 0 dX5_carry_11 rfl rfl ?_
      refine aw_iload_n hC 3 dX5_carry_12 rfl rfl ?_
      refine aw_iload hC 4 dX5_carry_13 rfl ?_
      refine aw_iload hC 5 dX5_carry_15 rfl ?_
      refine aw_cV3r hC hSt (t_X5_hasPlaces G l hM _ _ _ (h1 c1)) w_476 w_482 w_483 w_484 w_473 rfl rfl (by decide +kernel) ⟨Nat.le_of_ble_eq_true rfl, Nat.le_of_ble_eq_true rfl⟩ (cs_lt 1 5 0 (by decide) hM) (cs_k 1 5 0 (by decide) hM) rfl (Nat.le_of_ble_eq_true rfl) dX5_carry_17 ⟨Nat.zero_le _, Nat.zero_le _⟩ ?_
      refine aw_if_eq hC 43 dX5_carry_20 (by decide) (fun c2 => ?_) (fun c2 => ?_)
      · simp only [bd_def, if_neg c1, if_pos c2] at Jc1 ⊢
        exact Jc1
      · refine aw_aload_n hC 0 dX5_carry_23 rfl rfl ?_
        refine aw_getP (b := 2) hC hSt 0 (cs_lt 1 5 0 (by decide) hM) (cs_k 1 5 0 (by decide) hM) rfl (by decide) w_465 rfl (cs_p 1 0 2 (by decide) hM) dX5_carry_24 ?_
        refine aw_iload_n hC 1 dX5_carry_27 rfl rfl ?_
        refine aw_aaldI hC hSt (cs_lt 2 19 8 (by decide) hM) (cs_k 2 19 8 (by decide) hM) (vp_len (n := 8) (cs_l 2 19 8 (by decide) hM) (h2 c1 c2)) (cs_p 2 a1.toNatClampNeg (3 + a1.toNatClampNeg) (ar_p2 (h2 c1 c2)) hM) dX5_carry_28 ?_
        refine aw_iload_n hC 2 dX5_carry_29 rfl rfl ?_
        refine aw_aload_n hC 0 dX5_carry_30 rfl rfl ?_
        refine aw_getP (b := 2) hC hSt 0 (cs_lt 1 5 0 (by decide) hM) (cs_k 1 5 0 (by decide) hM) rfl (by decide) w_465 rfl (cs_p 1 0 2 (by decide) hM) dX5_carry_31 ?_
        refine aw_iload_n hC 3 dX5_carry_34 rfl rfl ?_
        refine aw_aaldI hC hSt (cs_lt 2 19 8 (by decide) hM) (cs_k 2 19 8 (by decide) hM) (vp_len (n := 8) (cs_l 2 19 8 (by decide) hM) (h3 c1 c2)) (cs_p 2 a3.toNatClampNeg (3 + a3.toNatClampNeg) (ar_p2 (h3 c1 c2)) hM) dX5_carry_35 ?_
        refine aw_iload hC 4 dX5_carry_36 rfl ?_
        refine aw_iload hC 5 dX5_carry_38 rfl ?_
        refine aw_copy hC hSt (cs_lt (3 + a1.toNatClampNeg) 14 40 (ar_m2 (h2 c1 c2)) hM) (cs_k (3 + a1.toNatClampNeg) 14 40 (ar_m2 (h2 c1 c2)) hM) (cs_lt (3 + a3.toNatClampNeg) 14 40 (ar_m2 (h3 c1 c2)) hM) (cs_k (3 + a3.toNatClampNeg) 14 40 (ar_m2 (h3 c1 c2)) hM) (h4 c1 c2) (h5 c1 c2) (h6 c1 c2) (by rw [show gL _ _ = 40 from (cs_l (3 + a1.toNatClampNeg) 14 40 (ar_m2 (h2 c1 c2)) hM)]; exact (h7 c1 c2)) (by rw [show gL _ _ = 40 from (cs_l (3 + a3.toNatClampNeg) 14 40 (ar_m2 (h3 c1 c2)) hM)]; exact (h8 c1 c2)) w_487 w_149 w_150 w_151 (by decide) (Nat.le_of_ble_eq_true rfl) dX5_carry_40 ?_
        generalize eS3 : (rI S (3 + a3.toNatClampNeg) (va_cpy (gI S (3 + a1.toNatClampNeg)) (gI S (3 + a3.toNatClampNeg)) a2.toNatClampNeg a4.toNatClampNeg a5.toNatClampNeg)) = S3
        have hM : CS S3 := CS.of (by rw [← eS3]; exact shp_rI _ _ _) hM
        subst eS3
        simp only [bd_def, if_neg c1, if_neg c2] at Jc1 ⊢
        exact Jc1
theorem q_X5_carry (S : HSt) (_o0 : Nat) (a1 : Int32) (a2 : Int32) (a3 : Int32) (a4 : Int32) (a5 : Int32) : shp (f_X5_carry S _o0 a1 a2 a3 a4 a5) = shp S := by
  unfold f_X5_carry
  repeat' (first | with_reducible rfl | with_reducible refine (shp_sI _ _ _ _).trans ?_ | with_reducible refine (shp_sJ _ _ _ _).trans ?_ | with_reducible refine (shp_rI _ _ _).trans ?_ | with_reducible refine shi ?_ ?_ | with_reducible refine shb (fun _ _ => ?_) | (subst_vars; with_reducible rfl) | (subst_vars; with_reducible refine (shp_sI _ _ _ _).trans ?_) | (subst_vars; with_reducible refine (shp_sJ _ _ _ _).trans ?_) | (subst_vars; with_reducible refine (shp_rI _ _ _).trans ?_) | (subst_vars; with_reducible refine shi ?_ ?_) | (subst_vars; with_reducible refine shb (fun _ _ => ?_)))