def f_X9_aim (S : HSt) (o : Nat) (sc1 : Nat) (lp2 : Nat) (a3 : Int32) (a4 : Int32) : HSt := bd (f_X9_face S o sc1 (gI S lp2 4) a3 a4) fun r1 => bd ((sI r1 o 2 (0 : Int32))) fun S2 => bd ((sI S2 o 1 (0 : Int32))) fun S3 => bd ((sI S3 o 0 (999 : Int32))) fun S4 => if (f_X1_hasFallen S4 lp2) = 0 then (bd ((sI S4 o 2 (f_X9_sumAt S4 o (gI S4 lp2 0) (gI S4 lp2 1)))) fun S6 => bd ((f_X9_flightBy S6 o (gI S6 lp2 1))) fun x7 => bd (((gI S6 lp2 0) - (f_X9_sizeFor S6 o x7))) fun x8 => bd ((if x7 = 0 then (0 : Int32) else (if (0 : Int32) < x8 then x8 else (0 : Int32)))) fun x10 => bd ((sI S6 o 1 x10)) fun S11 => bd ((if x7 = 0 then (500 : Int32) else (if (0 : Int32) < (-x8) then (-x8) else (0 : Int32)))) fun x13 => bd ((sI S11 o 0 x13)) fun S14 => S14) else (S4)
def p_X9_aim (S : HSt) (o : Nat) (sc1 : Nat) (lp2 : Nat) (a3 : Int32) (a4 : Int32) : Prop := (p_X9_face S o sc1 (gI S lp2 4) a3 a4) ∧ (∀ r1, f_X9_face S o sc1 (gI S lp2 4) a3 a4 = r1 → ∀ S2 : HSt, (sI r1 o 2 (0 : Int32)) = S2 → ∀ S3 : HSt, (sI S2 o 1 (0 : Int32)) = S3 → ∀ S4 : HSt, (sI S3 o 0 (999 : Int32)) = S4 → ((f_X1_hasFallen S4 lp2) = 0) → p_X9_sumAt S4 o (gI S4 lp2 0) (gI S4 lp2 1)) ∧ (∀ r1, f_X9_face S o sc1 (gI S lp2 4) a3 a4 = r1 → ∀ S2 : HSt, (sI r1 o 2 (0 : Int32)) = S2 → ∀ S3 : HSt, (sI S2 o 1 (0 : Int32)) = S3 → ∀ S4 : HSt, (sI S3 o 0 (999 : Int32)) = S4 → ((f_X1_hasFallen S4 lp2) = 0) → ∀ S6 : HSt, (sI S4 o 2 (f_X9_sumAt S4 o (gI S4 lp2 0) (gI S4 lp2 1))) = S6 → p_X9_flightBy S6 o (gI S6 lp2 1))
set_option maxRecDepth 100000 in
theorem t_X9_aim (G : GG) (l : Launch) {S : HSt} (hM : CS S) (o : Nat) (sc1 : Nat) (lp2 : Nat) (a3 : Int32) (a4 : Int32) (ho : (o, 9, 0) ∈ cKT) (hsc1 : (sc1, 7, 0) ∈ cKT) (hlp2 : (lp2, 1, 0) ∈ cKT) (hp : p_X9_aim S o sc1 lp2 a3 a4) : AM G l yX9_aim cX9_aim 7 none (rmD 3 0 0) 0 0 [.ref o, .ref sc1, .ref lp2, .int a3, .int a4] S (FP none (f_X9_aim S o sc1 lp2 a3 a4)) := by
  obtain ⟨h0, h1, h2⟩ := hp
  refine AM.mk (by decide) (Nat.le_of_ble_eq_true rfl) ?_
  intro p e s m below meth c hC hSt _
  refine aw_aload_n hC 0 dX9_aim_0 rfl rfl ?_
  refine aw_aload_n hC 1 dX9_aim_1 rfl rfl ?_
  refine aw_aload_n hC 2 dX9_aim_2 rfl rfl ?_
  refine aw_getI hC hSt 4 (cs_lt lp2 1 0 hlp2 hM) (cs_k lp2 1 0 hlp2 hM) rfl (by decide) w_504 rfl dX9_aim_3 ?_
  refine aw_iload_n hC 3 dX9_aim_6 rfl rfl ?_
  refine aw_iload hC 4 dX9_aim_7 rfl ?_
  refine aw_cV4v hC hSt (t_X9_face G l hM _ _ _ _ _ ho hsc1 (h0)) w_172 w_188 w_189 w_190 w_140 rfl rfl (by decide +kernel) ⟨Nat.le_of_ble_eq_true rfl, Nat.le_of_ble_eq_true rfl⟩ (cs_lt o 9 0 ho hM) (cs_k o 9 0 ho hM) rfl (Nat.le_of_ble_eq_true rfl) dX9_aim_9 ⟨Nat.zero_le _, Nat.zero_le _⟩ ?_
  generalize er1 : f_X9_face S o sc1 (gI S lp2 4) a3 a4 = r1
  have hM : CS r1 := CS.of (by rw [← er1]; exact q_X9_face _ _ _ _ _ _) hM
  refine aw_aload_n hC 0 dX9_aim_12 rfl rfl ?_
  refine aw_iconst (v := 0) hC dX9_aim_13 (by decide) ?_
  refine aw_putI hC hSt 2 (cs_lt o 9 0 ho hM) (cs_k o 9 0 ho hM) rfl (by decide) w_505 rfl rfl rfl rfl dX9_aim_14 ?_
  generalize eS2 : (sI r1 o 2 (0 : Int32)) = S2
  have hM : CS S2 := CS.of (by rw [← eS2]; exact shp_sI _ _ _ _) hM
  refine aw_aload_n hC 0 dX9_aim_17 rfl rfl ?_
  refine aw_iconst (v := 0) hC dX9_aim_18 (by decide) ?_
  refine aw_putI hC hSt 1 (cs_lt o 9 0 ho hM) (cs_k o 9 0 ho hM) rfl (by decide) w_506 rfl rfl rfl rfl dX9_aim_19 ?_
  generalize eS3 : (sI S2 o 1 (0 : Int32)) = S3
  have hM : CS S3 := CS.of (by rw [← eS3]; exact shp_sI _ _ _ _) hM
  refine aw_aload_n hC 0 dX9_aim_22 rfl rfl ?_
  refine aw_sipush (v := 999) hC dX9_aim_23 (by decide) ?_
  refine aw_putI hC hSt 0 (cs_lt o 9 0 ho hM) (cs_k o 9 0 ho hM) rfl (by decide) w_507 rfl rfl rfl rfl dX9_aim_26 ?_
  generalize eS4 : (sI S3 o 0 (999 : Int32)) = S4
  have hM : CS S4 := CS.of (by rw [← eS4]; exact shp_sI _ _ _ _) hM
  refine aw_aload_n hC 2 dX9_aim_29 rfl rfl ?_
  refine aw_cV0r hC hSt (t_X1_hasFallen G l hM _ hlp2) w_88 w_510 w_204 w_205 w_84 rfl rfl (by decide +kernel) ⟨Nat.le_of_ble_eq_true rfl, Nat.le_of_ble_eq_true rfl⟩ (cs_lt lp2 1 0 hlp2 hM) (cs_k lp2 1 0 hlp2 hM) rfl (Nat.le_of_ble_eq_true rfl) dX9_aim_30 ⟨Nat.zero_le _, Nat.zero_le _⟩ ?_
  refine aw_if_eq hC 37 dX9_aim_33 (by decide) (fun c5 => ?_) (fun c5 => ?_)
  · refine aw_aload_n hC 0 dX9_aim_37 rfl rfl ?_
    refine aw_aload_n hC 0 dX9_aim_38 rfl rfl ?_
    refine aw_aload_n hC 2 dX9_aim_39 rfl rfl ?_
    refine aw_getI hC hSt 0 (cs_lt lp2 1 0 hlp2 hM) (cs_k lp2 1 0 hlp2 hM) rfl (by decide) w_508 rfl dX9_aim_40 ?_
    refine aw_aload_n hC 2 dX9_aim_43 rfl rfl ?_
    refine aw_getI hC hSt 1 (cs_lt lp2 1 0 hlp2 hM) (cs_k lp2 1 0 hlp2 hM) rfl (by decide) w_509 rfl dX9_aim_44 ?_
    refine aw_cV2r hC hSt (t_X9_sumAt G l hM _ _ _ ho (h1 r1 er1 S2 eS2 S3 eS3 S4 eS4 c5)) w_177 w_191 w_192 w_193 w_140 rfl rfl (by decide +kernel) ⟨Nat.le_of_ble_eq_true rfl, Nat.le_of_ble_eq_true rfl⟩ (cs_lt o 9 0 ho hM) (cs_k o 9 0 ho hM) rfl (Nat.le_of_ble_eq_true rfl) dX9_aim_47 ⟨Nat.zero_le _, Nat.zero_le _⟩ ?_
    refine aw_putI hC hSt 2 (cs_lt o 9 0 ho hM) (cs_k o 9 0 ho hM) rfl (by decide) w_505 rfl rfl rfl rfl dX9_aim_50 ?_
    generalize eS6 : (sI S4 o 2 (f_X9_sumAt S4 o (gI S4 lp2 0) (gI S4 lp2 1))) = S6
    have hM : CS S6 := CS.of (by rw [← eS6]; exact shp_sI _ _ _ _) hM
    refine aw_aload_n hC 0 dX9_aim_53 rfl rfl ?_
    refine aw_aload_n hC 2 dX9_aim_54 rfl rfl ?_
    refine aw_getI hC hSt 1 (cs_lt lp2 1 0 hlp2 hM) (cs_k lp2 1 0 hlp2 hM) rfl (by decide) w_509 rfl dX9_aim_55 ?_
    refine aw_cV1r hC hSt (t_X9_flightBy G l hM _ _ ho (h2 r1 er1 S2 eS2 S3 eS3 S4 eS4 c5 S6 eS6)) w_173 w_178 w_179 w_180 w_140 rfl rfl (by decide +kernel) ⟨Nat.le_of_ble_eq_true rfl, Nat.le_of_ble_eq_true rfl⟩ (cs_lt o 9 0 ho hM) (cs_k o 9 0 ho hM) rfl (Nat.le_of_ble_eq_true rfl) dX9_aim_58 ⟨Nat.zero_le _, Nat.zero_le _⟩ ?_
    refine aw_istore hC [(5, .int _), (0, .ref o), (1, .ref sc1), (2, .ref lp2), (3, .int _), (4, .int _)] dX9_aim_61 (by decide) rfl ?_
    generalize ex7 : (f_X9_flightBy S6 o (gI S6 lp2 1)) = x7
    refine aw_aload_n hC 3 dX9_aim_63 rfl rfl ?_
    refine aw_getI hC hSt 0 (cs_lt lp2 1 0 hlp2 hM) (cs_k lp2 1 0 hlp2 hM) rfl (by decide) w_508 rfl dX9_aim_64 ?_
    refine aw_aload_n hC 1 dX9_aim_67 rfl rfl ?_
    refine aw_iload hC 0 dX9_aim_68 rfl ?_
    refine aw_cV1r hC hSt (t_X9_sizeFor G l hM _ _ ho) w_175 w_181 w_182 w_183 w_140 rfl rfl (by decide +kernel) ⟨Nat.le_of_ble_eq_true rfl, Nat.le_of_ble_eq_true rfl⟩ (cs_lt o 9 0 ho hM) (cs_k o 9 0 ho hM) rfl (Nat.le_of_ble_eq_true rfl) dX9_aim_70 ⟨Nat.zero_le _, Nat.zero_le _⟩ ?_
    refine aw_isub hC dX9_aim_73 ?_
    refine aw_istore hC [(6, .int _), (5, .int _), (0, .ref o), (1, .ref sc1), (2, .ref lp2), (3, .int _), (4, .int _)] dX9_aim_74 (by decide) rfl ?_
    generalize ex8 : ((gI S6 lp2 0) - (f_X9_sizeFor S6 o x7)) = x8
    refine aw_aload_n hC 2 dX9_aim_76 rfl rfl ?_
    refine aw_iload hC 1 dX9_aim_77 rfl ?_
    refine aw_cut (S' := S6) (pc' := 92) (lv' := [(6, .int x8), (5, .int x7), (0, .ref o), (1, .ref sc1), (2, .ref lp2), (3, .int a3), (4, .int a4)]) (st' := [.int (if x7 = 0 then (0 : Int32) else (if (0 : Int32) < x8 then x8 else (0 : Int32))), .ref o]) ?_ (fun Jc9 => ?_)
    · generalize ex10 : (if x7 = 0 then (0 : Int32) else (if (0 : Int32) < x8 then x8 else (0 : Int32))) = x10
      refine aw_putI hC hSt 1 (cs_lt o 9 0 ho hM) (cs_k o 9 0 ho hM) rfl (by decide) w_506 rfl rfl rfl rfl dX9_aim_92 ?_
      generalize eS11 : (sI S6 o 1 x10) = S11
      have hM : CS S11 := CS.of (by rw [← eS11]; exact shp_sI _ _ _ _) hM
      refine aw_aload_n hC 2 dX9_aim_95 rfl rfl ?_
      refine aw_iload hC 1 dX9_aim_96 rfl ?_
      refine aw_cut (S' := S11) (pc' := 114) (lv' := [(6, .int x8), (5, .int x7), (0, .ref o), (1, .ref sc1), (2, .ref lp2), (3, .int a3), (4, .int a4)]) (st' := [.int (if x7 = 0 then (500 : Int32) else (if (0 : Int32) < (-x8) then (-x8) else (0 : Int32))), .ref o]) ?_ (fun Jc12 => ?_)
      · generalize ex13 : (if x7 = 0 then (500 : Int32) else (if (0 : Int32) < (-x8) then (-x8) else (0 : Int32))) = x13
        refine aw_putI hC hSt 0 (cs_lt o 9 0 ho hM) (cs_k o 9 0 ho hM) rfl (by decide) w_507 rfl rfl rfl rfl dX9_aim_114 ?_
        generalize eS14 : (sI S11 o 0 x13) = S14
        have hM : CS S14 := CS.of (by rw [← eS14]; exact shp_sI _ _ _ _) hM
        refine aw_vret hC dX9_aim_117 (Nat.le_refl _) (Nat.le_refl _) ?_
        exact FP.qV ((bd_eq er1).trans ((bd_eq eS2).trans ((bd_eq eS3).trans ((bd_eq eS4).trans ((if_pos c5).trans ((bd_eq eS6).trans ((bd_eq ex7).trans ((bd_eq ex8).trans ((bd_eq ex10).trans ((bd_eq eS11).trans ((bd_eq ex13).trans ((bd_eq eS14).trans (rfl)))))))))))))
      · refine aw_if_ne hC 107 dX9_aim_98 (by decide) (fun c12 => ?_) (fun c12 => ?_)
        · refine aw_iconst (v := 0) hC dX9_aim_107 (by decide) ?_
          refine aw_iload hC 0 dX9_aim_108 rfl ?_
          refine aw_ineg hC dX9_aim_110 ?_
          refine aw_max hC w_174 w_91 w_92 w_93 (by decide) (Nat.le_of_ble_eq_true rfl) (by decide) (by decide) dX9_aim_111 ?_
          simp only [bd_def, if_neg c12] at Jc12 ⊢
          exact Jc12
        · refine aw_sipush (v := 500) hC dX9_aim_101 (by decide) ?_
          refine aw_goto hC 114 dX9_aim_104 (by decide) ?_
          simp only [bd_def, if_pos c12] at Jc12 ⊢
          exact Jc12
    · refine aw_if_ne hC 86 dX9_aim_79 (by decide) (fun c9 => ?_) (fun c9 => ?_)
      · refine aw_iconst (v := 0) hC dX9_aim_86 (by decide) ?_
        refine aw_iload hC 0 dX9_aim_87 rfl ?_
        refine aw_max hC w_174 w_91 w_92 w_93 (by decide) (Nat.le_of_ble_eq_true rfl) (by decide) (by decide) dX9_aim_89 ?_
        simp only [bd_def, if_neg c9] at Jc9 ⊢
        exact Jc9
      · refine aw_iconst (v := 0) hC dX9_aim_82 (by decide) ?_
        refine aw_goto hC 92 dX9_aim_83 (by decide) ?_
        simp only [bd_def, if_pos c9] at Jc9 ⊢
        exact Jc9
  · refine aw_vret hC dX9_aim_36 (Nat.le_refl _) (Nat.le_refl _) ?_
    exact FP.qV ((bd_eq er1).trans ((bd_eq eS2).trans ((bd_eq eS3).trans ((bd_eq eS4).trans ((if_neg c5).trans (rfl))))))
theorem q_X9_aim (S : HSt) (o : Nat) (sc1 : Nat) (lp2 : Nat) (a3 : Int32) (a4 : Int32) : shp (f_X9_aim S o sc1 lp2 a3 a4) = shp S := by
  unfold f_X9_aim
  repeat' (first | with_reducible rfl | with_reducible refine (q_X9_face _ _ _ _ _ _).trans ?_ | with_reducible refine (shp_sI _ _ _ _).trans ?_ | with_reducible refine (shp_sJ _ _ _ _).trans ?_ | with_reducible refine shi ?_ ?_ | with_reducible refine shb (fun _ _ => ?_) | (subst_vars; with_reducible rfl) | (subst_vars; with_reducible refine (q_X9_face _ _ _ _ _ _).trans ?_) | (subst_vars; with_reducible refine (shp_sI _ _ _ _).trans ?_) | (subst_vars; with_reducible refine (shp_sJ _ _ _ _).trans ?_) | (subst_vars; with_reducible refine shi ?_ ?_) | (subst_vars; with_reducible refine shb (fun _ _ => ?_)))
def F_X0_begunAt (S : HSt) (_o0 : Nat) (a1 : Int32) : Int32 × HSt := bd ((if a1 < 0 then (-1000000 : Int32) else (if (gI S 62 1) ≤ a1 then (-1000000 : Int32) else (gI S 63 a1.toNatClampNeg)))) fun x3 => pr (x3) (S)
def f_X0_begunAt (S : HSt) (_o0 : Nat) (a1 : Int32) : Int32 := (F_X0_begunAt S _o0 a1).1
def p_X0_begunAt (S : HSt) (_o0 : Nat) (a1 : Int32) : Prop := ((¬ a1 < 0) → (¬ (gI S 62 1) ≤ a1) → vp_in a1 16)
set_option maxRecDepth 100000 in
theorem t_X0_begunAt (G : GG) (l : Launch) {S : HSt} (hM : CS S) (a1 : Int32)  (hp : p_X0_begunAt S 62 a1) : AM G l yX0_begunAt cX0_begunAt 2 (some .int) (rmD 0 0 0) 0 0 [.ref 62, .int a1] S (FP (some (.int (f_X0_begunAt S 62 a1))) (S)) := by
  have h0 := hp
  unfold p_X0_begunAt at h0
  refine AM.mk (by decide) (Nat.le_of_ble_eq_true rfl) ?_
  intro p e s m below meth c hC hSt _
  refine aw_iload_n hC 1 dX0_begunAt_0 rfl rfl ?_
  refine aw_cut (S' := S) (pc' := 23) (lv' := [(0, .ref 62), (1, .int a1)]) (st' := [.int (if a1 < 0 then (-1000000 : Int32) else (if (gI S 62 1) ≤ a1 then (-1000000 : Int32) else (gI S 63 a1.toNatClampNeg)))]) ?_ (fun Jc1 => ?_)
  · generalize ex3 : (if a1 < 0 then (-1000000 : Int32) else (if (gI S 62 1) ≤ a1 then (-1000000 : Int32) else (gI S 63 a1.toNatClampNeg))) = x3
    refine aw_iret hC dX0_begunAt_23 (Nat.le_refl _) (Nat.le_refl _) ?_
    exact FP.pI ((bd_eq ex3).trans (rfl))
  · refine aw_if_lt hC 21 dX0_begunAt_1 (by decide) (fun c1 => ?_) (fun c1 => ?_)
    · refine aw_ldc (v := -1000000) hC w_8 dX0_begunAt_21 ?_
      simp only [bd_def, if_pos c1] at Jc1 ⊢
      exact Jc1
    · refine aw_iload_n hC 1 dX0_begunAt_4 rfl rfl ?_
      refine aw_aload_n hC 0 dX0_begunAt_5 rfl rfl ?_
      refine aw_getI hC hSt 1 (cs_lt 62 0 0 (by decide) hM) (cs_k 62 0 0 (by decide) hM) rfl (by decide) w_7 rfl dX0_begunAt_6 ?_
      refine aw_icmp_ge hC 21 dX0_begunAt_9 (by decide) (fun c2 => ?_) (fun c2 => ?_)
      · refine aw_ldc (v := -1000000) hC w_8 dX0_begunAt_21 ?_
        simp only [bd_def, if_neg c1, if_pos c2] at Jc1 ⊢
        exact Jc1
      · refine aw_aload_n hC 0 dX0_begunAt_12 rfl rfl ?_
        refine aw_getP (b := 63) hC hSt 0 (cs_lt 62 0 0 (by decide) hM) (cs_k 62 0 0 (by decide) hM) rfl (by decide) w_5 rfl (cs_p 62 0 63 (by decide) hM) dX0_begunAt_13 ?_
        refine aw_iload_n hC 1 dX0_begunAt_16 rfl rfl ?_
        refine aw_iald hC hSt (cs_lt 63 14 16 (by decide) hM) (cs_k 63 14 16 (by decide) hM) (vp_len (n := 16) (cs_l 63 14 16 (by decide) hM) (h0 c1 c2)) dX0_begunAt_17 ?_
        refine aw_goto hC 23 dX0_begunAt_18 (by decide) ?_
        simp only [bd_def, if_neg c1, if_neg c2] at Jc1 ⊢
        exact Jc1
def f_X0_begin (S : HSt) (_o0 : Nat) (a1 : Int32) : HSt := bd ((if (16 : Int32) ≤ (gI S 62 1) then S else (bd ((sI S 63 (gI S 62 1).toNatClampNeg a1)) fun S2 => bd ((sI S2 62 1 ((gI S2 62 1) + (1 : Int32)))) fun S3 => S3))) fun S4 => S4
def p_X0_begin (S : HSt) (_o0 : Nat) (a1 : Int32) : Prop := ((¬ (16 : Int32) ≤ (gI S 62 1)) → vp_in (gI S 62 1) 16)
set_option maxRecDepth 100000 in
theorem t_X0_begin (G : GG) (l : Launch) {S : HSt} (hM : CS S) (a1 : Int32)  (hp : p_X0_begin S 62 a1) : AM G l yX0_begin cX0_begin 2 none (rmD 0 0 0) 0 0 [.ref 62, .int a1] S (FP none (f_X0_begin S 62 a1)) := by
  have h0 := hp
  unfold p_X0_begin at h0
  refine AM.mk (by decide) (Nat.le_of_ble_eq_true rfl) ?_
  intro p e s m below meth c hC hSt _
  refine aw_aload_n hC 0 dX0_begin_0 rfl rfl ?_
  refine aw_getI hC hSt 1 (cs_lt 62 0 0 (by decide) hM) (cs_k 62 0 0 (by decide) hM) rfl (by decide) w_7 rfl dX0_begin_1 ?_
  refine aw_bipush (v := 16) hC dX0_begin_4 (by decide) ?_
  refine aw_cut (S' := (if (16 : Int32) ≤ (gI S 62 1) then S else (bd ((sI S 63 (gI S 62 1).toNatClampNeg a1)) fun S2 => bd ((sI S2 62 1 ((gI S2 62 1) + (1 : Int32)))) fun S3 => S3))) (pc' := 29) (lv' := [(0, .ref 62), (1, .int a1)]) (st' := []) ?_ (fun Jc1 => ?_)
  · generalize eS4 : (if (16 : Int32) ≤ (gI S 62 1) then S else (bd ((sI S 63 (gI S 62 1).toNatClampNeg a1)) fun S2 => bd ((sI S2 62 1 ((gI S2 62 1) + (1 : Int32)))) fun S3 => S3)) = S4
    have hM : CS S4 := CS.of (by rw [← eS4]; repeat' (first | with_reducible rfl | with_reducible refine (shp_sI _ _ _ _).trans ?_ | with_reducible refine (shp_sJ _ _ _ _).trans ?_ | with_reducible refine shi ?_ ?_ | with_reducible refine shb (fun _ _ => ?_) | (subst_vars; with_reducible rfl) | (subst_vars; with_reducible refine (shp_sI _ _ _ _).trans ?_) | (subst_vars; with_reducible refine (shp_sJ _ _ _ _).trans ?_) | (subst_vars; with_reducible refine shi ?_ ?_) | (subst_vars; with_reducible refine shb (fun _ _ => ?_)))) hM
    refine aw_vret hC dX0_begin_29 (Nat.le_refl _) (Nat.le_refl _) ?_
    exact FP.qV ((bd_eq eS4).trans (rfl))
  · refine aw_icmp_ge hC 29 dX0_begin_6 (by decide) (fun c1 => ?_) (fun c1 => ?_)
    · simp only [bd_def, if_pos c1] at Jc1 ⊢
      exact Jc1
    · refine aw_aload_n hC 0 dX0_begin_9 rfl rfl ?_
      refine aw_getP (b := 63) hC hSt 0 (cs_lt 62 0 0 (by decide) hM) (cs_k 62 0 0 (by decide) hM) rfl (by decide) w_5 rfl (cs_p 62 0 63 (by decide) hM) dX0_begin_10 ?_
      refine aw_aload_n hC 0 dX0_begin_13 rfl rfl ?_
      refine aw_getI hC hSt 1 (cs_lt 62 0 0 (by decide) hM) (cs_k 62 0 0 (by decide) hM) rfl (by decide) w_7 rfl dX0_begin_14 ?_
      refine aw_iload_n hC 1 dX0_begin_17 rfl rfl ?_
      refine aw_iast hC hSt (cs_lt 63 14 16 (by decide) hM) (cs_k 63 14 16 (by decide) hM) (vp_len (n := 16) (cs_l 63 14 16 (by decide) hM) (h0 c1)) dX0_begin_18 ?_
      generalize eS2 : (sI S 63 (gI S 62 1).toNatClampNeg a1) = S2
      have hM : CS S2 := CS.of (by rw [← eS2]; exact shp_sI _ _ _ _) hM
      refine aw_aload_n hC 0 dX0_begin_19 rfl rfl ?_
      refine aw_dup hC dX0_begin_20 rfl ?_
      refine aw_getI hC hSt 1 (cs_lt 62 0 0 (by decide) hM) (cs_k 62 0 0 (by decide) hM) rfl (by decide) w_7 rfl dX0_begin_21 ?_
      refine aw_iconst (v := 1) hC dX0_begin_24 (by decide) ?_
      refine aw_iadd hC dX0_begin_25 ?_
      refine aw_putI hC hSt 1 (cs_lt 62 0 0 (by decide) hM) (cs_k 62 0 0 (by decide) hM) rfl (by decide) w_7 rfl rfl rfl rfl dX0_begin_26 ?_
      generalize eS3 : (sI S2 62 1 ((gI S2 62 1) + (1 : Int32))) = S3
      have hM : CS S3 := CS.of (by rw [← eS3]; exact shp_sI _ _ _ _) hM
      subst eS3
      subst eS2
      simp only [bd_def, if_neg c1] at Jc1 ⊢
      exact Jc1
theorem q_X0_begin (S : HSt) (_o0 : Nat) (a1 : Int32) : shp (f_X0_begin S _o0 a1) = shp S := by
  unfold f_X0_begin
  repeat' (first | with_reducible rfl | with_reducible refine (shp_sI _ _ _ _).trans ?_ | with_reducible refine (shp_sJ _ _ _ _).trans ?_ | with_reducible refine shi ?_ ?_ | with_reducible refine shb (fun _ _ => ?_) | (subst_vars; with_reducible rfl) | (subst_vars; with_reducible refine (shp_sI _ _ _ _).trans ?_) | (subst_vars; with_reducible refine (shp_sJ _ _ _ _).trans ?_) | (subst_vars; with_reducible refine shi ?_ ?_) | (subst_vars; with_reducible refine shb (fun _ _ => ?_)))
def f_X0_body10 (S : HSt) (_o0 : Nat) : Int32 × HSt := bd (f_X0_begin S 62 (10 : Int32)) fun r1 => pr ((1 : Int32)) (r1)
def p_X0_body10 (S : HSt) (_o0 : Nat) : Prop := (p_X0_begin S 62 (10 : Int32))
set_option maxRecDepth 100000 in
theorem t_X0_body10 (G : GG) (l : Launch) {S : HSt} (hM : CS S)   (hp : p_X0_body10 S 62) : AM G l yX0_body10 cX0_body10 1 (some .int) (rmD 1 0 0) 0 0 [.ref 62] S (FP (some (.int (f_X0_body10 S 62).1)) ((f_X0_body10 S 62).2)) := by
  have h0 := hp
  unfold p_X0_body10 at h0
  refine AM.mk (by decide) (Nat.le_of_ble_eq_true rfl) ?_
  intro p e s m below meth c hC hSt _
  refine aw_aload_n hC 0 dX0_body10_0 rfl rfl ?_
  refine aw_bipush (v := 10) hC dX0_body10_1 (by decide) ?_
  refine aw_cV1v hC hSt (t_X0_begin G l hM _ (h0)) w_9 w_20 w_21 w_22 w_23 rfl rfl (by decide +kernel) ⟨Nat.le_of_ble_eq_true rfl, Nat.le_of_ble_eq_true rfl⟩ (cs_lt 62 0 0 (by decide) hM) (cs_k 62 0 0 (by decide) hM) rfl (Nat.le_of_ble_eq_true rfl) dX0_body10_3 ⟨Nat.zero_le _, Nat.zero_le _⟩ ?_
  generalize er1 : f_X0_begin S 62 (10 : Int32) = r1
  have hM : CS r1 := CS.of (by rw [← er1]; exact q_X0_begin _ _ _) hM
  refine aw_iconst (v := 1) hC dX0_body10_6 (by decide) ?_
  refine aw_iret hC dX0_body10_7 (Nat.le_refl _) (Nat.le_refl _) ?_
  exact FP.qI ((bd_eq er1).trans (rfl))
theorem q_X0_body10 (S : HSt) (_o0 : Nat) : shp ((f_X0_body10 S _o0).2) = shp S := by
  unfold f_X0_body10
  repeat' (first | with_reducible refine shpr1 ?_ | with_reducible rfl | with_reducible refine (q_X0_begin _ _ _).trans ?_ | with_reducible refine (shp_sI _ _ _ _).trans ?_ | with_reducible refine (shp_sJ _ _ _ _).trans ?_ | with_reducible refine shi ?_ ?_ | with_reducible refine shb (fun _ _ => ?_) | with_reducible refine shiP (fun q : Int32 × HSt => q.2) ?_ ?_ | with_reducible refine shbP (fun q : Int32 × HSt => q.2) (fun _ _ => ?_) | (subst_vars; with_reducible rfl) | (subst_vars; with_reducible refine (q_X0_begin _ _ _).trans ?_) | (subst_vars; with_reducible refine (shp_sI _ _ _ _).trans ?_) | (subst_vars; with_reducible refine (shp_sJ _ _ _ _).trans ?_) | (subst_vars; with_reducible refine shi ?_ ?_) | (subst_vars; with_reducible refine shb (fun _ _ => ?_)))
def f_X0_body11 (S : HSt) (_o0 : Nat) (w1 : Nat) (a2 : Int32) : Int32 × HSt := bd (f_X0_begin S 62 (11 : Int32)) fun r1 => bd (f_X0_body10 r1 62) fun r2 => pr ((r2.1 + (f_X10_value r2.2 w1 (5 : Int32) a2 (1 : Int32)))) (r2.2)
def p_X0_body11 (S : HSt) (_o0 : Nat) (w1 : Nat) (a2 : Int32) : Prop := (p_X0_begin S 62 (11 : Int32)) ∧ (∀ r1, f_X0_begin S 62 (11 : Int32) = r1 → p_X0_body10 r1 62) ∧ (∀ r1, f_X0_begin S 62 (11 : Int32) = r1 → ∀ r2, f_X0_body10 r1 62 = r2 → p_X10_value r2.2 w1 (5 : Int32) a2 (1 : Int32))
set_option maxRecDepth 100000 in
theorem t_X0_body11 (G : GG) (l : Launch) {S : HSt} (hM : CS S) (w1 : Nat) (a2 : Int32) (hw1 : (w1, 10, 0) ∈ cKT) (hp : p_X0_body11 S 62 w1 a2) : AM G l yX0_body11 cX0_body11 3 (some .int) (rmD 2 0 0) 0 0 [.ref 62, .ref w1, .int a2] S (FP (some (.int (f_X0_body11 S 62 w1 a2).1)) ((f_X0_body11 S 62 w1 a2).2)) := by
  obtain ⟨h0, h1, h2⟩ := hp
  refine AM.mk (by decide) (Nat.le_of_ble_eq_true rfl) ?_
  intro p e s m below meth c hC hSt _
  refine aw_aload_n hC 0 dX0_body11_0 rfl rfl ?_
  refine aw_bipush (v := 11) hC dX0_body11_1 (by decide) ?_
  refine aw_cV1v hC hSt (t_X0_begin G l hM _ (h0)) w_9 w_20 w_21 w_22 w_23 rfl rfl (by decide +kernel) ⟨Nat.le_of_ble_eq_true rfl, Nat.le_of_ble_eq_true rfl⟩ (cs_lt 62 0 0 (by decide) hM) (cs_k 62 0 0 (by decide) hM) rfl (Nat.le_of_ble_eq_true rfl) dX0_body11_3 ⟨Nat.zero_le _, Nat.zero_le _⟩ ?_
  generalize er1 : f_X0_begin S 62 (11 : Int32) = r1
  have hM : CS r1 := CS.of (by rw [← er1]; exact q_X0_begin _ _ _) hM
  refine aw_aload_n hC 0 dX0_body11_6 rfl rfl ?_
  refine aw_cV0r hC hSt (t_X0_body10 G l hM  (h1 r1 er1)) w_19 w_25 w_26 w_27 w_23 rfl rfl (by decide +kernel) ⟨Nat.le_of_ble_eq_true rfl, Nat.le_of_ble_eq_true rfl⟩ (cs_lt 62 0 0 (by decide) hM) (cs_k 62 0 0 (by decide) hM) rfl (Nat.le_of_ble_eq_true rfl) dX0_body11_7 ⟨Nat.zero_le _, Nat.zero_le _⟩ ?_
  generalize er2 : f_X0_body10 r1 62 = r2
  have hM : CS r2.2 := CS.of (by rw [← er2]; exact q_X0_body10 _ _) hM
  refine aw_aload_n hC 1 dX0_body11_10 rfl rfl ?_
  refine aw_iconst (v := 5) hC dX0_body11_11 (by decide) ?_
  refine aw_iload_n hC 2 dX0_body11_12 rfl rfl ?_
  refine aw_iconst (v := 1) hC dX0_body11_13 (by decide) ?_
  refine aw_cV3r hC hSt (t_X10_value G l hM _ _ _ _ hw1 (h2 r1 er1 r2 er2)) w_10 w_28 w_16 w_17 w_18 rfl rfl (by decide +kernel) ⟨Nat.le_of_ble_eq_true rfl, Nat.le_of_ble_eq_true rfl⟩ (cs_lt w1 10 0 hw1 hM) (cs_k w1 10 0 hw1 hM) rfl (Nat.le_of_ble_eq_true rfl) dX0_body11_14 ⟨Nat.zero_le _, Nat.zero_le _⟩ ?_
  refine aw_iadd hC dX0_body11_17 ?_
  refine aw_iret hC dX0_body11_18 (Nat.le_refl _) (Nat.le_refl _) ?_
  exact FP.qI ((bd_eq er1).trans ((bd_eq er2).trans (rfl)))
theorem q_X0_body11 (S : HSt) (_o0 : Nat) (w1 : Nat) (a2 : Int32) : shp ((f_X0_body11 S _o0 w1 a2).2) = shp S := by
  unfold f_X0_body11
  repeat' (first | with_reducible refine shpr1 ?_ | with_reducible rfl | with_reducible refine (q_X0_begin _ _ _).trans ?_ | with_reducible refine (q_X0_body10 _ _).trans ?_ | with_reducible refine (shp_sI _ _ _ _).trans ?_ | with_reducible refine (shp_sJ _ _ _ _).trans ?_ | with_reducible refine shi ?_ ?_ | with_reducible refine shb (fun _ _ => ?_) | with_reducible refine shiP (fun q : Int32 × HSt => q.2) ?_ ?_ | with_reducible refine shbP (fun q : Int32 × HSt => q.2) (fun _ _ => ?_) | (subst_vars; with_reducible rfl) | (subst_vars; with_reducible refine (q_X0_begin _ _ _).trans ?_) | (subst_vars; with_reducible refine (q_X0_body10 _ _).trans ?_) | (subst_vars; with_reducible refine (shp_sI _ _ _ _).trans ?_) | (subst_vars; with_reducible refine (shp_sJ _ _ _ _).trans ?_) | (subst_vars; with_reducible refine shi ?_ ?_) | (subst_vars; with_reducible refine shb (fun _ _ => ?_)))
def f_X0_body12 (S : HSt) (_o0 : Nat) (w1 : Nat) (a2 : Int32) : Int32 × HSt := bd (f_X0_begin S 62 (12 : Int32)) fun r1 => bd (f_X0_body11 r1 62 w1 a2) fun r2 => pr (((2 : Int32) * r2.1)) (r2.2)
def p_X0_body12 (S : HSt) (_o0 : Nat) (w1 : Nat) (a2 : Int32) : Prop := (p_X0_begin S 62 (12 : Int32)) ∧ (∀ r1, f_X0_begin S 62 (12 : Int32) = r1 → p_X0_body11 r1 62 w1 a2)
set_option maxRecDepth 100000 in
theorem t_X0_body12 (G : GG) (l : Launch) {S : HSt} (hM : CS S) (w1 : Nat) (a2 : Int32) (hw1 : (w1, 10, 0) ∈ cKT) (hp : p_X0_body12 S 62 w1 a2) : AM G l yX0_body12 cX0_body12 3 (some .int) (rmD 3 0 0) 0 0 [.ref 62, .ref w1, .int a2] S (FP (some (.int (f_X0_body12 S 62 w1 a2).1)) ((f_X0_body12 S 62 w1 a2).2)) := by
  obtain ⟨h0, h1⟩ := hp
  refine AM.mk (by decide) (Nat.le_of_ble_eq_true rfl) ?_
  intro p e s m below meth c hC hSt _
  refine aw_aload_n hC 0 dX0_body12_0 rfl rfl ?_
  refine aw_bipush (v := 12) hC dX0_body12_1 (by decide) ?_
  refine aw_cV1v hC hSt (t_X0_begin G l hM _ (h0)) w_9 w_20 w_21 w_22 w_23 rfl rfl (by decide +kernel) ⟨Nat.le_of_ble_eq_true rfl, Nat.le_of_ble_eq_true rfl⟩ (cs_lt 62 0 0 (by decide) hM) (cs_k 62 0 0 (by decide) hM) rfl (Nat.le_of_ble_eq_true rfl) dX0_body12_3 ⟨Nat.zero_le _, Nat.zero_le _⟩ ?_
  generalize er1 : f_X0_begin S 62 (12 : Int32) = r1
  have hM : CS r1 := CS.of (by rw [← er1]; exact q_X0_begin _ _ _) hM
  refine aw_iconst (v := 2) hC dX0_body12_6 (by decide) ?_
  refine aw_aload_n hC 0 dX0_body12_7 rfl rfl ?_
  refine aw_aload_n hC 1 dX0_body12_8 rfl rfl ?_
  refine aw_iload_n hC 2 dX0_body12_9 rfl rfl ?_
  refine aw_cV2r hC hSt (t_X0_body11 G l hM _ _ hw1 (h1 r1 er1)) w_24 w_30 w_31 w_32 w_23 rfl rfl (by decide +kernel) ⟨Nat.le_of_ble_eq_true rfl, Nat.le_of_ble_eq_true rfl⟩ (cs_lt 62 0 0 (by decide) hM) (cs_k 62 0 0 (by decide) hM) rfl (Nat.le_of_ble_eq_true rfl) dX0_body12_10 ⟨Nat.zero_le _, Nat.zero_le _⟩ ?_
  generalize er2 : f_X0_body11 r1 62 w1 a2 = r2
  have hM : CS r2.2 := CS.of (by rw [← er2]; exact q_X0_body11 _ _ _ _) hM
  refine aw_imul hC dX0_body12_13 ?_
  refine aw_iret hC dX0_body12_14 (Nat.le_refl _) (Nat.le_refl _) ?_
  exact FP.qI ((bd_eq er1).trans ((bd_eq er2).trans (rfl)))
theorem q_X0_body12 (S : HSt) (_o0 : Nat) (w1 : Nat) (a2 : Int32) : shp ((f_X0_body12 S _o0 w1 a2).2) = shp S := by
  unfold f_X0_body12
  repeat' (first | with_reducible refine shpr1 ?_ | with_reducible rfl | with_reducible refine (q_X0_begin _ _ _).trans ?_ | with_reducible refine (q_X0_body11 _ _ _ _).trans ?_ | with_reducible refine (shp_sI _ _ _ _).trans ?_ | with_reducible refine (shp_sJ _ _ _ _).trans ?_ | with_reducible refine shi ?_ ?_ | with_reducible refine shb (fun _ _ => ?_) | with_reducible refine shiP (fun q : Int32 × HSt => q.2) ?_ ?_ | with_reducible refine shbP (fun q : Int32 × HSt => q.2) (fun _ _ => ?_) | (subst_vars; with_reducible rfl) | (subst_vars; with_reducible refine (q_X0_begin _ _ _).trans ?_) | (subst_vars; with_reducible refine (q_X0_body11 _ _ _ _).trans ?_) | (subst_vars; with_reducible refine (shp_sI _ _ _ _).trans ?_) | (subst_vars; with_reducible refine (shp_sJ _ _ _ _).trans ?_) | (subst_vars; with_reducible refine shi ?_ ?_) | (subst_vars; with_reducible refine shb (fun _ _ => ?_)))
def f_X0_body13 (S : HSt) (_o0 : Nat) (w1 : Nat) (a2 : Int32) : Int32 × HSt := bd (f_X0_begin S 62 (13 : Int32)) fun r1 => bd ((f_X10_value r1 w1 (5 : Int32) a2 (1 : Int32))) fun x2 => bd (f_X0_body10 r1 62) fun r3 => pr ((r3.1 + (f_X10_value r3.2 w1 (2 : Int32) x2 (0 : Int32)))) (r3.2)
def p_X0_body13 (S : HSt) (_o0 : Nat) (w1 : Nat) (a2 : Int32) : Prop := (p_X0_begin S 62 (13 : Int32)) ∧ (∀ r1, f_X0_begin S 62 (13 : Int32) = r1 → p_X10_value r1 w1 (5 : Int32) a2 (1 : Int32)) ∧ (∀ r1, f_X0_begin S 62 (13 : Int32) = r1 → ∀ x2 : Int32, (f_X10_value r1 w1 (5 : Int32) a2 (1 : Int32)) = x2 → p_X0_body10 r1 62) ∧ (∀ r1, f_X0_begin S 62 (13 : Int32) = r1 → ∀ x2 : Int32, (f_X10_value r1 w1 (5 : Int32) a2 (1 : Int32)) = x2 → ∀ r3, f_X0_body10 r1 62 = r3 → p_X10_value r3.2 w1 (2 : Int32) x2 (0 : Int32))
set_option maxRecDepth 100000 in
theorem t_X0_body13 (G : GG) (l : Launch) {S : HSt} (hM : CS S) (w1 : Nat) (a2 : Int32) (hw1 : (w1, 10, 0) ∈ cKT) (hp : p_X0_body13 S 62 w1 a2) : AM G l yX0_body13 cX0_body13 4 (some .int) (rmD 2 0 0) 0 0 [.ref 62, .ref w1, .int a2] S (FP (some (.int (f_X0_body13 S 62 w1 a2).1)) ((f_X0_body13 S 62 w1 a2).2)) := by
  obtain ⟨h0, h1, h2, h3⟩ := hp
  refine AM.mk (by decide) (Nat.le_of_ble_eq_true rfl) ?_
  intro p e s m below meth c hC hSt _
  refine aw_aload_n hC 0 dX0_body13_0 rfl rfl ?_
  refine aw_bipush (v := 13) hC dX0_body13_1 (by decide) ?_
  refine aw_cV1v hC hSt (t_X0_begin G l hM _ (h0)) w_9 w_20 w_21 w_22 w_23 rfl rfl (by decide +kernel) ⟨Nat.le_of_ble_eq_true rfl, Nat.le_of_ble_eq_true rfl⟩ (cs_lt 62 0 0 (by decide) hM) (cs_k 62 0 0 (by decide) hM) rfl (Nat.le_of_ble_eq_true rfl) dX0_body13_3 ⟨Nat.zero_le _, Nat.zero_le _⟩ ?_
  generalize er1 : f_X0_begin S 62 (13 : Int32) = r1
  have hM : CS r1 := CS.of (by rw [← er1]; exact q_X0_begin _ _ _) hM
  refine aw_aload_n hC 1 dX0_body13_6 rfl rfl ?_
  refine aw_iconst (v := 5) hC dX0_body13_7 (by decide) ?_
  refine aw_iload_n hC 2 dX0_body13_8 rfl rfl ?_
  refine aw_iconst (v := 1) hC dX0_body13_9 (by decide) ?_
  refine aw_cV3r hC hSt (t_X10_value G l hM _ _ _ _ hw1 (h1 r1 er1)) w_10 w_28 w_16 w_17 w_18 rfl rfl (by decide +kernel) ⟨Nat.le_of_ble_eq_true rfl, Nat.le_of_ble_eq_true rfl⟩ (cs_lt w1 10 0 hw1 hM) (cs_k w1 10 0 hw1 hM) rfl (Nat.le_of_ble_eq_true rfl) dX0_body13_10 ⟨Nat.zero_le _, Nat.zero_le _⟩ ?_
  refine aw_istore_n hC [(3, .int _), (0, .ref 62), (1, .ref w1), (2, .int _)] dX0_body13_13 rfl (by decide) rfl ?_
  generalize ex2 : (f_X10_value r1 w1 (5 : Int32) a2 (1 : Int32)) = x2
  refine aw_aload_n hC 1 dX0_body13_14 rfl rfl ?_
  refine aw_cV0r hC hSt (t_X0_body10 G l hM  (h2 r1 er1 x2 ex2)) w_19 w_25 w_26 w_27 w_23 rfl rfl (by decide +kernel) ⟨Nat.le_of_ble_eq_true rfl, Nat.le_of_ble_eq_true rfl⟩ (cs_lt 62 0 0 (by decide) hM) (cs_k 62 0 0 (by decide) hM) rfl (Nat.le_of_ble_eq_true rfl) dX0_body13_15 ⟨Nat.zero_le _, Nat.zero_le _⟩ ?_
  generalize er3 : f_X0_body10 r1 62 = r3
  have hM : CS r3.2 := CS.of (by rw [← er3]; exact q_X0_body10 _ _) hM
  refine aw_aload_n hC 2 dX0_body13_18 rfl rfl ?_
  refine aw_iconst (v := 2) hC dX0_body13_19 (by decide) ?_
  refine aw_iload_n hC 0 dX0_body13_20 rfl rfl ?_
  refine aw_iconst (v := 0) hC dX0_body13_21 (by decide) ?_
  refine aw_cV3r hC hSt (t_X10_value G l hM _ _ _ _ hw1 (h3 r1 er1 x2 ex2 r3 er3)) w_10 w_28 w_16 w_17 w_18 rfl rfl (by decide +kernel) ⟨Nat.le_of_ble_eq_true rfl, Nat.le_of_ble_eq_true rfl⟩ (cs_lt w1 10 0 hw1 hM) (cs_k w1 10 0 hw1 hM) rfl (Nat.le_of_ble_eq_true rfl) dX0_body13_22 ⟨Nat.zero_le _, Nat.zero_le _⟩ ?_
  refine aw_iadd hC dX0_body13_25 ?_
  refine aw_iret hC dX0_body13_26 (Nat.le_refl _) (Nat.le_refl _) ?_
  exact FP.qI ((bd_eq er1).trans ((bd_eq ex2).trans ((bd_eq er3).trans (rfl))))
theorem q_X0_body13 (S : HSt) (_o0 : Nat) (w1 : Nat) (a2 : Int32) : shp ((f_X0_body13 S _o0 w1 a2).2) = shp S := by
  unfold f_X0_body13
  repeat' (first | with_reducible refine shpr1 ?_ | with_reducible rfl | with_reducible refine (q_X0_begin _ _ _).trans ?_ | with_reducible refine (q_X0_body10 _ _).trans ?_ | with_reducible refine (shp_sI _ _ _ _).trans ?_ | with_reducible refine (shp_sJ _ _ _ _).trans ?_ | with_reducible refine shi ?_ ?_ | with_reducible refine shb (fun _ _ => ?_) | with_reducible refine shiP (fun q : Int32 × HSt => q.2) ?_ ?_ | with_reducible refine shbP (fun q : Int32 × HSt => q.2) (fun _ _ => ?_) | (subst_vars; with_reducible rfl) | (subst_vars; with_reducible refine (q_X0_begin _ _ _).trans ?_) | (subst_vars; with_reducible refine (q_X0_body10 _ _).trans ?_) | (subst_vars; with_reducible refine (shp_sI _ _ _ _).trans ?_) | (subst_vars; with_reducible refine (shp_sJ _ _ _ _).trans ?_) | (subst_vars; with_reducible refine shi ?_ ?_) | (subst_vars; with_reducible refine shb (fun _ _ => ?_)))
def f_X0_body20 (S : HSt) (_o0 : Nat) (a1 : Int32) : Int32 × HSt := bd (f_X0_begin S 62 (20 : Int32)) fun r1 => pr (a1) (r1)
def p_X0_body20 (S : HSt) (_o0 : Nat) (a1 : Int32) : Prop := (p_X0_begin S 62 (20 : Int32))
set_option maxRecDepth 100000 in
theorem t_X0_body20 (G : GG) (l : Launch) {S : HSt} (hM : CS S) (a1 : Int32)  (hp : p_X0_body20 S 62 a1) : AM G l yX0_body20 cX0_body20 2 (some .int) (rmD 1 0 0) 0 0 [.ref 62, .int a1] S (FP (some (.int (f_X0_body20 S 62 a1).1)) ((f_X0_body20 S 62 a1).2)) := by
  have h0 := hp
  unfold p_X0_body20 at h0
  refine AM.mk (by decide) (Nat.le_of_ble_eq_true rfl) ?_
  intro p e s m below meth c hC hSt _
  refine aw_aload_n hC 0 dX0_body20_0 rfl rfl ?_
  refine aw_bipush (v := 20) hC dX0_body20_1 (by decide) ?_
  refine aw_cV1v hC hSt (t_X0_begin G l hM _ (h0)) w_9 w_20 w_21 w_22 w_23 rfl rfl (by decide +kernel) ⟨Nat.le_of_ble_eq_true rfl, Nat.le_of_ble_eq_true rfl⟩ (cs_lt 62 0 0 (by decide) hM) (cs_k 62 0 0 (by decide) hM) rfl (Nat.le_of_ble_eq_true rfl) dX0_body20_3 ⟨Nat.zero_le _, Nat.zero_le _⟩ ?_
  generalize er1 : f_X0_begin S 62 (20 : Int32) = r1
  have hM : CS r1 := CS.of (by rw [← er1]; exact q_X0_begin _ _ _) hM
  refine aw_iload_n hC 1 dX0_body20_6 rfl rfl ?_
  refine aw_iret hC dX0_body20_7 (Nat.le_refl _) (Nat.le_refl _) ?_
  exact FP.qI ((bd_eq er1).trans (rfl))
theorem q_X0_body20 (S : HSt) (_o0 : Nat) (a1 : Int32) : shp ((f_X0_body20 S _o0 a1).2) = shp S := by
  unfold f_X0_body20
  repeat' (first | with_reducible refine shpr1 ?_ | with_reducible rfl | with_reducible refine (q_X0_begin _ _ _).trans ?_ | with_reducible refine (shp_sI _ _ _ _).trans ?_ | with_reducible refine (shp_sJ _ _ _ _).trans ?_ | with_reducible refine shi ?_ ?_ | with_reducible refine shb (fun _ _ => ?_) | with_reducible refine shiP (fun q : Int32 × HSt => q.2) ?_ ?_ | with_reducible refine shbP (fun q : Int32 × HSt => q.2) (fun _ _ => ?_) | (subst_vars; with_reducible rfl) | (subst_vars; with_reducible refine (q_X0_begin _ _ _).trans ?_) | (subst_vars; with_reducible refine (shp_sI _ _ _ _).trans ?_) | (subst_vars; with_reducible refine (shp_sJ _ _ _ _).trans ?_) | (subst_vars; with_reducible refine shi ?_ ?_) | (subst_vars; with_reducible refine shb (fun _ _ => ?_)))
def f_X0_body24 (S : HSt) (_o0 : Nat) (a1 : Int32) : Int32 × HSt := bd (f_X0_begin S 62 (24 : Int32)) fun r1 => bd (f_X0_body20 r1 62 a1) fun r2 => pr ((r2.1 + (50 : Int32))) (r2.2)
def p_X0_body24 (S : HSt) (_o0 : Nat) (a1 : Int32) : Prop := (p_X0_begin S 62 (24 : Int32)) ∧ (∀ r1, f_X0_begin S 62 (24 : Int32) = r1 → p_X0_body20 r1 62 a1)
set_option maxRecDepth 100000 in
theorem t_X0_body24 (G : GG) (l : Launch) {S : HSt} (hM : CS S) (a1 : Int32)  (hp : p_X0_body24 S 62 a1) : AM G l yX0_body24 cX0_body24 2 (some .int) (rmD 2 0 0) 0 0 [.ref 62, .int a1] S (FP (some (.int (f_X0_body24 S 62 a1).1)) ((f_X0_body24 S 62 a1).2)) := by
  obtain ⟨h0, h1⟩ := hp
  refine AM.mk (by decide) (Nat.le_of_ble_eq_true rfl) ?_
  intro p e s m below meth c hC hSt _
  refine aw_aload_n hC 0 dX0_body24_0 rfl rfl ?_
  refine aw_bipush (v := 24) hC dX0_body24_1 (by decide) ?_
  refine aw_cV1v hC hSt (t_X0_begin G l hM _ (h0)) w_9 w_20 w_21 w_22 w_23 rfl rfl (by decide +kernel) ⟨Nat.le_of_ble_eq_true rfl, Nat.le_of_ble_eq_true rfl⟩ (cs_lt 62 0 0 (by decide) hM) (cs_k 62 0 0 (by decide) hM) rfl (Nat.le_of_ble_eq_true rfl) dX0_body24_3 ⟨Nat.zero_le _, Nat.zero_le _⟩ ?_
  generalize er1 : f_X0_begin S 62 (24 : Int32) = r1
  have hM : CS r1 := CS.of (by rw [← er1]; exact q_X0_begin _ _ _) hM
  refine aw_aload_n hC 0 dX0_body24_6 rfl rfl ?_
  refine aw_iload_n hC 1 dX0_body24_7 rfl rfl ?_
  refine aw_cV1r hC hSt (t_X0_body20 G l hM _ (h1 r1 er1)) w_34 w_36 w_37 w_38 w_23 rfl rfl (by decide +kernel) ⟨Nat.le_of_ble_eq_true rfl, Nat.le_of_ble_eq_true rfl⟩ (cs_lt 62 0 0 (by decide) hM) (cs_k 62 0 0 (by decide) hM) rfl (Nat.le_of_ble_eq_true rfl) dX0_body24_8 ⟨Nat.zero_le _, Nat.zero_le _⟩ ?_
  generalize er2 : f_X0_body20 r1 62 a1 = r2
  have hM : CS r2.2 := CS.of (by rw [← er2]; exact q_X0_body20 _ _ _) hM
  refine aw_bipush (v := 50) hC dX0_body24_11 (by decide) ?_
  refine aw_iadd hC dX0_body24_13 ?_
  refine aw_iret hC dX0_body24_14 (Nat.le_refl _) (Nat.le_refl _) ?_
  exact FP.qI ((bd_eq er1).trans ((bd_eq er2).trans (rfl)))
theorem q_X0_body24 (S : HSt) (_o0 : Nat) (a1 : Int32) : shp ((f_X0_body24 S _o0 a1).2) = shp S := by
  unfold f_X0_body24
  repeat' (first | with_reducible refine shpr1 ?_ | with_reducible rfl | with_reducible refine (q_X0_begin _ _ _).trans ?_ | with_reducible refine (q_X0_body20 _ _ _).trans ?_ | with_reducible refine (shp_sI _ _ _ _).trans ?_ | with_reducible refine (shp_sJ _ _ _ _).trans ?_ | with_reducible refine shi ?_ ?_ | with_reducible refine shb (fun _ _ => ?_) | with_reducible refine shiP (fun q : Int32 × HSt => q.2) ?_ ?_ | with_reducible refine shbP (fun q : Int32 × HSt => q.2) (fun _ _ => ?_) | (subst_vars; with_reducible rfl) | (subst_vars; with_reducible refine (q_X0_begin _ _ _).trans ?_) | (subst_vars; with_reducible refine (q_X0_body20 _ _ _).trans ?_) | (subst_vars; with_reducible refine (shp_sI _ _ _ _).trans ?_) | (subst_vars; with_reducible refine (shp_sJ _ _ _ _).trans ?_) | (subst_vars; with_reducible refine shi ?_ ?_) | (subst_vars; with_reducible refine shb (fun _ _ => ?_)))
def f_X0_body14 (S : HSt) (_o0 : Nat) (w1 : Nat) (a2 : Int32) : Int32 × HSt := bd (f_X0_begin S 62 (14 : Int32)) fun r1 => bd (f_X0_body13 r1 62 w1 a2) fun r2 => bd (r2.1) fun x3 => bd (f_X0_body24 r2.2 62 a2) fun r4 => pr ((x3 - r4.1)) (r4.2)
def p_X0_body14 (S : HSt) (_o0 : Nat) (w1 : Nat) (a2 : Int32) : Prop := (p_X0_begin S 62 (14 : Int32)) ∧ (∀ r1, f_X0_begin S 62 (14 : Int32) = r1 → p_X0_body13 r1 62 w1 a2) ∧ (∀ r1, f_X0_begin S 62 (14 : Int32) = r1 → ∀ r2, f_X0_body13 r1 62 w1 a2 = r2 → ∀ x3 : Int32, r2.1 = x3 → p_X0_body24 r2.2 62 a2)
set_option maxRecDepth 100000 in
theorem t_X0_body14 (G : GG) (l : Launch) {S : HSt} (hM : CS S) (w1 : Nat) (a2 : Int32) (hw1 : (w1, 10, 0) ∈ cKT) (hp : p_X0_body14 S 62 w1 a2) : AM G l yX0_body14 cX0_body14 4 (some .int) (rmD 3 0 0) 0 0 [.ref 62, .ref w1, .int a2] S (FP (some (.int (f_X0_body14 S 62 w1 a2).1)) ((f_X0_body14 S 62 w1 a2).2)) := by
  obtain ⟨h0, h1, h2⟩ := hp
  refine AM.mk (by decide) (Nat.le_of_ble_eq_true rfl) ?_
  intro p e s m below meth c hC hSt _
  refine aw_aload_n hC 0 dX0_body14_0 rfl rfl ?_
  refine aw_bipush (v := 14) hC dX0_body14_1 (by decide) ?_
  refine aw_cV1v hC hSt (t_X0_begin G l hM _ (h0)) w_9 w_20 w_21 w_22 w_23 rfl rfl (by decide +kernel) ⟨Nat.le_of_ble_eq_true rfl, Nat.le_of_ble_eq_true rfl⟩ (cs_lt 62 0 0 (by decide) hM) (cs_k 62 0 0 (by decide) hM) rfl (Nat.le_of_ble_eq_true rfl) dX0_body14_3 ⟨Nat.zero_le _, Nat.zero_le _⟩ ?_
  generalize er1 : f_X0_begin S 62 (14 : Int32) = r1
  have hM : CS r1 := CS.of (by rw [← er1]; exact q_X0_begin _ _ _) hM
  refine aw_aload_n hC 0 dX0_body14_6 rfl rfl ?_
  refine aw_aload_n hC 1 dX0_body14_7 rfl rfl ?_
  refine aw_iload_n hC 2 dX0_body14_8 rfl rfl ?_
  refine aw_cV2r hC hSt (t_X0_body13 G l hM _ _ hw1 (h1 r1 er1)) w_33 w_39 w_40 w_41 w_23 rfl rfl (by decide +kernel) ⟨Nat.le_of_ble_eq_true rfl, Nat.le_of_ble_eq_true rfl⟩ (cs_lt 62 0 0 (by decide) hM) (cs_k 62 0 0 (by decide) hM) rfl (Nat.le_of_ble_eq_true rfl) dX0_body14_9 ⟨Nat.zero_le _, Nat.zero_le _⟩ ?_
  generalize er2 : f_X0_body13 r1 62 w1 a2 = r2
  have hM : CS r2.2 := CS.of (by rw [← er2]; exact q_X0_body13 _ _ _ _) hM
  refine aw_istore_n hC [(3, .int _), (0, .ref 62), (1, .ref w1), (2, .int _)] dX0_body14_12 rfl (by decide) rfl ?_
  generalize ex3 : r2.1 = x3
  refine aw_iload_n hC 0 dX0_body14_13 rfl rfl ?_
  refine aw_aload_n hC 1 dX0_body14_14 rfl rfl ?_
  refine aw_iload_n hC 3 dX0_body14_15 rfl rfl ?_
  refine aw_cV1r hC hSt (t_X0_body24 G l hM _ (h2 r1 er1 r2 er2 x3 ex3)) w_35 w_42 w_43 w_44 w_23 rfl rfl (by decide +kernel) ⟨Nat.le_of_ble_eq_true rfl, Nat.le_of_ble_eq_true rfl⟩ (cs_lt 62 0 0 (by decide) hM) (cs_k 62 0 0 (by decide) hM) rfl (Nat.le_of_ble_eq_true rfl) dX0_body14_16 ⟨Nat.zero_le _, Nat.zero_le _⟩ ?_
  generalize er4 : f_X0_body24 r2.2 62 a2 = r4
  have hM : CS r4.2 := CS.of (by rw [← er4]; exact q_X0_body24 _ _ _) hM
  refine aw_isub hC dX0_body14_19 ?_
  refine aw_iret hC dX0_body14_20 (Nat.le_refl _) (Nat.le_refl _) ?_
  exact FP.qI ((bd_eq er1).trans ((bd_eq er2).trans ((bd_eq ex3).trans ((bd_eq er4).trans (rfl)))))
theorem q_X0_body14 (S : HSt) (_o0 : Nat) (w1 : Nat) (a2 : Int32) : shp ((f_X0_body14 S _o0 w1 a2).2) = shp S := by
  unfold f_X0_body14
  repeat' (first | with_reducible refine shpr1 ?_ | with_reducible rfl | with_reducible refine (q_X0_begin _ _ _).trans ?_ | with_reducible refine (q_X0_body13 _ _ _ _).trans ?_ | with_reducible refine (q_X0_body24 _ _ _).trans ?_ | with_reducible refine (shp_sI _ _ _ _).trans ?_ | with_reducible refine (shp_sJ _ _ _ _).trans ?_ | with_reducible refine shi ?_ ?_ | with_reducible refine shb (fun _ _ => ?_) | with_reducible refine shiP (fun q : Int32 × HSt => q.2) ?_ ?_ | with_reducible refine shbP (fun q : Int32 × HSt => q.2) (fun _ _ => ?_) | (subst_vars; with_reducible rfl) | (subst_vars; with_reducible refine (q_X0_begin _ _ _).trans ?_) | (subst_vars; with_reducible refine (q_X0_body13 _ _ _ _).trans ?_) | (subst_vars; with_reducible refine (q_X0_body24 _ _ _).trans ?_) | (subst_vars; with_reducible refine (shp_sI _ _ _ _).trans ?_) | (subst_vars; with_reducible refine (shp_sJ _ _ _ _).trans ?_) | (subst_vars; with_reducible refine shi ?_ ?_) | (subst_vars; with_reducible refine shb (fun _ _ => ?_)))
def f_X0_body21 (S : HSt) (_o0 : Nat) (w1 : Nat) (a2 : Int32) : Int32 × HSt := bd (f_X0_begin S 62 (21 : Int32)) fun r1 => bd (f_X0_body20 r1 62 a2) fun r2 => pr ((r2.1 + (f_X10_value r2.2 w1 (5 : Int32) a2 (3 : Int32)))) (r2.2)
def p_X0_body21 (S : HSt) (_o0 : Nat) (w1 : Nat) (a2 : Int32) : Prop := (p_X0_begin S 62 (21 : Int32)) ∧ (∀ r1, f_X0_begin S 62 (21 : Int32) = r1 → p_X0_body20 r1 62 a2) ∧ (∀ r1, f_X0_begin S 62 (21 : Int32) = r1 → ∀ r2, f_X0_body20 r1 62 a2 = r2 → p_X10_value r2.2 w1 (5 : Int32) a2 (3 : Int32))
set_option maxRecDepth 100000 in
theorem t_X0_body21 (G : GG) (l : Launch) {S : HSt} (hM : CS S) (w1 : Nat) (a2 : Int32) (hw1 : (w1, 10, 0) ∈ cKT) (hp : p_X0_body21 S 62 w1 a2) : AM G l yX0_body21 cX0_body21 3 (some .int) (rmD 2 0 0) 0 0 [.ref 62, .ref w1, .int a2] S (FP (some (.int (f_X0_body21 S 62 w1 a2).1)) ((f_X0_body21 S 62 w1 a2).2)) := by
  obtain ⟨h0, h1, h2⟩ := hp
  refine AM.mk (by decide) (Nat.le_of_ble_eq_true rfl) ?_
  intro p e s m below meth c hC hSt _
  refine aw_aload_n hC 0 dX0_body21_0 rfl rfl ?_
  refine aw_bipush (v := 21) hC dX0_body21_1 (by decide) ?_
  refine aw_cV1v hC hSt (t_X0_begin G l hM _ (h0)) w_9 w_20 w_21 w_22 w_23 rfl rfl (by decide +kernel) ⟨Nat.le_of_ble_eq_true rfl, Nat.le_of_ble_eq_true rfl⟩ (cs_lt 62 0 0 (by decide) hM) (cs_k 62 0 0 (by decide) hM) rfl (Nat.le_of_ble_eq_true rfl) dX0_body21_3 ⟨Nat.zero_le _, Nat.zero_le _⟩ ?_
  generalize er1 : f_X0_begin S 62 (21 : Int32) = r1
  have hM : CS r1 := CS.of (by rw [← er1]; exact q_X0_begin _ _ _) hM
  refine aw_aload_n hC 0 dX0_body21_6 rfl rfl ?_
  refine aw_iload_n hC 2 dX0_body21_7 rfl rfl ?_
  refine aw_cV1r hC hSt (t_X0_body20 G l hM _ (h1 r1 er1)) w_34 w_36 w_37 w_38 w_23 rfl rfl (by decide +kernel) ⟨Nat.le_of_ble_eq_true rfl, Nat.le_of_ble_eq_true rfl⟩ (cs_lt 62 0 0 (by decide) hM) (cs_k 62 0 0 (by decide) hM) rfl (Nat.le_of_ble_eq_true rfl) dX0_body21_8 ⟨Nat.zero_le _, Nat.zero_le _⟩ ?_
  generalize er2 : f_X0_body20 r1 62 a2 = r2
  have hM : CS r2.2 := CS.of (by rw [← er2]; exact q_X0_body20 _ _ _) hM
  refine aw_aload_n hC 1 dX0_body21_11 rfl rfl ?_
  refine aw_iconst (v := 5) hC dX0_body21_12 (by decide) ?_
  refine aw_iload_n hC 2 dX0_body21_13 rfl rfl ?_
  refine aw_iconst (v := 3) hC dX0_body21_14 (by decide) ?_
  refine aw_cV3r hC hSt (t_X10_value G l hM _ _ _ _ hw1 (h2 r1 er1 r2 er2)) w_10 w_28 w_16 w_17 w_18 rfl rfl (by decide +kernel) ⟨Nat.le_of_ble_eq_true rfl, Nat.le_of_ble_eq_true rfl⟩ (cs_lt w1 10 0 hw1 hM) (cs_k w1 10 0 hw1 hM) rfl (Nat.le_of_ble_eq_true rfl) dX0_body21_15 ⟨Nat.zero_le _, Nat.zero_le _⟩ ?_
  refine aw_iadd hC dX0_body21_18 ?_
  refine aw_iret hC dX0_body21_19 (Nat.le_refl _) (Nat.le_refl _) ?_
  exact FP.qI ((bd_eq er1).trans ((bd_eq er2).trans (rfl)))
theorem q_X0_body21 (S : HSt) (_o0 : Nat) (w1 : Nat) (a2 : Int32) : shp ((f_X0_body21 S _o0 w1 a2).2) = shp S := by
  unfold f_X0_body21
  repeat' (first | with_reducible refine shpr1 ?_ | with_reducible rfl | with_reducible refine (q_X0_begin _ _ _).trans ?_ | with_reducible refine (q_X0_body20 _ _ _).trans ?_ | with_reducible refine (shp_sI _ _ _ _).trans ?_ | with_reducible refine (shp_sJ _ _ _ _).trans ?_ | with_reducible refine shi ?_ ?_ | with_reducible refine shb (fun _ _ => ?_) | with_reducible refine shiP (fun q : Int32 × HSt => q.2) ?_ ?_ | with_reducible refine shbP (fun q : Int32 × HSt => q.2) (fun _ _ => ?_) | (subst_vars; with_reducible rfl) | (subst_vars; with_reducible refine (q_X0_begin _ _ _).trans ?_) | (subst_vars; with_reducible refine (q_X0_body20 _ _ _).trans ?_) | (subst_vars; with_reducible refine (shp_sI _ _ _ _).trans ?_) | (subst_vars; with_reducible refine (shp_sJ _ _ _ _).trans ?_) | (subst_vars; with_reducible refine shi ?_ ?_) | (subst_vars; with_reducible refine shb (fun _ _ => ?_)))
def f_X0_body22 (S : HSt) (_o0 : Nat) (w1 : Nat) (a2 : Int32) : Int32 × HSt := bd (f_X0_begin S 62 (22 : Int32)) fun r1 => bd (f_X0_body21 r1 62 w1 a2) fun r2 => bd (r2.1) fun x3 => bd (f_X0_body11 r2.2 62 w1 a2) fun r4 => pr ((x3 + r4.1)) (r4.2)
def p_X0_body22 (S : HSt) (_o0 : Nat) (w1 : Nat) (a2 : Int32) : Prop := (p_X0_begin S 62 (22 : Int32)) ∧ (∀ r1, f_X0_begin S 62 (22 : Int32) = r1 → p_X0_body21 r1 62 w1 a2) ∧ (∀ r1, f_X0_begin S 62 (22 : Int32) = r1 → ∀ r2, f_X0_body21 r1 62 w1 a2 = r2 → ∀ x3 : Int32, r2.1 = x3 → p_X0_body11 r2.2 62 w1 a2)
set_option maxRecDepth 100000 in
theorem t_X0_body22 (G : GG) (l : Launch) {S : HSt} (hM : CS S) (w1 : Nat) (a2 : Int32) (hw1 : (w1, 10, 0) ∈ cKT) (hp : p_X0_body22 S 62 w1 a2) : AM G l yX0_body22 cX0_body22 4 (some .int) (rmD 3 0 0) 0 0 [.ref 62, .ref w1, .int a2] S (FP (some (.int (f_X0_body22 S 62 w1 a2).1)) ((f_X0_body22 S 62 w1 a2).2)) := by
  obtain ⟨h0, h1, h2⟩ := hp
  refine AM.mk (by decide) (Nat.le_of_ble_eq_true rfl) ?_
  intro p e s m below meth c hC hSt _
  refine aw_aload_n hC 0 dX0_body22_0 rfl rfl ?_
  refine aw_bipush (v := 22) hC dX0_body22_1 (by decide) ?_
  refine aw_cV1v hC hSt (t_X0_begin G l hM _ (h0)) w_9 w_20 w_21 w_22 w_23 rfl rfl (by decide +kernel) ⟨Nat.le_of_ble_eq_true rfl, Nat.le_of_ble_eq_true rfl⟩ (cs_lt 62 0 0 (by decide) hM) (cs_k 62 0 0 (by decide) hM) rfl (Nat.le_of_ble_eq_true rfl) dX0_body22_3 ⟨Nat.zero_le _, Nat.zero_le _⟩ ?_
  generalize er1 : f_X0_begin S 62 (22 : Int32) = r1
  have hM : CS r1 := CS.of (by rw [← er1]; exact q_X0_begin _ _ _) hM
  refine aw_aload_n hC 0 dX0_body22_6 rfl rfl ?_
  refine aw_aload_n hC 1 dX0_body22_7 rfl rfl ?_
  refine aw_iload_n hC 2 dX0_body22_8 rfl rfl ?_
  refine aw_cV2r hC hSt (t_X0_body21 G l hM _ _ hw1 (h1 r1 er1)) w_56 w_57 w_58 w_59 w_23 rfl rfl (by decide +kernel) ⟨Nat.le_of_ble_eq_true rfl, Nat.le_of_ble_eq_true rfl⟩ (cs_lt 62 0 0 (by decide) hM) (cs_k 62 0 0 (by decide) hM) rfl (Nat.le_of_ble_eq_true rfl) dX0_body22_9 ⟨Nat.zero_le _, Nat.zero_le _⟩ ?_
  generalize er2 : f_X0_body21 r1 62 w1 a2 = r2
  have hM : CS r2.2 := CS.of (by rw [← er2]; exact q_X0_body21 _ _ _ _) hM
  refine aw_istore_n hC [(3, .int _), (0, .ref 62), (1, .ref w1), (2, .int _)] dX0_body22_12 rfl (by decide) rfl ?_
  generalize ex3 : r2.1 = x3
  refine aw_iload_n hC 0 dX0_body22_13 rfl rfl ?_
  refine aw_aload_n hC 1 dX0_body22_14 rfl rfl ?_
  refine aw_aload_n hC 2 dX0_body22_15 rfl rfl ?_
  refine aw_iload_n hC 3 dX0_body22_16 rfl rfl ?_
  refine aw_cV2r hC hSt (t_X0_body11 G l hM _ _ hw1 (h2 r1 er1 r2 er2 x3 ex3)) w_24 w_30 w_31 w_32 w_23 rfl rfl (by decide +kernel) ⟨Nat.le_of_ble_eq_true rfl, Nat.le_of_ble_eq_true rfl⟩ (cs_lt 62 0 0 (by decide) hM) (cs_k 62 0 0 (by decide) hM) rfl (Nat.le_of_ble_eq_true rfl) dX0_body22_17 ⟨Nat.zero_le _, Nat.zero_le _⟩ ?_
  generalize er4 : f_X0_body11 r2.2 62 w1 a2 = r4
  have hM : CS r4.2 := CS.of (by rw [← er4]; exact q_X0_body11 _ _ _ _) hM
  refine aw_iadd hC dX0_body22_20 ?_
  refine aw_iret hC dX0_body22_21 (Nat.le_refl _) (Nat.le_refl _) ?_
  exact FP.qI ((bd_eq er1).trans ((bd_eq er2).trans ((bd_eq ex3).trans ((bd_eq er4).trans (rfl)))))
theorem q_X0_body22 (S : HSt) (_o0 : Nat) (w1 : Nat) (a2 : Int32) : shp ((f_X0_body22 S _o0 w1 a2).2) = shp S := by
  unfold f_X0_body22
  repeat' (first | with_reducible refine shpr1 ?_ | with_reducible rfl | with_reducible refine (q_X0_begin _ _ _).trans ?_ | with_reducible refine (q_X0_body11 _ _ _ _).trans ?_ | with_reducible refine (q_X0_body21 _ _ _ _).trans ?_ | with_reducible refine (shp_sI _ _ _ _).trans ?_ | with_reducible refine (shp_sJ _ _ _ _).trans ?_ | with_reducible refine shi ?_ ?_ | with_reducible refine shb (fun _ _ => ?_) | with_reducible refine shiP (fun q : Int32 × HSt => q.2) ?_ ?_ | with_reducible refine shbP (fun q : Int32 × HSt => q.2) (fun _ _ => ?_) | (subst_vars; with_reducible rfl) | (subst_vars; with_reducible refine (q_X0_begin _ _ _).trans ?_) | (subst_vars; with_reducible refine (q_X0_body11 _ _ _ _).trans ?_) | (subst_vars; with_reducible refine (q_X0_body21 _ _ _ _).trans ?_) | (subst_vars; with_reducible refine (shp_sI _ _ _ _).trans ?_) | (subst_vars; with_reducible refine (shp_sJ _ _ _ _).trans ?_) | (subst_vars; with_reducible refine shi ?_ ?_) | (subst_vars; with_reducible refine shb (fun _ _ => ?_)))
def f_X0_body23 (S : HSt) (_o0 : Nat) (a1 : Int32) : Int32 × HSt := bd (f_X0_begin S 62 (23 : Int32)) fun r1 => bd (f_X0_body20 r1 62 a1) fun r2 => pr ((-r2.1)) (r2.2)
def p_X0_body23 (S : HSt) (_o0 : Nat) (a1 : Int32) : Prop := (p_X0_begin S 62 (23 : Int32)) ∧ (∀ r1, f_X0_begin S 62 (23 : Int32) = r1 → p_X0_body20 r1 62 a1)
set_option maxRecDepth 100000 in
theorem t_X0_body23 (G : GG) (l : Launch) {S : HSt} (hM : CS S) (a1 : Int32)  (hp : p_X0_body23 S 62 a1) : AM G l yX0_body23 cX0_body23 2 (some .int) (rmD 2 0 0) 0 0 [.ref 62, .int a1] S (FP (some (.int (f_X0_body23 S 62 a1).1)) ((f_X0_body23 S 62 a1).2)) := by
  obtain ⟨h0, h1⟩ := hp
  refine AM.mk (by decide) (Nat.le_of_ble_eq_true rfl) ?_
  intro p e s m below meth c hC hSt _
  refine aw_aload_n hC 0 dX0_body23_0 rfl rfl ?_
  refine aw_bipush (v := 23) hC dX0_body23_1 (by decide) ?_
  refine aw_cV1v hC hSt (t_X0_begin G l hM _ (h0)) w_9 w_20 w_21 w_22 w_23 rfl rfl (by decide +kernel) ⟨Nat.le_of_ble_eq_true rfl, Nat.le_of_ble_eq_true rfl⟩ (cs_lt 62 0 0 (by decide) hM) (cs_k 62 0 0 (by decide) hM) rfl (Nat.le_of_ble_eq_true rfl) dX0_body23_3 ⟨Nat.zero_le _, Nat.zero_le _⟩ ?_
  generalize er1 : f_X0_begin S 62 (23 : Int32) = r1
  have hM : CS r1 := CS.of (by rw [← er1]; exact q_X0_begin _ _ _) hM
  refine aw_aload_n hC 0 dX0_body23_6 rfl rfl ?_
  refine aw_iload_n hC 1 dX0_body23_7 rfl rfl ?_
  refine aw_cV1r hC hSt (t_X0_body20 G l hM _ (h1 r1 er1)) w_34 w_36 w_37 w_38 w_23 rfl rfl (by decide +kernel) ⟨Nat.le_of_ble_eq_true rfl, Nat.le_of_ble_eq_true rfl⟩ (cs_lt 62 0 0 (by decide) hM) (cs_k 62 0 0 (by decide) hM) rfl (Nat.le_of_ble_eq_true rfl) dX0_body23_8 ⟨Nat.zero_le _, Nat.zero_le _⟩ ?_
  generalize er2 : f_X0_body20 r1 62 a1 = r2
  have hM : CS r2.2 := CS.of (by rw [← er2]; exact q_X0_body20 _ _ _) hM
  refine aw_ineg hC dX0_body23_11 ?_
  refine aw_iret hC dX0_body23_12 (Nat.le_refl _) (Nat.le_refl _) ?_
  exact FP.qI ((bd_eq er1).trans ((bd_eq er2).trans (rfl)))
theorem q_X0_body23 (S : HSt) (_o0 : Nat) (a1 : Int32) : shp ((f_X0_body23 S _o0 a1).2) = shp S := by
  unfold f_X0_body23
  repeat' (first | with_reducible refine shpr1 ?_ | with_reducible rfl | with_reducible refine (q_X0_begin _ _ _).trans ?_ | with_reducible refine (q_X0_body20 _ _ _).trans ?_ | with_reducible refine (shp_sI _ _ _ _).trans ?_ | with_reducible refine (shp_sJ _ _ _ _).trans ?_ | with_reducible refine shi ?_ ?_ | with_reducible refine shb (fun _ _ => ?_) | with_reducible refine shiP (fun q : Int32 × HSt => q.2) ?_ ?_ | with_reducible refine shbP (fun q : Int32 × HSt => q.2) (fun _ _ => ?_) | (subst_vars; with_reducible rfl) | (subst_vars; with_reducible refine (q_X0_begin _ _ _).trans ?_) | (subst_vars; with_reducible refine (q_X0_body20 _ _ _).trans ?_) | (subst_vars; with_reducible refine (shp_sI _ _ _ _).trans ?_) | (subst_vars; with_reducible refine (shp_sJ _ _ _ _).trans ?_) | (subst_vars; with_reducible refine shi ?_ ?_) | (subst_vars; with_reducible refine shb (fun _ _ => ?_)))
def f_X0_sizeOf (S : HSt) (_o0 : Nat) (w1 : Nat) (a2 : Int32) : Int32 × HSt := bd ((sI S 62 1 (0 : Int32))) fun S1 => if (f_X10_kindOf S1 w1 a2) = (2 : Int32) then (bd (f_X0_body11 S1 62 w1 a2) fun r4 => pr (r4.1) (r4.2)) else (if (f_X10_kindOf S1 w1 a2) = (3 : Int32) then (bd (f_X0_body12 S1 62 w1 a2) fun r5 => pr (r5.1) (r5.2)) else (if (f_X10_kindOf S1 w1 a2) = (4 : Int32) then (bd (f_X0_body13 S1 62 w1 a2) fun r6 => pr (r6.1) (r6.2)) else (if (f_X10_kindOf S1 w1 a2) = (5 : Int32) then (bd (f_X0_body14 S1 62 w1 a2) fun r7 => pr (r7.1) (r7.2)) else (bd (f_X0_body10 S1 62) fun r3 => pr (r3.1) (r3.2)))))
def p_X0_sizeOf (S : HSt) (_o0 : Nat) (w1 : Nat) (a2 : Int32) : Prop := (∀ S1 : HSt, (sI S 62 1 (0 : Int32)) = S1 → p_X10_kindOf S1 w1 a2) ∧ (∀ S1 : HSt, (sI S 62 1 (0 : Int32)) = S1 → (¬ (f_X10_kindOf S1 w1 a2) = (2 : Int32)) → (¬ (f_X10_kindOf S1 w1 a2) = (3 : Int32)) → (¬ (f_X10_kindOf S1 w1 a2) = (4 : Int32)) → (¬ (f_X10_kindOf S1 w1 a2) = (5 : Int32)) → p_X0_body10 S1 62) ∧ (∀ S1 : HSt, (sI S 62 1 (0 : Int32)) = S1 → ((f_X10_kindOf S1 w1 a2) = (2 : Int32)) → p_X0_body11 S1 62 w1 a2) ∧ (∀ S1 : HSt, (sI S 62 1 (0 : Int32)) = S1 → (¬ (f_X10_kindOf S1 w1 a2) = (2 : Int32)) → ((f_X10_kindOf S1 w1 a2) = (3 : Int32)) → p_X0_body12 S1 62 w1 a2) ∧ (∀ S1 : HSt, (sI S 62 1 (0 : Int32)) = S1 → (¬ (f_X10_kindOf S1 w1 a2) = (2 : Int32)) → (¬ (f_X10_kindOf S1 w1 a2) = (3 : Int32)) → ((f_X10_kindOf S1 w1 a2) = (4 : Int32)) → p_X0_body13 S1 62 w1 a2) ∧ (∀ S1 : HSt, (sI S 62 1 (0 : Int32)) = S1 → (¬ (f_X10_kindOf S1 w1 a2) = (2 : Int32)) → (¬ (f_X10_kindOf S1 w1 a2) = (3 : Int32)) → (¬ (f_X10_kindOf S1 w1 a2) = (4 : Int32)) → ((f_X10_kindOf S1 w1 a2) = (5 : Int32)) → p_X0_body14 S1 62 w1 a2)
set_option maxRecDepth 100000 in
theorem t_X0_sizeOf (G : GG) (l : Launch) {S : HSt} (hM : CS S) (w1 : Nat) (a2 : Int32) (hw1 : (w1, 10, 0) ∈ cKT) (hp : p_X0_sizeOf S 62 w1 a2) : AM G l yX0_sizeOf cX0_sizeOf 3 (some .int) (rmD 4 0 0) 0 0 [.ref 62, .ref w1, .int a2] S (FP (some (.int (f_X0_sizeOf S 62 w1 a2).1)) ((f_X0_sizeOf S 62 w1 a2).2)) := by
  obtain ⟨h0, h1, h2, h3, h4, h5⟩ := hp
  refine AM.mk (by decide) (Nat.le_of_ble_eq_true rfl) ?_
  intro p e s m below meth c hC hSt _
  refine aw_aload_n hC 0 dX0_sizeOf_0 rfl rfl ?_
  refine aw_iconst (v := 0) hC dX0_sizeOf_1 (by decide) ?_
  refine aw_putI hC hSt 1 (cs_lt 62 0 0 (by decide) hM) (cs_k 62 0 0 (by decide) hM) rfl (by decide) w_7 rfl rfl rfl rfl dX0_sizeOf_2 ?_
  generalize eS1 : (sI S 62 1 (0 : Int32)) = S1
  have hM : CS S1 := CS.of (by rw [← eS1]; exact shp_sI _ _ _ _) hM
  refine aw_aload_n hC 1 dX0_sizeOf_5 rfl rfl ?_
  refine aw_iload_n hC 2 dX0_sizeOf_6 rfl rfl ?_
  refine aw_cV1r hC hSt (t_X10_kindOf G l hM _ _ hw1 (h0 S1 eS1)) w_14 w_46 w_47 w_48 w_18 rfl rfl (by decide +kernel) ⟨Nat.le_of_ble_eq_true rfl, Nat.le_of_ble_eq_true rfl⟩ (cs_lt w1 10 0 hw1 hM) (cs_k w1 10 0 hw1 hM) rfl (Nat.le_of_ble_eq_true rfl) dX0_sizeOf_7 ⟨Nat.zero_le _, Nat.zero_le _⟩ ?_
  refine aw_switchE hC dX0_sizeOf_10 68 (by decide) [40, 47, 54, 61] rfl (by decide) (by decide) (fun hdc2 => ?_) (fun kc2 hkc2 hxc2 => ?_)
  · have c2_0 : ¬ (f_X10_kindOf S1 w1 a2) = (2 : Int32) := hdc2 0 (by decide)
    have c2_1 : ¬ (f_X10_kindOf S1 w1 a2) = (3 : Int32) := hdc2 1 (by decide)
    have c2_2 : ¬ (f_X10_kindOf S1 w1 a2) = (4 : Int32) := hdc2 2 (by decide)
    have c2_3 : ¬ (f_X10_kindOf S1 w1 a2) = (5 : Int32) := hdc2 3 (by decide)
    refine aw_aload_n hC 0 dX0_sizeOf_68 rfl rfl ?_
    refine aw_cV0r hC hSt (t_X0_body10 G l hM  (h1 S1 eS1 c2_0 c2_1 c2_2 c2_3)) w_19 w_25 w_26 w_27 w_23 rfl rfl (by decide +kernel) ⟨Nat.le_of_ble_eq_true rfl, Nat.le_of_ble_eq_true rfl⟩ (cs_lt 62 0 0 (by decide) hM) (cs_k 62 0 0 (by decide) hM) rfl (Nat.le_of_ble_eq_true rfl) dX0_sizeOf_69 ⟨Nat.zero_le _, Nat.zero_le _⟩ ?_
    generalize er3 : f_X0_body10 S1 62 = r3
    have hM : CS r3.2 := CS.of (by rw [← er3]; exact q_X0_body10 _ _) hM
    refine aw_iret hC dX0_sizeOf_72 (Nat.le_refl _) (Nat.le_refl _) ?_
    exact FP.qI ((bd_eq eS1).trans ((if_neg c2_0).trans ((if_neg c2_1).trans ((if_neg c2_2).trans ((if_neg c2_3).trans ((bd_eq er3).trans (rfl)))))))
  · match kc2, hkc2, hxc2 with
    | 0, _, hxc2 =>
      have c2_0 : (f_X10_kindOf S1 w1 a2) = (2 : Int32) := hxc2
      refine aw_at (pc' := 40) rfl ?_
      refine aw_aload_n hC 0 dX0_sizeOf_40 rfl rfl ?_
      refine aw_aload_n hC 1 dX0_sizeOf_41 rfl rfl ?_
      refine aw_iload_n hC 2 dX0_sizeOf_42 rfl rfl ?_
      refine aw_cV2r hC hSt (t_X0_body11 G l hM _ _ hw1 (h2 S1 eS1 c2_0)) w_24 w_30 w_31 w_32 w_23 rfl rfl (by decide +kernel) ⟨Nat.le_of_ble_eq_true rfl, Nat.le_of_ble_eq_true rfl⟩ (cs_lt 62 0 0 (by decide) hM) (cs_k 62 0 0 (by decide) hM) rfl (Nat.le_of_ble_eq_true rfl) dX0_sizeOf_43 ⟨Nat.zero_le _, Nat.zero_le _⟩ ?_
      generalize er4 : f_X0_body11 S1 62 w1 a2 = r4
      have hM : CS r4.2 := CS.of (by rw [← er4]; exact q_X0_body11 _ _ _ _) hM
      refine aw_iret hC dX0_sizeOf_46 (Nat.le_refl _) (Nat.le_refl _) ?_
      exact FP.qI ((bd_eq eS1).trans ((if_pos c2_0).trans ((bd_eq er4).trans (rfl))))
    | 1, _, hxc2 =>
      have c2_1 : (f_X10_kindOf S1 w1 a2) = (3 : Int32) := hxc2
      have c2_0 : ¬ (f_X10_kindOf S1 w1 a2) = (2 : Int32) := by rw [c2_1]; decide
      refine aw_at (pc' := 47) rfl ?_
      refine aw_aload_n hC 0 dX0_sizeOf_47 rfl rfl ?_
      refine aw_aload_n hC 1 dX0_sizeOf_48 rfl rfl ?_
      refine aw_iload_n hC 2 dX0_sizeOf_49 rfl rfl ?_
      refine aw_cV2r hC hSt (t_X0_body12 G l hM _ _ hw1 (h3 S1 eS1 c2_0 c2_1)) w_29 w_49 w_50 w_51 w_23 rfl rfl (by decide +kernel) ⟨Nat.le_of_ble_eq_true rfl, Nat.le_of_ble_eq_true rfl⟩ (cs_lt 62 0 0 (by decide) hM) (cs_k 62 0 0 (by decide) hM) rfl (Nat.le_of_ble_eq_true rfl) dX0_sizeOf_50 ⟨Nat.zero_le _, Nat.zero_le _⟩ ?_
      generalize er5 : f_X0_body12 S1 62 w1 a2 = r5
      have hM : CS r5.2 := CS.of (by rw [← er5]; exact q_X0_body12 _ _ _ _) hM
      refine aw_iret hC dX0_sizeOf_53 (Nat.le_refl _) (Nat.le_refl _) ?_
      exact FP.qI ((bd_eq eS1).trans ((if_neg c2_0).trans ((if_pos c2_1).trans ((bd_eq er5).trans (rfl)))))
    | 2, _, hxc2 =>
      have c2_2 : (f_X10_kindOf S1 w1 a2) = (4 : Int32) := hxc2
      have c2_0 : ¬ (f_X10_kindOf S1 w1 a2) = (2 : Int32) := by rw [c2_2]; decide
      have c2_1 : ¬ (f_X10_kindOf S1 w1 a2) = (3 : Int32) := by rw [c2_2]; decide
      refine aw_at (pc' := 54) rfl ?_
      refine aw_aload_n hC 0 dX0_sizeOf_54 rfl rfl ?_
      refine aw_aload_n hC 1 dX0_sizeOf_55 rfl rfl ?_
      refine aw_iload_n hC 2 dX0_sizeOf_56 rfl rfl ?_
      refine aw_cV2r hC hSt (t_X0_body13 G l hM _ _ hw1 (h4 S1 eS1 c2_0 c2_1 c2_2)) w_33 w_39 w_40 w_41 w_23 rfl rfl (by decide +kernel) ⟨Nat.le_of_ble_eq_true rfl, Nat.le_of_ble_eq_true rfl⟩ (cs_lt 62 0 0 (by decide) hM) (cs_k 62 0 0 (by decide) hM) rfl (Nat.le_of_ble_eq_true rfl) dX0_sizeOf_57 ⟨Nat.zero_le _, Nat.zero_le _⟩ ?_
      generalize er6 : f_X0_body13 S1 62 w1 a2 = r6
      have hM : CS r6.2 := CS.of (by rw [← er6]; exact q_X0_body13 _ _ _ _) hM
      refine aw_iret hC dX0_sizeOf_60 (Nat.le_refl _) (Nat.le_refl _) ?_
      exact FP.qI ((bd_eq eS1).trans ((if_neg c2_0).trans ((if_neg c2_1).trans ((if_pos c2_2).trans ((bd_eq er6).trans (rfl))))))
    | 3, _, hxc2 =>
      have c2_3 : (f_X10_kindOf S1 w1 a2) = (5 : Int32) := hxc2
      have c2_0 : ¬ (f_X10_kindOf S1 w1 a2) = (2 : Int32) := by rw [c2_3]; decide
      have c2_1 : ¬ (f_X10_kindOf S1 w1 a2) = (3 : Int32) := by rw [c2_3]; decide
      have c2_2 : ¬ (f_X10_kindOf S1 w1 a2) = (4 : Int32) := by rw [c2_3]; decide
      refine aw_at (pc' := 61) rfl ?_
      refine aw_aload_n hC 0 dX0_sizeOf_61 rfl rfl ?_
      refine aw_aload_n hC 1 dX0_sizeOf_62 rfl rfl ?_
      refine aw_iload_n hC 2 dX0_sizeOf_63 rfl rfl ?_
      refine aw_cV2r hC hSt (t_X0_body14 G l hM _ _ hw1 (h5 S1 eS1 c2_0 c2_1 c2_2 c2_3)) w_45 w_52 w_53 w_54 w_23 rfl rfl (by decide +kernel) ⟨Nat.le_of_ble_eq_true rfl, Nat.le_of_ble_eq_true rfl⟩ (cs_lt 62 0 0 (by decide) hM) (cs_k 62 0 0 (by decide) hM) rfl (Nat.le_of_ble_eq_true rfl) dX0_sizeOf_64 ⟨Nat.zero_le _, Nat.zero_le _⟩ ?_
      generalize er7 : f_X0_body14 S1 62 w1 a2 = r7
      have hM : CS r7.2 := CS.of (by rw [← er7]; exact q_X0_body14 _ _ _ _) hM
      refine aw_iret hC dX0_sizeOf_67 (Nat.le_refl _) (Nat.le_refl _) ?_
      exact FP.qI ((bd_eq eS1).trans ((if_neg c2_0).trans ((if_neg c2_1).trans ((if_neg c2_2).trans ((if_pos c2_3).trans ((bd_eq er7).trans (rfl)))))))
    | kc2 + 4, hkc2, _ => exact absurd hkc2 (by simp)
theorem q_X0_sizeOf (S : HSt) (_o0 : Nat) (w1 : Nat) (a2 : Int32) : shp ((f_X0_sizeOf S _o0 w1 a2).2) = shp S := by
  unfold f_X0_sizeOf
  repeat' (first | with_reducible refine shpr1 ?_ | with_reducible rfl | with_reducible refine (q_X0_body10 _ _).trans ?_ | with_reducible refine (q_X0_body11 _ _ _ _).trans ?_ | with_reducible refine (q_X0_body12 _ _ _ _).trans ?_ | with_reducible refine (q_X0_body13 _ _ _ _).trans ?_ | with_reducible refine (q_X0_body14 _ _ _ _).trans ?_ | with_reducible refine (shp_sI _ _ _ _).trans ?_ | with_reducible refine (shp_sJ _ _ _ _).trans ?_ | with_reducible refine shi ?_ ?_ | with_reducible refine shb (fun _ _ => ?_) | with_reducible refine shiP (fun q : Int32 × HSt => q.2) ?_ ?_ | with_reducible refine shbP (fun q : Int32 × HSt => q.2) (fun _ _ => ?_) | (subst_vars; with_reducible rfl) | (subst_vars; with_reducible refine (q_X0_body10 _ _).trans ?_) | (subst_vars; with_reducible refine (q_X0_body11 _ _ _ _).trans ?_) | (subst_vars; with_reducible refine (q_X0_body12 _ _ _ _).trans ?_) | (subst_vars; with_reducible refine (q_X0_body13 _ _ _ _).trans ?_) | (subst_vars; with_reducible refine (q_X0_body14 _ _ _ _).trans ?_) | (subst_vars; with_reducible refine (shp_sI _ _ _ _).trans ?_) | (subst_vars; with_reducible refine (shp_sJ _ _ _ _).trans ?_) | (subst_vars; with_reducible refine shi ?_ ?_) | (subst_vars; with_reducible refine shb (fun _ _ => ?_)))
def f_X0_markOf (S : HSt) (_o0 : Nat) (w1 : Nat) (a2 : Int32) : Int32 × HSt := bd ((sI S 62 1 (0 : Int32))) fun S1 => if (f_X10_kindOf S1 w1 a2) = (2 : Int32) then (bd (f_X0_body22 S1 62 w1 a2) fun r4 => pr (r4.1) (r4.2)) else (if (f_X10_kindOf S1 w1 a2) = (3 : Int32) then (bd (f_X0_body21 S1 62 w1 a2) fun r5 => pr (r5.1) (r5.2)) else (if (f_X10_kindOf S1 w1 a2) = (4 : Int32) then (bd (f_X0_body20 S1 62 a2) fun r6 => pr (r6.1) (r6.2)) else (if (f_X10_kindOf S1 w1 a2) = (5 : Int32) then (bd (f_X0_body24 S1 62 a2) fun r7 => pr (r7.1) (r7.2)) else (if (f_X10_kindOf S1 w1 a2) = (6 : Int32) then (bd (f_X0_body23 S1 62 a2) fun r8 => pr (r8.1) (r8.2)) else (bd (f_X0_body20 S1 62 a2) fun r3 => pr (r3.1) (r3.2))))))
def p_X0_markOf (S : HSt) (_o0 : Nat) (w1 : Nat) (a2 : Int32) : Prop := (∀ S1 : HSt, (sI S 62 1 (0 : Int32)) = S1 → p_X10_kindOf S1 w1 a2) ∧ (∀ S1 : HSt, (sI S 62 1 (0 : Int32)) = S1 → (¬ (f_X10_kindOf S1 w1 a2) = (2 : Int32)) → (¬ (f_X10_kindOf S1 w1 a2) = (3 : Int32)) → (¬ (f_X10_kindOf S1 w1 a2) = (4 : Int32)) → (¬ (f_X10_kindOf S1 w1 a2) = (5 : Int32)) → (¬ (f_X10_kindOf S1 w1 a2) = (6 : Int32)) → p_X0_body20 S1 62 a2) ∧ (∀ S1 : HSt, (sI S 62 1 (0 : Int32)) = S1 → ((f_X10_kindOf S1 w1 a2) = (2 : Int32)) → p_X0_body22 S1 62 w1 a2) ∧ (∀ S1 : HSt, (sI S 62 1 (0 : Int32)) = S1 → (¬ (f_X10_kindOf S1 w1 a2) = (2 : Int32)) → ((f_X10_kindOf S1 w1 a2) = (3 : Int32)) → p_X0_body21 S1 62 w1 a2) ∧ (∀ S1 : HSt, (sI S 62 1 (0 : Int32)) = S1 → (¬ (f_X10_kindOf S1 w1 a2) = (2 : Int32)) → (¬ (f_X10_kindOf S1 w1 a2) = (3 : Int32)) → ((f_X10_kindOf S1 w1 a2) = (4 : Int32)) → p_X0_body20 S1 62 a2) ∧ (∀ S1 : HSt, (sI S 62 1 (0 : Int32)) = S1 → (¬ (f_X10_kindOf S1 w1 a2) = (2 : Int32)) → (¬ (f_X10_kindOf S1 w1 a2) = (3 : Int32)) → (¬ (f_X10_kindOf S1 w1 a2) = (4 : Int32)) → ((f_X10_kindOf S1 w1 a2) = (5 : Int32)) → p_X0_body24 S1 62 a2) ∧ (∀ S1 : HSt, (sI S 62 1 (0 : Int32)) = S1 → (¬ (f_X10_kindOf S1 w1 a2) = (2 : Int32)) → (¬ (f_X10_kindOf S1 w1 a2) = (3 : Int32)) → (¬ (f_X10_kindOf S1 w1 a2) = (4 : Int32)) → (¬ (f_X10_kindOf S1 w1 a2) = (5 : Int32)) → ((f_X10_kindOf S1 w1 a2) = (6 : Int32)) → p_X0_body23 S1 62 a2)
set_option maxRecDepth 100000 in
theorem t_X0_markOf (G : GG) (l : Launch) {S : HSt} (hM : CS S) (w1 : Nat) (a2 : Int32) (hw1 : (w1, 10, 0) ∈ cKT) (hp : p_X0_markOf S 62 w1 a2) : AM G l yX0_markOf cX0_markOf 3 (some .int) (rmD 4 0 0) 0 0 [.ref 62, .ref w1, .int a2] S (FP (some (.int (f_X0_markOf S 62 w1 a2).1)) ((f_X0_markOf S 62 w1 a2).2)) := by
  obtain ⟨h0, h1, h2, h3, h4, h5, h6⟩ := hp
  refine AM.mk (by decide) (Nat.le_of_ble_eq_true rfl) ?_
  intro p e s m below meth c hC hSt _
  refine aw_aload_n hC 0 dX0_markOf_0 rfl rfl ?_
  refine aw_iconst (v := 0) hC dX0_markOf_1 (by decide) ?_
  refine aw_putI hC hSt 1 (cs_lt 62 0 0 (by decide) hM) (cs_k 62 0 0 (by decide) hM) rfl (by decide) w_7 rfl rfl rfl rfl dX0_markOf_2 ?_
  generalize eS1 : (sI S 62 1 (0 : Int32)) = S1
  have hM : CS S1 := CS.of (by rw [← eS1]; exact shp_sI _ _ _ _) hM
  refine aw_aload_n hC 1 dX0_markOf_5 rfl rfl ?_
  refine aw_iload_n hC 2 dX0_markOf_6 rfl rfl ?_
  refine aw_cV1r hC hSt (t_X10_kindOf G l hM _ _ hw1 (h0 S1 eS1)) w_14 w_46 w_47 w_48 w_18 rfl rfl (by decide +kernel) ⟨Nat.le_of_ble_eq_true rfl, Nat.le_of_ble_eq_true rfl⟩ (cs_lt w1 10 0 hw1 hM) (cs_k w1 10 0 hw1 hM) rfl (Nat.le_of_ble_eq_true rfl) dX0_markOf_7 ⟨Nat.zero_le _, Nat.zero_le _⟩ ?_
  refine aw_switchE hC dX0_markOf_10 70 (by decide) [44, 51, 70, 58, 64] rfl (by decide) (by decide) (fun hdc2 => ?_) (fun kc2 hkc2 hxc2 => ?_)
  · have c2_0 : ¬ (f_X10_kindOf S1 w1 a2) = (2 : Int32) := hdc2 0 (by decide)
    have c2_1 : ¬ (f_X10_kindOf S1 w1 a2) = (3 : Int32) := hdc2 1 (by decide)
    have c2_2 : ¬ (f_X10_kindOf S1 w1 a2) = (4 : Int32) := hdc2 2 (by decide)
    have c2_3 : ¬ (f_X10_kindOf S1 w1 a2) = (5 : Int32) := hdc2 3 (by decide)
    have c2_4 : ¬ (f_X10_kindOf S1 w1 a2) = (6 : Int32) := hdc2 4 (by decide)
    refine aw_aload_n hC 0 dX0_markOf_70 rfl rfl ?_
    refine aw_iload_n hC 2 dX0_markOf_71 rfl rfl ?_
    refine aw_cV1r hC hSt (t_X0_body20 G l hM _ (h1 S1 eS1 c2_0 c2_1 c2_2 c2_3 c2_4)) w_34 w_36 w_37 w_38 w_23 rfl rfl (by decide +kernel) ⟨Nat.le_of_ble_eq_true rfl, Nat.le_of_ble_eq_true rfl⟩ (cs_lt 62 0 0 (by decide) hM) (cs_k 62 0 0 (by decide) hM) rfl (Nat.le_of_ble_eq_true rfl) dX0_markOf_72 ⟨Nat.zero_le _, Nat.zero_le _⟩ ?_
    generalize er3 : f_X0_body20 S1 62 a2 = r3
    have hM : CS r3.2 := CS.of (by rw [← er3]; exact q_X0_body20 _ _ _) hM
    refine aw_iret hC dX0_markOf_75 (Nat.le_refl _) (Nat.le_refl _) ?_
    exact FP.qI ((bd_eq eS1).trans ((if_neg c2_0).trans ((if_neg c2_1).trans ((if_neg c2_2).trans ((if_neg c2_3).trans ((if_neg c2_4).trans ((bd_eq er3).trans (rfl))))))))
  · match kc2, hkc2, hxc2 with
    | 0, _, hxc2 =>
      have c2_0 : (f_X10_kindOf S1 w1 a2) = (2 : Int32) := hxc2
      refine aw_at (pc' := 44) rfl ?_
      refine aw_aload_n hC 0 dX0_markOf_44 rfl rfl ?_
      refine aw_aload_n hC 1 dX0_markOf_45 rfl rfl ?_
      refine aw_iload_n hC 2 dX0_markOf_46 rfl rfl ?_
      refine aw_cV2r hC hSt (t_X0_body22 G l hM _ _ hw1 (h2 S1 eS1 c2_0)) w_60 w_62 w_63 w_64 w_23 rfl rfl (by decide +kernel) ⟨Nat.le_of_ble_eq_true rfl, Nat.le_of_ble_eq_true rfl⟩ (cs_lt 62 0 0 (by decide) hM) (cs_k 62 0 0 (by decide) hM) rfl (Nat.le_of_ble_eq_true rfl) dX0_markOf_47 ⟨Nat.zero_le _, Nat.zero_le _⟩ ?_
      generalize er4 : f_X0_body22 S1 62 w1 a2 = r4
      have hM : CS r4.2 := CS.of (by rw [← er4]; exact q_X0_body22 _ _ _ _) hM
      refine aw_iret hC dX0_markOf_50 (Nat.le_refl _) (Nat.le_refl _) ?_
      exact FP.qI ((bd_eq eS1).trans ((if_pos c2_0).trans ((bd_eq er4).trans (rfl))))
    | 1, _, hxc2 =>
      have c2_1 : (f_X10_kindOf S1 w1 a2) = (3 : Int32) := hxc2
      have c2_0 : ¬ (f_X10_kindOf S1 w1 a2) = (2 : Int32) := by rw [c2_1]; decide
      refine aw_at (pc' := 51) rfl ?_
      refine aw_aload_n hC 0 dX0_markOf_51 rfl rfl ?_
      refine aw_aload_n hC 1 dX0_markOf_52 rfl rfl ?_
      refine aw_iload_n hC 2 dX0_markOf_53 rfl rfl ?_
      refine aw_cV2r hC hSt (t_X0_body21 G l hM _ _ hw1 (h3 S1 eS1 c2_0 c2_1)) w_56 w_57 w_58 w_59 w_23 rfl rfl (by decide +kernel) ⟨Nat.le_of_ble_eq_true rfl, Nat.le_of_ble_eq_true rfl⟩ (cs_lt 62 0 0 (by decide) hM) (cs_k 62 0 0 (by decide) hM) rfl (Nat.le_of_ble_eq_true rfl) dX0_markOf_54 ⟨Nat.zero_le _, Nat.zero_le _⟩ ?_
      generalize er5 : f_X0_body21 S1 62 w1 a2 = r5
      have hM : CS r5.2 := CS.of (by rw [← er5]; exact q_X0_body21 _ _ _ _) hM
      refine aw_iret hC dX0_markOf_57 (Nat.le_refl _) (Nat.le_refl _) ?_
      exact FP.qI ((bd_eq eS1).trans ((if_neg c2_0).trans ((if_pos c2_1).trans ((bd_eq er5).trans (rfl)))))
    | 2, _, hxc2 =>
      have c2_2 : (f_X10_kindOf S1 w1 a2) = (4 : Int32) := hxc2
      have c2_0 : ¬ (f_X10_kindOf S1 w1 a2) = (2 : Int32) := by rw [c2_2]; decide
      have c2_1 : ¬ (f_X10_kindOf S1 w1 a2) = (3 : Int32) := by rw [c2_2]; decide
      refine aw_at (pc' := 70) rfl ?_
      refine aw_aload_n hC 0 dX0_markOf_70 rfl rfl ?_
      refine aw_iload_n hC 2 dX0_markOf_71 rfl rfl ?_
      refine aw_cV1r hC hSt (t_X0_body20 G l hM _ (h4 S1 eS1 c2_0 c2_1 c2_2)) w_34 w_36 w_37 w_38 w_23 rfl rfl (by decide +kernel) ⟨Nat.le_of_ble_eq_true rfl, Nat.le_of_ble_eq_true rfl⟩ (cs_lt 62 0 0 (by decide) hM) (cs_k 62 0 0 (by decide) hM) rfl (Nat.le_of_ble_eq_true rfl) dX0_markOf_72 ⟨Nat.zero_le _, Nat.zero_le _⟩ ?_
      generalize er6 : f_X0_body20 S1 62 a2 = r6
      have hM : CS r6.2 := CS.of (by rw [← er6]; exact q_X0_body20 _ _ _) hM
      refine aw_iret hC dX0_markOf_75 (Nat.le_refl _) (Nat.le_refl _) ?_
      exact FP.qI ((bd_eq eS1).trans ((if_neg c2_0).trans ((if_neg c2_1).trans ((if_pos c2_2).trans ((bd_eq er6).trans (rfl))))))
    | 3, _, hxc2 =>
      have c2_3 : (f_X10_kindOf S1 w1 a2) = (5 : Int32) := hxc2
      have c2_0 : ¬ (f_X10_kindOf S1 w1 a2) = (2 : Int32) := by rw [c2_3]; decide
      have c2_1 : ¬ (f_X10_kindOf S1 w1 a2) = (3 : Int32) := by rw [c2_3]; decide
      have c2_2 : ¬ (f_X10_kindOf S1 w1 a2) = (4 : Int32) := by rw [c2_3]; decide
      refine aw_at (pc' := 58) rfl ?_
      refine aw_aload_n hC 0 dX0_markOf_58 rfl rfl ?_
      refine aw_iload_n hC 2 dX0_markOf_59 rfl rfl ?_
      refine aw_cV1r hC hSt (t_X0_body24 G l hM _ (h5 S1 eS1 c2_0 c2_1 c2_2 c2_3)) w_35 w_42 w_43 w_44 w_23 rfl rfl (by decide +kernel) ⟨Nat.le_of_ble_eq_true rfl, Nat.le_of_ble_eq_true rfl⟩ (cs_lt 62 0 0 (by decide) hM) (cs_k 62 0 0 (by decide) hM) rfl (Nat.le_of_ble_eq_true rfl) dX0_markOf_60 ⟨Nat.zero_le _, Nat.zero_le _⟩ ?_
      generalize er7 : f_X0_body24 S1 62 a2 = r7
      have hM : CS r7.2 := CS.of (by rw [← er7]; exact q_X0_body24 _ _ _) hM
      refine aw_iret hC dX0_markOf_63 (Nat.le_refl _) (Nat.le_refl _) ?_
      exact FP.qI ((bd_eq eS1).trans ((if_neg c2_0).trans ((if_neg c2_1).trans ((if_neg c2_2).trans ((if_pos c2_3).trans ((bd_eq er7).trans (rfl)))))))
    | 4, _, hxc2 =>
      have c2_4 : (f_X10_kindOf S1 w1 a2) = (6 : Int32) := hxc2
      have c2_0 : ¬ (f_X10_kindOf S1 w1 a2) = (2 : Int32) := by rw [c2_4]; decide
      have c2_1 : ¬ (f_X10_kindOf S1 w1 a2) = (3 : Int32) := by rw [c2_4]; decide
      have c2_2 : ¬ (f_X10_kindOf S1 w1 a2) = (4 : Int32) := by rw [c2_4]; decide
      have c2_3 : ¬ (f_X10_kindOf S1 w1 a2) = (5 : Int32) := by rw [c2_4]; decide
      refine aw_at (pc' := 64) rfl ?_
      refine aw_aload_n hC 0 dX0_markOf_64 rfl rfl ?_
      refine aw_iload_n hC 2 dX0_markOf_65 rfl rfl ?_
      refine aw_cV1r hC hSt (t_X0_body23 G l hM _ (h6 S1 eS1 c2_0 c2_1 c2_2 c2_3 c2_4)) w_61 w_65 w_66 w_67 w_23 rfl rfl (by decide +kernel) ⟨Nat.le_of_ble_eq_true rfl, Nat.le_of_ble_eq_true rfl⟩ (cs_lt 62 0 0 (by decide) hM) (cs_k 62 0 0 (by decide) hM) rfl (Nat.le_of_ble_eq_true rfl) dX0_markOf_66 ⟨Nat.zero_le _, Nat.zero_le _⟩ ?_
      generalize er8 : f_X0_body23 S1 62 a2 = r8
      have hM : CS r8.2 := CS.of (by rw [← er8]; exact q_X0_body23 _ _ _) hM
      refine aw_iret hC dX0_markOf_69 (Nat.le_refl _) (Nat.le_refl _) ?_
      exact FP.qI ((bd_eq eS1).trans ((if_neg c2_0).trans ((if_neg c2_1).trans ((if_neg c2_2).trans ((if_neg c2_3).trans ((if_pos c2_4).trans ((bd_eq er8).trans (rfl))))))))
    | kc2 + 5, hkc2, _ => exact absurd hkc2 (by simp)
theorem q_X0_markOf (S : HSt) (_o0 : Nat) (w1 : Nat) (a2 : Int32) : shp ((f_X0_markOf S _o0 w1 a2).2) = shp S := by
  unfold f_X0_markOf
  repeat' (first | with_reducible refine shpr1 ?_ | with_reducible rfl | with_reducible refine (q_X0_body20 _ _ _).trans ?_ | with_reducible refine (q_X0_body21 _ _ _ _).trans ?_ | with_reducible refine (q_X0_body22 _ _ _ _).trans ?_ | with_reducible refine (q_X0_body23 _ _ _).trans ?_ | with_reducible refine (q_X0_body24 _ _ _).trans ?_ | with_reducible refine (shp_sI _ _ _ _).trans ?_ | with_reducible refine (shp_sJ _ _ _ _).trans ?_ | with_reducible refine shi ?_ ?_ | with_reducible refine shb (fun _ _ => ?_) | with_reducible refine shiP (fun q : Int32 × HSt => q.2) ?_ ?_ | with_reducible refine shbP (fun q : Int32 × HSt => q.2) (fun _ _ => ?_) | (subst_vars; with_reducible rfl) | (subst_vars; with_reducible refine (q_X0_body20 _ _ _).trans ?_) | (subst_vars; with_reducible refine (q_X0_body21 _ _ _ _).trans ?_) | (subst_vars; with_reducible refine (q_X0_body22 _ _ _ _).trans ?_) | (subst_vars; with_reducible refine (q_X0_body23 _ _ _).trans ?_) | (subst_vars; with_reducible refine (q_X0_body24 _ _ _).trans ?_) | (subst_vars; with_reducible refine (shp_sI _ _ _ _).trans ?_) | (subst_vars; with_reducible refine (shp_sJ _ _ _ _).trans ?_) | (subst_vars; with_reducible refine shi ?_ ?_) | (subst_vars; with_reducible refine shb (fun _ _ => ?_)))
def F_X5_isRow (S : HSt) (a1 : Int32) : Int32 × HSt := bd ((if a1 < 0 then (0 : Int32) else (if (8 : Int32) ≤ a1 then (0 : Int32) else (1 : Int32)))) fun x3 => pr (x3) (S)
def f_X5_isRow (S : HSt) (a1 : Int32) : Int32 := (F_X5_isRow S a1).1
set_option maxRecDepth 100000 in
theorem t_X5_isRow (G : GG) (l : Launch) {S : HSt} (a1 : Int32)   : AM G l yX5_isRow cX5_isRow 1 (some .boolean) (rmD 0 0 0) 0 0 [.int a1] S (FP (some (.int (f_X5_isRow S a1))) (S)) := by
  refine AM.mk (by decide) (Nat.le_of_ble_eq_true rfl) ?_
  intro p e s m below meth c hC hSt _
  refine aw_iload_n hC 0 dX5_isRow_0 rfl rfl ?_
  refine aw_cut (S' := S) (pc' := 15) (lv' := [(0, .int a1)]) (st' := [.int (if a1 < 0 then (0 : Int32) else (if (8 : Int32) ≤ a1 then (0 : Int32) else (1 : Int32)))]) ?_ (fun Jc1 => ?_)
  · generalize ex3 : (if a1 < 0 then (0 : Int32) else (if (8 : Int32) ≤ a1 then (0 : Int32) else (1 : Int32))) = x3
    refine aw_zret hC dX5_isRow_15 (Nat.le_refl _) (Nat.le_refl _) (Bz.n (ex3 ▸ (Bz.ite (Or.inl rfl) (Bz.ite (Or.inl rfl) (Or.inr rfl))))) ?_
    exact FP.pI ((bd_eq ex3).trans (rfl))
  · refine aw_if_lt hC 14 dX5_isRow_1 (by decide) (fun c1 => ?_) (fun c1 => ?_)
    · refine aw_iconst (v := 0) hC dX5_isRow_14 (by decide) ?_
      simp only [bd_def, if_pos c1] at Jc1 ⊢
      exact Jc1
    · refine aw_iload_n hC 0 dX5_isRow_4 rfl rfl ?_
      refine aw_bipush (v := 8) hC dX5_isRow_5 (by decide) ?_
      refine aw_icmp_ge hC 14 dX5_isRow_7 (by decide) (fun c2 => ?_) (fun c2 => ?_)
      · refine aw_iconst (v := 0) hC dX5_isRow_14 (by decide) ?_
        simp only [bd_def, if_neg c1, if_pos c2] at Jc1 ⊢
        exact Jc1
      · refine aw_iconst (v := 1) hC dX5_isRow_10 (by decide) ?_
        refine aw_goto hC 15 dX5_isRow_11 (by decide) ?_
        simp only [bd_def, if_neg c1, if_neg c2] at Jc1 ⊢
        exact Jc1
theorem b_X5_isRow (S : HSt) (a1 : Int32) : Bz (f_X5_isRow S a1) := by
  unfold f_X5_isRow F_X5_isRow
  (try dsimp only [bd])
  (repeat' split) <;> first | exact Or.inl rfl | exact Or.inr rfl
def F_X5_isMissing (S : HSt) (_o0 : Nat) (a1 : Int32) : Int32 × HSt := bd ((if (f_X5_isRow S a1) = 0 then (1 : Int32) else (if (gI S 12 a1.toNatClampNeg) = (-1 : Int32) then (1 : Int32) else (0 : Int32)))) fun x3 => pr (x3) (S)
def f_X5_isMissing (S : HSt) (_o0 : Nat) (a1 : Int32) : Int32 := (F_X5_isMissing S _o0 a1).1
def p_X5_isMissing (S : HSt) (_o0 : Nat) (a1 : Int32) : Prop := ((¬ (f_X5_isRow S a1) = 0) → vp_in a1 8)
set_option maxRecDepth 100000 in
theorem t_X5_isMissing (G : GG) (l : Launch) {S : HSt} (hM : CS S) (a1 : Int32)  (hp : p_X5_isMissing S 1 a1) : AM G l yX5_isMissing cX5_isMissing 2 (some .boolean) (rmD 1 0 0) 0 0 [.ref 1, .int a1] S (FP (some (.int (f_X5_isMissing S 1 a1))) (S)) := by
  have h0 := hp
  unfold p_X5_isMissing at h0
  refine AM.mk (by decide) (Nat.le_of_ble_eq_true rfl) ?_
  intro p e s m below meth c hC hSt _
  refine aw_iload_n hC 1 dX5_isMissing_0 rfl rfl ?_
  refine aw_cS1r hC hSt (t_X5_isRow G l  _) w_469 w_471 w_472 w_473 rfl rfl (by decide +kernel) ⟨Nat.le_of_ble_eq_true rfl, Nat.le_of_ble_eq_true rfl⟩ (Nat.le_of_ble_eq_true rfl) dX5_isMissing_1 ⟨Nat.zero_le _, Nat.zero_le _⟩ ?_
  refine aw_cut (S' := S) (pc' := 22) (lv' := [(0, .ref 1), (1, .int a1)]) (st' := [.int (if (f_X5_isRow S a1) = 0 then (1 : Int32) else (if (gI S 12 a1.toNatClampNeg) = (-1 : Int32) then (1 : Int32) else (0 : Int32)))]) ?_ (fun Jc1 => ?_)
  · generalize ex3 : (if (f_X5_isRow S a1) = 0 then (1 : Int32) else (if (gI S 12 a1.toNatClampNeg) = (-1 : Int32) then (1 : Int32) else (0 : Int32))) = x3
    refine aw_zret hC dX5_isMissing_22 (Nat.le_refl _) (Nat.le_refl _) (Bz.n (ex3 ▸ (Bz.ite (Or.inr rfl) (Bz.ite (Or.inr rfl) (Or.inl rfl))))) ?_
    exact FP.pI ((bd_eq ex3).trans (rfl))
  · refine aw_if_eq hC 17 dX5_isMissing_4 (by decide) (fun c1 => ?_) (fun c1 => ?_)
    · refine aw_iconst (v := 1) hC dX5_isMissing_17 (by decide) ?_
      refine aw_goto hC 22 dX5_isMissing_18 (by decide) ?_
      simp only [bd_def, if_pos c1] at Jc1 ⊢
      exact Jc1
    · refine aw_aload_n hC 0 dX5_isMissing_7 rfl rfl ?_
      refine aw_getP (b := 12) hC hSt 2 (cs_lt 1 5 0 (by decide) hM) (cs_k 1 5 0 (by decide) hM) rfl (by decide) w_467 rfl (cs_p 1 2 12 (by decide) hM) dX5_isMissing_8 ?_
      refine aw_iload_n hC 1 dX5_isMissing_11 rfl rfl ?_
      refine aw_iald hC hSt (cs_lt 12 14 8 (by decide) hM) (cs_k 12 14 8 (by decide) hM) (vp_len (n := 8) (cs_l 12 14 8 (by decide) hM) (h0 c1)) dX5_isMissing_12 ?_
      refine aw_iconst (v := -1) hC dX5_isMissing_13 (by decide) ?_
      refine aw_icmp_ne hC 21 dX5_isMissing_14 (by decide) (fun c2 => ?_) (fun c2 => ?_)
      · refine aw_iconst (v := 0) hC dX5_isMissing_21 (by decide) ?_
        simp only [bd_def, if_neg c1, if_neg c2] at Jc1 ⊢
        exact Jc1
      · refine aw_iconst (v := 1) hC dX5_isMissing_17 (by decide) ?_
        refine aw_goto hC 22 dX5_isMissing_18 (by decide) ?_
        simp only [bd_def, if_neg c1, if_pos c2] at Jc1 ⊢
        exact Jc1
theorem b_X5_isMissing (S : HSt) (_o0 : Nat) (a1 : Int32) : Bz (f_X5_isMissing S _o0 a1) := by
  unfold f_X5_isMissing F_X5_isMissing
  (try dsimp only [bd])
  (repeat' split) <;> first | exact Or.inl rfl | exact Or.inr rfl | exact b_X5_isRow _ _
def F_X5_laneOf (S : HSt) (_o0 : Nat) (a1 : Int32) : Int32 × HSt := bd ((if (f_X5_isRow S a1) = 0 then (-1000000 : Int32) else (gI S 11 a1.toNatClampNeg))) fun x2 => pr (x2) (S)
def f_X5_laneOf (S : HSt) (_o0 : Nat) (a1 : Int32) : Int32 := (F_X5_laneOf S _o0 a1).1
def p_X5_laneOf (S : HSt) (_o0 : Nat) (a1 : Int32) : Prop := ((¬ (f_X5_isRow S a1) = 0) → vp_in a1 8)
set_option maxRecDepth 100000 in
theorem t_X5_laneOf (G : GG) (l : Launch) {S : HSt} (hM : CS S) (a1 : Int32)  (hp : p_X5_laneOf S 1 a1) : AM G l yX5_laneOf cX5_laneOf 2 (some .int) (rmD 1 0 0) 0 0 [.ref 1, .int a1] S (FP (some (.int (f_X5_laneOf S 1 a1))) (S)) := by
  have h0 := hp
  unfold p_X5_laneOf at h0
  refine AM.mk (by decide) (Nat.le_of_ble_eq_true rfl) ?_
  intro p e s m below meth c hC hSt _
  refine aw_iload_n hC 1 dX5_laneOf_0 rfl rfl ?_
  refine aw_cS1r hC hSt (t_X5_isRow G l  _) w_469 w_471 w_472 w_473 rfl rfl (by decide +kernel) ⟨Nat.le_of_ble_eq_true rfl, Nat.le_of_ble_eq_true rfl⟩ (Nat.le_of_ble_eq_true rfl) dX5_laneOf_1 ⟨Nat.zero_le _, Nat.zero_le _⟩ ?_
  refine aw_cut (S' := S) (pc' := 18) (lv' := [(0, .ref 1), (1, .int a1)]) (st' := [.int (if (f_X5_isRow S a1) = 0 then (-1000000 : Int32) else (gI S 11 a1.toNatClampNeg))]) ?_ (fun Jc1 => ?_)
  · generalize ex2 : (if (f_X5_isRow S a1) = 0 then (-1000000 : Int32) else (gI S 11 a1.toNatClampNeg)) = x2
    refine aw_iret hC dX5_laneOf_18 (Nat.le_refl _) (Nat.le_refl _) ?_
    exact FP.pI ((bd_eq ex2).trans (rfl))
  · refine aw_if_eq hC 16 dX5_laneOf_4 (by decide) (fun c1 => ?_) (fun c1 => ?_)
    · refine aw_ldc (v := -1000000) hC w_475 dX5_laneOf_16 ?_
      simp only [bd_def, if_pos c1] at Jc1 ⊢
      exact Jc1
    · refine aw_aload_n hC 0 dX5_laneOf_7 rfl rfl ?_
      refine aw_getP (b := 11) hC hSt 1 (cs_lt 1 5 0 (by decide) hM) (cs_k 1 5 0 (by decide) hM) rfl (by decide) w_466 rfl (cs_p 1 1 11 (by decide) hM) dX5_laneOf_8 ?_
      refine aw_iload_n hC 1 dX5_laneOf_11 rfl rfl ?_
      refine aw_iald hC hSt (cs_lt 11 14 8 (by decide) hM) (cs_k 11 14 8 (by decide) hM) (vp_len (n := 8) (cs_l 11 14 8 (by decide) hM) (h0 c1)) dX5_laneOf_12 ?_
      refine aw_goto hC 18 dX5_laneOf_13 (by decide) ?_
      simp only [bd_def, if_neg c1] at Jc1 ⊢
      exact Jc1
def F_X5_hasPlaces (S : HSt) (_o0 : Nat) (a1 : Int32) (a2 : Int32) (a3 : Int32) : Int32 × HSt := bd ((if (f_X5_isMissing S 1 a1) = 0 then (if a2 < 0 then (0 : Int32) else (if a3 < 0 then (0 : Int32) else (if (gI S 12 a1.toNatClampNeg) < a3 then (0 : Int32) else (if ((gI S 12 a1.toNatClampNeg) - a3) < a2 then (0 : Int32) else (1 : Int32))))) else (0 : Int32))) fun x6 => pr (x6) (S)
def f_X5_hasPlaces (S : HSt) (_o0 : Nat) (a1 : Int32) (a2 : Int32) (a3 : Int32) : Int32 := (F_X5_hasPlaces S _o0 a1 a2 a3).1
def p_X5_hasPlaces (S : HSt) (_o0 : Nat) (a1 : Int32) (a2 : Int32) (a3 : Int32) : Prop := (p_X5_isMissing S 1 a1) ∧ (((f_X5_isMissing S 1 a1) = 0) → (¬ a2 < 0) → (¬ a3 < 0) → vp_in a1 8) ∧ (((f_X5_isMissing S 1 a1) = 0) → (¬ a2 < 0) → (¬ a3 < 0) → (¬ (gI S 12 a1.toNatClampNeg) < a3) → vp_in a1 8)
set_option maxRecDepth 100000 in
theorem t_X5_hasPlaces (G : GG) (l : Launch) {S : HSt} (hM : CS S) (a1 : Int32) (a2 : Int32) (a3 : Int32)  (hp : p_X5_hasPlaces S 1 a1 a2 a3) : AM G l yX5_hasPlaces cX5_hasPlaces 4 (some .boolean) (rmD 2 0 0) 0 0 [.ref 1, .int a1, .int a2, .int a3] S (FP (some (.int (f_X5_hasPlaces S 1 a1 a2 a3))) (S)) := by
  obtain ⟨h0, h1, h2⟩ := hp
  refine AM.mk (by decide) (Nat.le_of_ble_eq_true rfl) ?_
  intro p e s m below meth c hC hSt _
  refine aw_aload_n hC 0 dX5_hasPlaces_0 rfl rfl ?_
  refine aw_iload_n hC 1 dX5_hasPlaces_1 rfl rfl ?_
  refine aw_cV1r hC hSt (t_X5_isMissing G l hM _ (h0)) w_470 w_477 w_478 w_479 w_473 rfl rfl (by decide +kernel) ⟨Nat.le_of_ble_eq_true rfl, Nat.le_of_ble_eq_true rfl⟩ (cs_lt 1 5 0 (by decide) hM) (cs_k 1 5 0 (by decide) hM) rfl (Nat.le_of_ble_eq_true rfl) dX5_hasPlaces_2 ⟨Nat.zero_le _, Nat.zero_le _⟩ ?_
  refine aw_cut (S' := S) (pc' := 43) (lv' := [(0, .ref 1), (1, .int a1), (2, .int a2), (3, .int a3)]) (st' := [.int (if (f_X5_isMissing S 1 a1) = 0 then (if a2 < 0 then (0 : Int32) else (if a3 < 0 then (0 : Int32) else (if (gI S 12 a1.toNatClampNeg) < a3 then (0 : Int32) else (if ((gI S 12 a1.toNatClampNeg) - a3) < a2 then (0 : Int32) else (1 : Int32))))) else (0 : Int32))]) ?_ (fun Jc1 => ?_)
  · generalize ex6 : (if (f_X5_isMissing S 1 a1) = 0 then (if a2 < 0 then (0 : Int32) else (if a3 < 0 then (0 : Int32) else (if (gI S 12 a1.toNatClampNeg) < a3 then (0 : Int32) else (if ((gI S 12 a1.toNatClampNeg) - a3) < a2 then (0 : Int32) else (1 : Int32))))) else (0 : Int32)) = x6
    refine aw_zret hC dX5_hasPlaces_43 (Nat.le_refl _) (Nat.le_refl _) (Bz.n (ex6 ▸ (Bz.ite (Bz.ite (Or.inl rfl) (Bz.ite (Or.inl rfl) (Bz.ite (Or.inl rfl) (Bz.ite (Or.inl rfl) (Or.inr rfl))))) (Or.inl rfl)))) ?_
    exact FP.pI ((bd_eq ex6).trans (rfl))
  · refine aw_if_ne hC 42 dX5_hasPlaces_5 (by decide) (fun c1 => ?_) (fun c1 => ?_)
    · refine aw_iconst (v := 0) hC dX5_hasPlaces_42 (by decide) ?_
      simp only [bd_def, if_neg c1] at Jc1 ⊢
      exact Jc1
    · refine aw_iload_n hC 2 dX5_hasPlaces_8 rfl rfl ?_
      refine aw_if_lt hC 42 dX5_hasPlaces_9 (by decide) (fun c2 => ?_) (fun c2 => ?_)
      · refine aw_iconst (v := 0) hC dX5_hasPlaces_42 (by decide) ?_
        simp only [bd_def, if_pos c1, if_pos c2] at Jc1 ⊢
        exact Jc1
      · refine aw_iload_n hC 3 dX5_hasPlaces_12 rfl rfl ?_
        refine aw_if_lt hC 42 dX5_hasPlaces_13 (by decide) (fun c3 => ?_) (fun c3 => ?_)
        · refine aw_iconst (v := 0) hC dX5_hasPlaces_42 (by decide) ?_
          simp only [bd_def, if_pos c1, if_neg c2, if_pos c3] at Jc1 ⊢
          exact Jc1
        · refine aw_iload_n hC 3 dX5_hasPlaces_16 rfl rfl ?_
          refine aw_aload_n hC 0 dX5_hasPlaces_17 rfl rfl ?_
          refine aw_getP (b := 12) hC hSt 2 (cs_lt 1 5 0 (by decide) hM) (cs_k 1 5 0 (by decide) hM) rfl (by decide) w_467 rfl (cs_p 1 2 12 (by decide) hM) dX5_hasPlaces_18 ?_
          refine aw_iload_n hC 1 dX5_hasPlaces_21 rfl rfl ?_
          refine aw_iald hC hSt (cs_lt 12 14 8 (by decide) hM) (cs_k 12 14 8 (by decide) hM) (vp_len (n := 8) (cs_l 12 14 8 (by decide) hM) (h1 c1 c2 c3)) dX5_hasPlaces_22 ?_
          refine aw_icmp_gt hC 42 dX5_hasPlaces_23 (by decide) (fun c4 => ?_) (fun c4 => ?_)
          · refine aw_iconst (v := 0) hC dX5_hasPlaces_42 (by decide) ?_
            simp only [bd_def, if_pos c1, if_neg c2, if_neg c3, if_pos c4] at Jc1 ⊢
            exact Jc1
          · refine aw_iload_n hC 2 dX5_hasPlaces_26 rfl rfl ?_
            refine aw_aload_n hC 0 dX5_hasPlaces_27 rfl rfl ?_
            refine aw_getP (b := 12) hC hSt 2 (cs_lt 1 5 0 (by decide) hM) (cs_k 1 5 0 (by decide) hM) rfl (by decide) w_467 rfl (cs_p 1 2 12 (by decide) hM) dX5_hasPlaces_28 ?_
            refine aw_iload_n hC 1 dX5_hasPlaces_31 rfl rfl ?_
            refine aw_iald hC hSt (cs_lt 12 14 8 (by decide) hM) (cs_k 12 14 8 (by decide) hM) (vp_len (n := 8) (cs_l 12 14 8 (by decide) hM) (h2 c1 c2 c3 c4)) dX5_hasPlaces_32 ?_
            refine aw_iload_n hC 3 dX5_hasPlaces_33 rfl rfl ?_
            refine aw_isub hC dX5_hasPlaces_34 ?_
            refine aw_icmp_gt hC 42 dX5_hasPlaces_35 (by decide) (fun c5 => ?_) (fun c5 => ?_)
            · refine aw_iconst (v := 0) hC dX5_hasPlaces_42 (by decide) ?_
              simp only [bd_def, if_pos c1, if_neg c2, if_neg c3, if_neg c4, if_pos c5] at Jc1 ⊢
              exact Jc1
            · refine aw_iconst (v := 1) hC dX5_hasPlaces_38 (by decide) ?_
              refine aw_goto hC 43 dX5_hasPlaces_39 (by decide) ?_
              simp only [bd_def, if_pos c1, if_neg c2, if_neg c3, if_neg c4, if_neg c5] at Jc1 ⊢
              exact Jc1
theorem b_X5_hasPlaces (S : HSt) (_o0 : Nat) (a1 : Int32) (a2 : Int32) (a3 : Int32) : Bz (f_X5_hasPlaces S _o0 a1 a2 a3) := by
  unfold f_X5_hasPlaces F_X5_hasPlaces
  (try dsimp only [bd])
  (repeat' split) <;> first | exact Or.inl rfl | exact Or.inr rfl | exact b_X5_isMissing _ _ _
def f_X5_put (S : HSt) (_o0 : Nat) (a1 : Int32) (a2 : Int32) (a3 : Int32) : Int32 × HSt := if (f_X5_hasPlaces S 1 a1 a2 (1 : Int32)) = 0 then (pr ((0 : Int32)) (S)) else (bd ((if (gI S 11 a1.toNatClampNeg) = 0 then a3.toInt8.toInt32 else (if (gI S 11 a1.toNatClampNeg) = (1 : Int32) then a3.toInt16.toInt32 else a3))) fun x4 => bd ((sI S (3 + a1.toNatClampNeg) a2.toNatClampNeg x4)) fun S5 => pr (x4) (S5))
def p_X5_put (S : HSt) (_o0 : Nat) (a1 : Int32) (a2 : Int32) (a3 : Int32) : Prop := (p_X5_hasPlaces S 1 a1 a2 (1 : Int32)) ∧ ((¬ (f_X5_hasPlaces S 1 a1 a2 (1 : Int32)) = 0) → vp_in a1 8) ∧ ((¬ (f_X5_hasPlaces S 1 a1 a2 (1 : Int32)) = 0) → (¬ (gI S 11 a1.toNatClampNeg) = 0) → vp_in a1 8) ∧ ((¬ (f_X5_hasPlaces S 1 a1 a2 (1 : Int32)) = 0) → ∀ x4 : Int32, (if (gI S 11 a1.toNatClampNeg) = 0 then a3.toInt8.toInt32 else (if (gI S 11 a1.toNatClampNeg) = (1 : Int32) then a3.toInt16.toInt32 else a3)) = x4 → vp_in a1 8) ∧ ((¬ (f_X5_hasPlaces S 1 a1 a2 (1 : Int32)) = 0) → ∀ x4 : Int32, (if (gI S 11 a1.toNatClampNeg) = 0 then a3.toInt8.toInt32 else (if (gI S 11 a1.toNatClampNeg) = (1 : Int32) then a3.toInt16.toInt32 else a3)) = x4 → vp_in a2 40)
set_option maxRecDepth 100000 in
theorem t_X5_put (G : GG) (l : Launch) {S : HSt} (hM : CS S) (a1 : Int32) (a2 : Int32) (a3 : Int32)  (hp : p_X5_put S 1 a1 a2 a3) : AM G l yX5_put cX5_put 5 (some .int) (rmD 3 0 0) 0 0 [.ref 1, .int a1, .int a2, .int a3] S (FP (some (.int (f_X5_put S 1 a1 a2 a3).1)) ((f_X5_put S 1 a1 a2 a3).2)) := by
  obtain ⟨h0, h1, h2, h3, h4⟩ := hp
  refine AM.mk (by decide) (Nat.le_of_ble_eq_true rfl) ?_
  intro p e s m below meth c hC hSt _
  refine aw_aload_n hC 0 dX5_put_0 rfl rfl ?_
  refine aw_iload_n hC 1 dX5_put_1 rfl rfl ?_
  refine aw_iload_n hC 2 dX5_put_2 rfl rfl ?_
  refine aw_iconst (v := 1) hC dX5_put_3 (by decide) ?_
  refine aw_cV3r hC hSt (t_X5_hasPlaces G l hM _ _ _ (h0)) w_476 w_482 w_483 w_484 w_473 rfl rfl (by decide +kernel) ⟨Nat.le_of_ble_eq_true rfl, Nat.le_of_ble_eq_true rfl⟩ (cs_lt 1 5 0 (by decide) hM) (cs_k 1 5 0 (by decide) hM) rfl (Nat.le_of_ble_eq_true rfl) dX5_put_4 ⟨Nat.zero_le _, Nat.zero_le _⟩ ?_
  refine aw_if_ne hC 12 dX5_put_7 (by decide) (fun c1 => ?_) (fun c1 => ?_)
  · refine aw_aload_n hC 0 dX5_put_12 rfl rfl ?_
    refine aw_getP (b := 11) hC hSt 1 (cs_lt 1 5 0 (by decide) hM) (cs_k 1 5 0 (by decide) hM) rfl (by decide) w_466 rfl (cs_p 1 1 11 (by decide) hM) dX5_put_13 ?_
    refine aw_iload_n hC 1 dX5_put_16 rfl rfl ?_
    refine aw_iald hC hSt (cs_lt 11 14 8 (by decide) hM) (cs_k 11 14 8 (by decide) hM) (vp_len (n := 8) (cs_l 11 14 8 (by decide) hM) (h1 c1)) dX5_put_17 ?_
    refine aw_cut (S' := S) (pc' := 42) (lv' := [(0, .ref 1), (1, .int a1), (2, .int a2), (3, .int a3)]) (st' := [.int (if (gI S 11 a1.toNatClampNeg) = 0 then a3.toInt8.toInt32 else (if (gI S 11 a1.toNatClampNeg) = (1 : Int32) then a3.toInt16.toInt32 else a3))]) ?_ (fun Jc2 => ?_)
    · generalize ex4 : (if (gI S 11 a1.toNatClampNeg) = 0 then a3.toInt8.toInt32 else (if (gI S 11 a1.toNatClampNeg) = (1 : Int32) then a3.toInt16.toInt32 else a3)) = x4
      refine aw_istore hC [(4, .int _), (0, .ref 1), (1, .int _), (2, .int _), (3, .int _)] dX5_put_42 (by decide) rfl ?_
      refine aw_aload_n hC 1 dX5_put_44 rfl rfl ?_
      refine aw_getP (b := 2) hC hSt 0 (cs_lt 1 5 0 (by decide) hM) (cs_k 1 5 0 (by decide) hM) rfl (by decide) w_465 rfl (cs_p 1 0 2 (by decide) hM) dX5_put_45 ?_
      refine aw_iload_n hC 2 dX5_put_48 rfl rfl ?_
      refine aw_aaldI hC hSt (cs_lt 2 19 8 (by decide) hM) (cs_k 2 19 8 (by decide) hM) (vp_len (n := 8) (cs_l 2 19 8 (by decide) hM) (h3 c1 x4 ex4)) (cs_p 2 a1.toNatClampNeg (3 + a1.toNatClampNeg) (ar_p2 (h3 c1 x4 ex4)) hM) dX5_put_49 ?_
      refine aw_iload_n hC 3 dX5_put_50 rfl rfl ?_
      refine aw_iload hC 0 dX5_put_51 rfl ?_
      refine aw_iast hC hSt (cs_lt (3 + a1.toNatClampNeg) 14 40 (ar_m2 (h3 c1 x4 ex4)) hM) (cs_k (3 + a1.toNatClampNeg) 14 40 (ar_m2 (h3 c1 x4 ex4)) hM) (vp_len (n := 40) (cs_l (3 + a1.toNatClampNeg) 14 40 (ar_m2 (h3 c1 x4 ex4)) hM) (h4 c1 x4 ex4)) dX5_put_53 ?_
      generalize eS5 : (sI S (3 + a1.toNatClampNeg) a2.toNatClampNeg x4) = S5
      have hM : CS S5 := CS.of (by rw [← eS5]; exact shp_sI _ _ _ _) hM
      refine aw_iload hC 0 dX5_put_54 rfl ?_
      refine aw_iret hC dX5_put_56 (Nat.le_refl _) (Nat.le_refl _) ?_
      exact FP.qI ((if_neg c1).trans ((bd_eq ex4).trans ((bd_eq eS5).trans (rfl))))
    · refine aw_if_ne hC 26 dX5_put_18 (by decide) (fun c2 => ?_) (fun c2 => ?_)
      · refine aw_aload_n hC 0 dX5_put_26 rfl rfl ?_
        refine aw_getP (b := 11) hC hSt 1 (cs_lt 1 5 0 (by decide) hM) (cs_k 1 5 0 (by decide) hM) rfl (by decide) w_466 rfl (cs_p 1 1 11 (by decide) hM) dX5_put_27 ?_
        refine aw_iload_n hC 1 dX5_put_30 rfl rfl ?_
        refine aw_iald hC hSt (cs_lt 11 14 8 (by decide) hM) (cs_k 11 14 8 (by decide) hM) (vp_len (n := 8) (cs_l 11 14 8 (by decide) hM) (h2 c1 c2)) dX5_put_31 ?_
        refine aw_iconst (v := 1) hC dX5_put_32 (by decide) ?_
        refine aw_icmp_ne hC 41 dX5_put_33 (by decide) (fun c3 => ?_) (fun c3 => ?_)
        · refine aw_iload_n hC 3 dX5_put_41 rfl rfl ?_
          simp only [bd_def, if_neg c2, if_neg c3] at Jc2 ⊢
          exact Jc2
        · refine aw_iload_n hC 3 dX5_put_36 rfl rfl ?_
          refine aw_i2s hC dX5_put_37 ?_
          refine aw_goto hC 42 dX5_put_38 (by decide) ?_
          simp only [bd_def, if_neg c2, if_pos c3] at Jc2 ⊢
          exact Jc2
      · refine aw_iload_n hC 3 dX5_put_21 rfl rfl ?_
        refine aw_i2b hC dX5_put_22 ?_
        refine aw_goto hC 42 dX5_put_23 (by decide) ?_
        simp only [bd_def, if_pos c2] at Jc2 ⊢
        exact Jc2
  · refine aw_iconst (v := 0) hC dX5_put_10 (by decide) ?_
    refine aw_iret hC dX5_put_11 (Nat.le_refl _) (Nat.le_refl _) ?_
    exact FP.qI ((if_pos c1).trans (rfl))
theorem q_X5_put (S : HSt) (_o0 : Nat) (a1 : Int32) (a2 : Int32) (a3 : Int32) : shp ((f_X5_put S _o0 a1 a2 a3).2) = shp S := by
  unfold f_X5_put
  repeat' (first | with_reducible refine shpr1 ?_ | with_reducible rfl | with_reducible refine (shp_sI _ _ _ _).trans ?_ | with_reducible refine (shp_sJ _ _ _ _).trans ?_ | with_reducible refine shi ?_ ?_ | with_reducible refine shb (fun _ _ => ?_) | with_reducible refine shiP (fun q : Int32 × HSt => q.2) ?_ ?_ | with_reducible refine shbP (fun q : Int32 × HSt => q.2) (fun _ _ => ?_) | (subst_vars; with_reducible rfl) | (subst_vars; with_reducible refine (shp_sI _ _ _ _).trans ?_) | (subst_vars; with_reducible refine (shp_sJ _ _ _ _).trans ?_) | (subst_vars; with_reducible refine shi ?_ ?_) | (subst_vars; with_reducible refine shb (fun _ _ => ?_)))
def F_X5_itemAt (S : HSt) (_o0 : Nat) (a1 : Int32) (a2 : Int32) : Int32 × HSt := bd ((if (f_X5_hasPlaces S 1 a1 a2 (1 : Int32)) = 0 then (0 : Int32) else (gI S (3 + a1.toNatClampNeg) a2.toNatClampNeg))) fun x2 => pr (x2) (S)
def f_X5_itemAt (S : HSt) (_o0 : Nat) (a1 : Int32) (a2 : Int32) : Int32 := (F_X5_itemAt S _o0 a1 a2).1
def p_X5_itemAt (S : HSt) (_o0 : Nat) (a1 : Int32) (a2 : Int32) : Prop := (p_X5_hasPlaces S 1 a1 a2 (1 : Int32)) ∧ ((¬ (f_X5_hasPlaces S 1 a1 a2 (1 : Int32)) = 0) → vp_in a1 8) ∧ ((¬ (f_X5_hasPlaces S 1 a1 a2 (1 : Int32)) = 0) → vp_in a2 40)
set_option maxRecDepth 100000 in
theorem t_X5_itemAt (G : GG) (l : Launch) {S : HSt} (hM : CS S) (a1 : Int32) (a2 : Int32)  (hp : p_X5_itemAt S 1 a1 a2) : AM G l yX5_itemAt cX5_itemAt 3 (some .int) (rmD 3 0 0) 0 0 [.ref 1, .int a1, .int a2] S (FP (some (.int (f_X5_itemAt S 1 a1 a2))) (S)) := by
  obtain ⟨h0, h1, h2⟩ := hp
  refine AM.mk (by decide) (Nat.le_of_ble_eq_true rfl) ?_
  intro p e s m below meth c hC hSt _
  refine aw_aload_n hC 0 dX5_itemAt_0 rfl rfl ?_
  refine aw_iload_n hC 1 dX5_itemAt_1 rfl rfl ?_
  refine aw_iload_n hC 2 dX5_itemAt_2 rfl rfl ?_
  refine aw_iconst (v := 1) hC dX5_itemAt_3 (by decide) ?_
  refine aw_cV3r hC hSt (t_X5_hasPlaces G l hM _ _ _ (h0)) w_476 w_482 w_483 w_484 w_473 rfl rfl (by decide +kernel) ⟨Nat.le_of_ble_eq_true rfl, Nat.le_of_ble_eq_true rfl⟩ (cs_lt 1 5 0 (by decide) hM) (cs_k 1 5 0 (by decide) hM) rfl (Nat.le_of_ble_eq_true rfl) dX5_itemAt_4 ⟨Nat.zero_le _, Nat.zero_le _⟩ ?_
  refine aw_cut (S' := S) (pc' := 22) (lv' := [(0, .ref 1), (1, .int a1), (2, .int a2)]) (st' := [.int (if (f_X5_hasPlaces S 1 a1 a2 (1 : Int32)) = 0 then (0 : Int32) else (gI S (3 + a1.toNatClampNeg) a2.toNatClampNeg))]) ?_ (fun Jc1 => ?_)
  · generalize ex2 : (if (f_X5_hasPlaces S 1 a1 a2 (1 : Int32)) = 0 then (0 : Int32) else (gI S (3 + a1.toNatClampNeg) a2.toNatClampNeg)) = x2
    refine aw_iret hC dX5_itemAt_22 (Nat.le_refl _) (Nat.le_refl _) ?_
    exact FP.pI ((bd_eq ex2).trans (rfl))
  · refine aw_if_eq hC 21 dX5_itemAt_7 (by decide) (fun c1 => ?_) (fun c1 => ?_)
    · refine aw_iconst (v := 0) hC dX5_itemAt_21 (by decide) ?_
      simp only [bd_def, if_pos c1] at Jc1 ⊢
      exact Jc1
    · refine aw_aload_n hC 0 dX5_itemAt_10 rfl rfl ?_
      refine aw_getP (b := 2) hC hSt 0 (cs_lt 1 5 0 (by decide) hM) (cs_k 1 5 0 (by decide) hM) rfl (by decide) w_465 rfl (cs_p 1 0 2 (by decide) hM) dX5_itemAt_11 ?_
      refine aw_iload_n hC 1 dX5_itemAt_14 rfl rfl ?_
      refine aw_aaldI hC hSt (cs_lt 2 19 8 (by decide) hM) (cs_k 2 19 8 (by decide) hM) (vp_len (n := 8) (cs_l 2 19 8 (by decide) hM) (h1 c1)) (cs_p 2 a1.toNatClampNeg (3 + a1.toNatClampNeg) (ar_p2 (h1 c1)) hM) dX5_itemAt_15 ?_
      refine aw_iload_n hC 2 dX5_itemAt_16 rfl rfl ?_
      refine aw_iald hC hSt (cs_lt (3 + a1.toNatClampNeg) 14 40 (ar_m2 (h1 c1)) hM) (cs_k (3 + a1.toNatClampNeg) 14 40 (ar_m2 (h1 c1)) hM) (vp_len (n := 40) (cs_l (3 + a1.toNatClampNeg) 14 40 (ar_m2 (h1 c1)) hM) (h2 c1)) dX5_itemAt_17 ?_
      refine aw_goto hC 22 dX5_itemAt_18 (by decide) ?_
      simp only [bd_def, if_neg c1] at Jc1 ⊢
      exact Jc1
def f_X5_remove (S : HSt) (_o0 : Nat) (a1 : Int32) : Int32 × HSt := if (f_X5_isMissing S 1 a1) = 0 then (bd ((gI S 12 a1.toNatClampNeg)) fun x2 => bd ((sI S 12 a1.toNatClampNeg (-1 : Int32))) fun S3 => pr (x2) (S3)) else (pr ((0 : Int32)) (S))
def p_X5_remove (S : HSt) (_o0 : Nat) (a1 : Int32) : Prop := (p_X5_isMissing S 1 a1) ∧ (((f_X5_isMissing S 1 a1) = 0) → vp_in a1 8) ∧ (((f_X5_isMissing S 1 a1) = 0) → ∀ x2 : Int32, (gI S 12 a1.toNatClampNeg) = x2 → vp_in a1 8)
set_option maxRecDepth 100000 in
theorem t_X5_remove (G : GG) (l : Launch) {S : HSt} (hM : CS S) (a1 : Int32)  (hp : p_X5_remove S 1 a1) : AM G l yX5_remove cX5_remove 3 (some .int) (rmD 2 0 0) 0 0 [.ref 1, .int a1] S (FP (some (.int (f_X5_remove S 1 a1).1)) ((f_X5_remove S 1 a1).2)) := by
  obtain ⟨h0, h1, h2⟩ := hp
  refine AM.mk (by decide) (Nat.le_of_ble_eq_true rfl) ?_
  intro p e s m below meth c hC hSt _
  refine aw_aload_n hC 0 dX5_remove_0 rfl rfl ?_
  refine aw_iload_n hC 1 dX5_remove_1 rfl rfl ?_
  refine aw_cV1r hC hSt (t_X5_isMissing G l hM _ (h0)) w_470 w_477 w_478 w_479 w_473 rfl rfl (by decide +kernel) ⟨Nat.le_of_ble_eq_true rfl, Nat.le_of_ble_eq_true rfl⟩ (cs_lt 1 5 0 (by decide) hM) (cs_k 1 5 0 (by decide) hM) rfl (Nat.le_of_ble_eq_true rfl) dX5_remove_2 ⟨Nat.zero_le _, Nat.zero_le _⟩ ?_
  refine aw_if_eq hC 10 dX5_remove_5 (by decide) (fun c1 => ?_) (fun c1 => ?_)
  · refine aw_aload_n hC 0 dX5_remove_10 rfl rfl ?_
    refine aw_getP (b := 12) hC hSt 2 (cs_lt 1 5 0 (by decide) hM) (cs_k 1 5 0 (by decide) hM) rfl (by decide) w_467 rfl (cs_p 1 2 12 (by decide) hM) dX5_remove_11 ?_
    refine aw_iload_n hC 1 dX5_remove_14 rfl rfl ?_
    refine aw_iald hC hSt (cs_lt 12 14 8 (by decide) hM) (cs_k 12 14 8 (by decide) hM) (vp_len (n := 8) (cs_l 12 14 8 (by decide) hM) (h1 c1)) dX5_remove_15 ?_
    refine aw_istore_n hC [(2, .int _), (0, .ref 1), (1, .int _)] dX5_remove_16 rfl (by decide) rfl ?_
    generalize ex2 : (gI S 12 a1.toNatClampNeg) = x2
    refine aw_aload_n hC 1 dX5_remove_17 rfl rfl ?_
    refine aw_getP (b := 12) hC hSt 2 (cs_lt 1 5 0 (by decide) hM) (cs_k 1 5 0 (by decide) hM) rfl (by decide) w_467 rfl (cs_p 1 2 12 (by decide) hM) dX5_remove_18 ?_
    refine aw_iload_n hC 2 dX5_remove_21 rfl rfl ?_
    refine aw_iconst (v := -1) hC dX5_remove_22 (by decide) ?_
    refine aw_iast hC hSt (cs_lt 12 14 8 (by decide) hM) (cs_k 12 14 8 (by decide) hM) (vp_len (n := 8) (cs_l 12 14 8 (by decide) hM) (h2 c1 x2 ex2)) dX5_remove_23 ?_
    generalize eS3 : (sI S 12 a1.toNatClampNeg (-1 : Int32)) = S3
    have hM : CS S3 := CS.of (by rw [← eS3]; exact shp_sI _ _ _ _) hM
    refine aw_iload_n hC 0 dX5_remove_24 rfl rfl ?_
    refine aw_iret hC dX5_remove_25 (Nat.le_refl _) (Nat.le_refl _) ?_
    exact FP.qI ((if_pos c1).trans ((bd_eq ex2).trans ((bd_eq eS3).trans (rfl))))
  · refine aw_iconst (v := 0) hC dX5_remove_8 (by decide) ?_
    refine aw_iret hC dX5_remove_9 (Nat.le_refl _) (Nat.le_refl _) ?_
    exact FP.qI ((if_neg c1).trans (rfl))
theorem q_X5_remove (S : HSt) (_o0 : Nat) (a1 : Int32) : shp ((f_X5_remove S _o0 a1).2) = shp S := by
  unfold f_X5_remove
  repeat' (first | with_reducible refine shpr1 ?_ | with_reducible rfl | with_reducible refine (shp_sI _ _ _ _).trans ?_ | with_reducible refine (shp_sJ _ _ _ _).trans ?_ | with_reducible refine shi ?_ ?_ | with_reducible refine shb (fun _ _ => ?_) | with_reducible refine shiP (fun q : Int32 × HSt => q.2) ?_ ?_ | with_reducible refine shbP (fun q : Int32 × HSt => q.2) (fun _ _ => ?_) | (subst_vars; with_reducible rfl) | (subst_vars; with_reducible refine (shp_sI _ _ _ _).trans ?_) | (subst_vars; with_reducible refine (shp_sJ _ _ _ _).trans ?_) | (subst_vars; with_reducible refine shi ?_ ?_) | (subst_vars; with_reducible refine shb (fun _ _ => ?_)))
def L_X5_howMany_4 : Nat → HSt → Int32 → Int32 → Int32 × Int32
  | 0, S, v1, v2 => (v1, v2)
  | n + 1, S, v1, v2 =>
    if (8 : Int32) ≤ v2 then ((pr (v1) (v2))) else (bd ((if (gI S 12 v2.toNatClampNeg) = (-1 : Int32) then v1 else (v1 + (1 : Int32)))) fun x1003 => L_X5_howMany_4 n S x1003 (v2 + (1 : Int32)))
def T_X5_howMany_4 : Nat → HSt → Int32 → Int32 → Prop
  | 0, _, _, _ => False
  | n + 1, S, v1, v2 => ((¬ (8 : Int32) ≤ v2) → vp_in v2 8) ∧ ((¬ (8 : Int32) ≤ v2) → ∀ x1003 : Int32, (if (gI S 12 v2.toNatClampNeg) = (-1 : Int32) then v1 else (v1 + (1 : Int32))) = x1003 → T_X5_howMany_4 n S x1003 (v2 + (1 : Int32)))
set_option maxRecDepth 100000 in
theorem l_X5_howMany_4 {p : Program} {l : Launch} {e : Env} {s : State} {m : MethodId} {args : Array Value} {below : List Frame} {meth : Method} {c : Code} {G : GG} {Q : State → Prop} (hC : ACx p s m args meth c cX5_howMany RX5 3 (some .int)) (hSt : St G s)   : ∀ (n : Nat) (S : HSt) (v1 : Int32) (v2 : Int32), CS S → T_X5_howMany_4 n S v1 v2 → AW p l e (rmD 0 0 0) s m args below meth c G 3 Q S 0 0 29 [(0, .ref 1), (1, .int (L_X5_howMany_4 n S v1 v2).1), (2, .int (L_X5_howMany_4 n S v1 v2).2)] [] → AW p l e (rmD 0 0 0) s m args below meth c G 3 Q S 0 0 4 [(0, .ref 1), (1, .int v1), (2, .int v2)] [] := by
  intro n
  induction n with
  | zero => intro S v1 v2 _ hT; exact hT.elim
  | succ n ih =>
    intro S v1 v2 hM hT hk
    unfold T_X5_howMany_4 at hT
    obtain ⟨h0, h1⟩ := hT
    refine aw_iload_n hC 2 dX5_howMany_4 rfl rfl ?_
    refine aw_bipush (v := 8) hC dX5_howMany_5 (by decide) ?_
    refine aw_icmp_ge hC 29 dX5_howMany_7 (by decide) (fun c1001 => ?_) (fun c1001 => ?_)
    · refine aw_sub [0, 1, 2] rfl ?_
      have E : L_X5_howMany_4 (n + 1) S v1 v2 = _ := (if_pos c1001).trans (rfl)
      rw [E] at hk
      exact hk
    · refine aw_aload_n hC 0 dX5_howMany_10 rfl rfl ?_
      refine aw_getP (b := 12) hC hSt 2 (cs_lt 1 5 0 (by decide) hM) (cs_k 1 5 0 (by decide) hM) rfl (by decide) w_467 rfl (cs_p 1 2 12 (by decide) hM) dX5_howMany_11 ?_
      refine aw_iload_n hC 2 dX5_howMany_14 rfl rfl ?_
      refine aw_iald hC hSt (cs_lt 12 14 8 (by decide) hM) (cs_k 12 14 8 (by decide) hM) (vp_len (n := 8) (cs_l 12 14 8 (by decide) hM) (h0 c1001)) dX5_howMany_15 ?_
      refine aw_iconst (v := -1) hC dX5_howMany_16 (by decide) ?_
      refine aw_cut (S' := S) (pc' := 23) (lv' := [(0, .ref 1), (1, .int (if (gI S 12 v2.toNatClampNeg) = (-1 : Int32) then v1 else (v1 + (1 : Int32)))), (2, .int v2)]) (st' := []) ?_ (fun Jc1002 => ?_)
      · generalize ex1003 : (if (gI S 12 v2.toNatClampNeg) = (-1 : Int32) then v1 else (v1 + (1 : Int32))) = x1003
        refine aw_iinc (v := (v2 + (1 : Int32))) hC 2 [(2, .int _), (0, .ref 1), (1, .int _)] dX5_howMany_23 rfl rfl (by decide) rfl ?_
        refine aw_goto hC 4 dX5_howMany_26 (by decide) ?_
        refine aw_sub [1, 2, 0] rfl ?_
        have hTn := (h1 c1001 x1003 ex1003)
        have hMn : CS S := hM
        have E : L_X5_howMany_4 (n + 1) S v1 v2 = _ := (if_neg c1001).trans ((bd_eq ex1003).trans (rfl))
        rw [E] at hk
        exact ih _ _ _ hMn hTn hk
      · refine aw_icmp_eq hC 23 dX5_howMany_17 (by decide) (fun c1002 => ?_) (fun c1002 => ?_)
        · simp only [bd_def, if_pos c1002] at Jc1002 ⊢
          exact Jc1002
        · refine aw_iinc (v := (v1 + (1 : Int32))) hC 1 [(1, .int _), (0, .ref 1), (2, .int _)] dX5_howMany_20 rfl rfl (by decide) rfl ?_
          refine aw_sub [1, 0, 2] rfl ?_
          simp only [bd_def, if_neg c1002] at Jc1002 ⊢
          exact Jc1002
def F_X5_howMany (S : HSt) (_o0 : Nat) : Int32 × HSt := bd (L_X5_howMany_4 1000 S (0 : Int32) (0 : Int32)) fun r1 => pr (r1.1) (S)
def f_X5_howMany (S : HSt) (_o0 : Nat) : Int32 := (F_X5_howMany S _o0).1
def p_X5_howMany (S : HSt) (_o0 : Nat) : Prop := (T_X5_howMany_4 1000 S (0 : Int32) (0 : Int32))
set_option maxRecDepth 100000 in
theorem t_X5_howMany (G : GG) (l : Launch) {S : HSt} (hM : CS S)   (hp : p_X5_howMany S 1) : AM G l yX5_howMany cX5_howMany 3 (some .int) (rmD 0 0 0) 0 0 [.ref 1] S (FP (some (.int (f_X5_howMany S 1))) (S)) := by
  have h0 := hp
  unfold p_X5_howMany at h0
  refine AM.mk (by decide) (Nat.le_of_ble_eq_true rfl) ?_
  intro p e s m below meth c hC hSt _
  refine aw_iconst (v := 0) hC dX5_howMany_0 (by decide) ?_
  refine aw_istore_n hC [(1, .int _), (0, .ref 1)] dX5_howMany_1 rfl (by decide) rfl ?_
  refine aw_iconst (v := 0) hC dX5_howMany_2 (by decide) ?_
  refine aw_istore_n hC [(2, .int _), (1, .int _), (0, .ref 1)] dX5_howMany_3 rfl (by decide) rfl ?_
  refine aw_sub [2, 1, 0] rfl ?_
  refine l_X5_howMany_4 hC hSt 1000 _ _ _ hM (h0) ?_
  generalize er1 : L_X5_howMany_4 1000 S (0 : Int32) (0 : Int32) = r1
  refine aw_iload_n hC 1 dX5_howMany_29 rfl rfl ?_
  refine aw_iret hC dX5_howMany_30 (Nat.le_refl _) (Nat.le_refl _) ?_
  exact FP.pI ((bd_eq er1).trans (rfl))
def L_X11_commonDivisor_9 : Nat → HSt → Int64 → Int64 → Int64 → Int64 → Int32 → Int64 × Int64 × Int64 × Int64 × Int32
  | 0, S, v0, v2, v4, v6, v8 => (v0, v2, v4, v6, v8)
  | n + 1, S, v0, v2, v4, v6, v8 =>
    if (lg_cmp v6 (0 : Int64)) = 0 then ((pr (v0) (pr (v2) (pr (v4) (pr (v6) (v8)))))) else (if (100 : Int32) ≤ v8 then ((pr (v0) (pr (v2) (pr (v4) (pr (v6) (v8)))))) else (bd ((v4 - v4 / v6 * v6)) fun x1003 => L_X11_commonDivisor_9 n S v0 v2 v6 x1003 (v8 + (1 : Int32))))
def T_X11_commonDivisor_9 : Nat → HSt → Int64 → Int64 → Int64 → Int64 → Int32 → Prop
  | 0, _, _, _, _, _, _ => False
  | n + 1, S, v0, v2, v4, v6, v8 => ((¬ (lg_cmp v6 (0 : Int64)) = 0) → (¬ (100 : Int32) ≤ v8) → ¬ v6 = 0) ∧ ((¬ (lg_cmp v6 (0 : Int64)) = 0) → (¬ (100 : Int32) ≤ v8) → ∀ x1003 : Int64, (v4 - v4 / v6 * v6) = x1003 → T_X11_commonDivisor_9 n S v0 v2 v6 x1003 (v8 + (1 : Int32)))
set_option maxRecDepth 100000 in
theorem l_X11_commonDivisor_9 {p : Program} {l : Launch} {e : Env} {s : State} {m : MethodId} {args : Array Value} {below : List Frame} {meth : Method} {c : Code} {G : GG} {Q : State → Prop} (hC : ACx p s m args meth c cX11_commonDivisor RX11 11 (some .long)) (hSt : St G s)   : ∀ (n : Nat) (S : HSt) (v0 : Int64) (v2 : Int64) (v4 : Int64) (v6 : Int64) (v8 : Int32), T_X11_commonDivisor_9 n S v0 v2 v4 v6 v8 → AW p l e (rmD 0 0 0) s m args below meth c G 11 Q S 0 0 44 [(0, .long (L_X11_commonDivisor_9 n S v0 v2 v4 v6 v8).1), (2, .long (L_X11_commonDivisor_9 n S v0 v2 v4 v6 v8).2.1), (4, .long (L_X11_commonDivisor_9 n S v0 v2 v4 v6 v8).2.2.1), (6, .long (L_X11_commonDivisor_9 n S v0 v2 v4 v6 v8).2.2.2.1), (8, .int (L_X11_commonDivisor_9 n S v0 v2 v4 v6 v8).2.2.2.2)] [] → AW p l e (rmD 0 0 0) s m args below meth c G 11 Q S 0 0 9 [(0, .long v0), (2, .long v2), (4, .long v4), (6, .long v6), (8, .int v8)] [] := by
  intro n
  induction n with
  | zero => intro S v0 v2 v4 v6 v8 hT; exact hT.elim
  | succ n ih =>
    intro S v0 v2 v4 v6 v8 hT hk
    unfold T_X11_commonDivisor_9 at hT
    obtain ⟨h0, h1⟩ := hT
    refine aw_lload hC 3 dX11_commonDivisor_9 rfl ?_
    refine aw_lconst (v := 0) hC dX11_commonDivisor_11 (by decide) ?_
    refine aw_lcmp hC dX11_commonDivisor_12 ?_
    refine aw_if_eq hC 44 dX11_commonDivisor_13 (by decide) (fun c1001 => ?_) (fun c1001 => ?_)
    · refine aw_sub [0, 1, 2, 3, 4] rfl ?_
      have E : L_X11_commonDivisor_9 (n + 1) S v0 v2 v4 v6 v8 = _ := (if_pos c1001).trans (rfl)
      rw [E] at hk
      exact hk
    · refine aw_iload hC 4 dX11_commonDivisor_16 rfl ?_
      refine aw_bipush (v := 100) hC dX11_commonDivisor_18 (by decide) ?_
      refine aw_icmp_ge hC 44 dX11_commonDivisor_20 (by decide) (fun c1002 => ?_) (fun c1002 => ?_)
      · refine aw_sub [0, 1, 2, 3, 4] rfl ?_
        have E : L_X11_commonDivisor_9 (n + 1) S v0 v2 v4 v6 v8 = _ := (if_neg c1001).trans ((if_pos c1002).trans (rfl))
        rw [E] at hk
        exact hk
      · refine aw_lload hC 2 dX11_commonDivisor_23 rfl ?_
        refine aw_lload hC 3 dX11_commonDivisor_25 rfl ?_
        refine aw_lrem hC dX11_commonDivisor_27 ((h0 c1001 c1002)) ?_
        refine aw_lstore hC [(9, .long _), (0, .long _), (2, .long _), (4, .long _), (6, .long _), (8, .int _)] dX11_commonDivisor_28 (by decide) rfl ?_
        generalize ex1003 : (v4 - v4 / v6 * v6) = x1003
        refine aw_lload hC 4 dX11_commonDivisor_30 rfl ?_
        refine aw_lstore hC [(4, .long _), (9, .long _), (0, .long _), (2, .long _), (6, .long _), (8, .int _)] dX11_commonDivisor_32 (by decide) rfl ?_
        refine aw_lload hC 1 dX11_commonDivisor_34 rfl ?_
        refine aw_lstore hC [(6, .long _), (4, .long _), (9, .long _), (0, .long _), (2, .long _), (8, .int _)] dX11_commonDivisor_36 (by decide) rfl ?_
        refine aw_iinc (v := (v8 + (1 : Int32))) hC 5 [(8, .int _), (6, .long _), (4, .long _), (9, .long _), (0, .long _), (2, .long _)] dX11_commonDivisor_38 rfl rfl (by decide) rfl ?_
        refine aw_goto hC 9 dX11_commonDivisor_41 (by decide) ?_
        refine aw_sub [4, 5, 2, 1, 0] rfl ?_
        have hTn := (h1 c1001 c1002 x1003 ex1003)
        have E : L_X11_commonDivisor_9 (n + 1) S v0 v2 v4 v6 v8 = _ := (if_neg c1001).trans ((if_neg c1002).trans ((bd_eq ex1003).trans (rfl)))
        rw [E] at hk
        exact ih _ _ _ _ _ _ hTn hk
def F_X11_commonDivisor (S : HSt) (a1 : Int64) (a2 : Int64) : Int64 × HSt := bd (L_X11_commonDivisor_9 1000 S a1 a2 a1 a2 (0 : Int32)) fun r1 => pr (r1.2.2.1) (S)
def f_X11_commonDivisor (S : HSt) (a1 : Int64) (a2 : Int64) : Int64 := (F_X11_commonDivisor S a1 a2).1
def p_X11_commonDivisor (S : HSt) (a1 : Int64) (a2 : Int64) : Prop := (T_X11_commonDivisor_9 1000 S a1 a2 a1 a2 (0 : Int32))
set_option maxRecDepth 100000 in
theorem t_X11_commonDivisor (G : GG) (l : Launch) {S : HSt} (a1 : Int64) (a2 : Int64)  (hp : p_X11_commonDivisor S a1 a2) : AM G l yX11_commonDivisor cX11_commonDivisor 11 (some .long) (rmD 0 0 0) 0 0 [.long a1, .long a2] S (FP (some (.long (f_X11_commonDivisor S a1 a2))) (S)) := by
  have h0 := hp
  unfold p_X11_commonDivisor at h0
  refine AM.mk (by decide) (Nat.le_of_ble_eq_true rfl) ?_
  intro p e s m below meth c hC hSt _
  refine aw_lload_n hC 0 dX11_commonDivisor_0 rfl rfl ?_
  refine aw_lstore hC [(4, .long _), (0, .long _), (2, .long _)] dX11_commonDivisor_1 (by decide) rfl ?_
  refine aw_lload_n hC 2 dX11_commonDivisor_3 rfl rfl ?_
  refine aw_lstore hC [(6, .long _), (4, .long _), (0, .long _), (2, .long _)] dX11_commonDivisor_4 (by decide) rfl ?_
  refine aw_iconst (v := 0) hC dX11_commonDivisor_6 (by decide) ?_
  refine aw_istore hC [(8, .int _), (6, .long _), (4, .long _), (0, .long _), (2, .long _)] dX11_commonDivisor_7 (by decide) rfl ?_
  refine aw_sub [3, 4, 2, 1, 0] rfl ?_
  refine l_X11_commonDivisor_9 hC hSt 1000 _ _ _ _ _ _  (h0) ?_
  generalize er1 : L_X11_commonDivisor_9 1000 S a1 a2 a1 a2 (0 : Int32) = r1
  refine aw_lload hC 2 dX11_commonDivisor_44 rfl ?_
  refine aw_lret hC dX11_commonDivisor_46 (Nat.le_refl _) (Nat.le_refl _) ?_
  exact FP.pJ ((bd_eq er1).trans (rfl))
def F_X11_lowest (S : HSt) (a1 : Int64) (a2 : Int64) (a3 : Int32) : Int64 × HSt := bd ((f_X11_commonDivisor S a1 a2)) fun x1 => if (lg_cmp x1 (0 : Int64)) = 0 then (pr ((0 : Int64)) (S)) else (bd ((if a3 = 0 then a1 else a2)) fun x4 => pr ((x4 / x1)) (S))
def f_X11_lowest (S : HSt) (a1 : Int64) (a2 : Int64) (a3 : Int32) : Int64 := (F_X11_lowest S a1 a2 a3).1
def p_X11_lowest (S : HSt) (a1 : Int64) (a2 : Int64) (a3 : Int32) : Prop := (p_X11_commonDivisor S a1 a2) ∧ (∀ x1 : Int64, (f_X11_commonDivisor S a1 a2) = x1 → (¬ (lg_cmp x1 (0 : Int64)) = 0) → ∀ x4 : Int64, (if a3 = 0 then a1 else a2) = x4 → ¬ x1 = 0)
set_option maxRecDepth 100000 in
theorem t_X11_lowest (G : GG) (l : Launch) {S : HSt} (a1 : Int64) (a2 : Int64) (a3 : Int32)  (hp : p_X11_lowest S a1 a2 a3) : AM G l yX11_lowest cX11_lowest 7 (some .long) (rmD 1 0 0) 0 0 [.long a1, .long a2, .int a3] S (FP (some (.long (f_X11_lowest S a1 a2 a3))) (S)) := by
  obtain ⟨h0, h1⟩ := hp
  refine AM.mk (by decide) (Nat.le_of_ble_eq_true rfl) ?_
  intro p e s m below meth c hC hSt _
  refine aw_lload_n hC 0 dX11_lowest_0 rfl rfl ?_
  refine aw_lload_n hC 1 dX11_lowest_1 rfl rfl ?_
  refine aw_cS2r hC hSt (t_X11_commonDivisor G l  _ _ (h0)) w_513 w_515 w_516 w_517 rfl rfl (by decide +kernel) ⟨Nat.le_of_ble_eq_true rfl, Nat.le_of_ble_eq_true rfl⟩ (Nat.le_of_ble_eq_true rfl) dX11_lowest_2 ⟨Nat.zero_le _, Nat.zero_le _⟩ ?_
  refine aw_lstore hC [(5, .long _), (0, .long _), (2, .long _), (4, .int _)] dX11_lowest_5 (by decide) rfl ?_
  generalize ex1 : (f_X11_commonDivisor S a1 a2) = x1
  refine aw_lload hC 0 dX11_lowest_7 rfl ?_
  refine aw_lconst (v := 0) hC dX11_lowest_9 (by decide) ?_
  refine aw_lcmp hC dX11_lowest_10 ?_
  refine aw_if_ne hC 16 dX11_lowest_11 (by decide) (fun c2 => ?_) (fun c2 => ?_)
  · refine aw_iload hC 3 dX11_lowest_16 rfl ?_
    refine aw_cut (S' := S) (pc' := 26) (lv' := [(5, .long x1), (0, .long a1), (2, .long a2), (4, .int a3)]) (st' := [.long (if a3 = 0 then a1 else a2)]) ?_ (fun Jc3 => ?_)
    · generalize ex4 : (if a3 = 0 then a1 else a2) = x4
      refine aw_lload hC 0 dX11_lowest_26 rfl ?_
      refine aw_ldiv hC dX11_lowest_28 ((h1 x1 ex1 c2 x4 ex4)) ?_
      refine aw_lret hC dX11_lowest_29 (Nat.le_refl _) (Nat.le_refl _) ?_
      exact FP.pJ ((bd_eq ex1).trans ((if_neg c2).trans ((bd_eq ex4).trans (rfl))))
    · refine aw_if_ne hC 25 dX11_lowest_18 (by decide) (fun c3 => ?_) (fun c3 => ?_)
      · refine aw_lload_n hC 2 dX11_lowest_25 rfl rfl ?_
        simp only [bd_def, if_neg c3] at Jc3 ⊢
        exact Jc3
      · refine aw_lload_n hC 1 dX11_lowest_21 rfl rfl ?_
        refine aw_goto hC 26 dX11_lowest_22 (by decide) ?_
        simp only [bd_def, if_pos c3] at Jc3 ⊢
        exact Jc3
  · refine aw_lconst (v := 0) hC dX11_lowest_14 (by decide) ?_
    refine aw_lret hC dX11_lowest_15 (Nat.le_refl _) (Nat.le_refl _) ?_
    exact FP.pJ ((bd_eq ex1).trans ((if_pos c2).trans (rfl)))
def F_X11_within (S : HSt) (a1 : Int32) (a2 : Int32) (a3 : Int32) : Int32 × HSt := bd ((if a1 < a2 then (0 : Int32) else (if a3 < a1 then (0 : Int32) else (1 : Int32)))) fun x3 => pr (x3) (S)
def f_X11_within (S : HSt) (a1 : Int32) (a2 : Int32) (a3 : Int32) : Int32 := (F_X11_within S a1 a2 a3).1
set_option maxRecDepth 100000 in
theorem t_X11_within (G : GG) (l : Launch) {S : HSt} (a1 : Int32) (a2 : Int32) (a3 : Int32)   : AM G l yX11_within cX11_within 3 (some .boolean) (rmD 0 0 0) 0 0 [.int a1, .int a2, .int a3] S (FP (some (.int (f_X11_within S a1 a2 a3))) (S)) := by
  refine AM.mk (by decide) (Nat.le_of_ble_eq_true rfl) ?_
  intro p e s m below meth c hC hSt _
  refine aw_iload_n hC 0 dX11_within_0 rfl rfl ?_
  refine aw_iload_n hC 1 dX11_within_1 rfl rfl ?_
  refine aw_cut (S' := S) (pc' := 15) (lv' := [(0, .int a1), (1, .int a2), (2, .int a3)]) (st' := [.int (if a1 < a2 then (0 : Int32) else (if a3 < a1 then (0 : Int32) else (1 : Int32)))]) ?_ (fun Jc1 => ?_)
  · generalize ex3 : (if a1 < a2 then (0 : Int32) else (if a3 < a1 then (0 : Int32) else (1 : Int32))) = x3
    refine aw_zret hC dX11_within_15 (Nat.le_refl _) (Nat.le_refl _) (Bz.n (ex3 ▸ (Bz.ite (Or.inl rfl) (Bz.ite (Or.inl rfl) (Or.inr rfl))))) ?_
    exact FP.pI ((bd_eq ex3).trans (rfl))
  · refine aw_icmp_lt hC 14 dX11_within_2 (by decide) (fun c1 => ?_) (fun c1 => ?_)
    · refine aw_iconst (v := 0) hC dX11_within_14 (by decide) ?_
      simp only [bd_def, if_pos c1] at Jc1 ⊢
      exact Jc1
    · refine aw_iload_n hC 0 dX11_within_5 rfl rfl ?_
      refine aw_iload_n hC 2 dX11_within_6 rfl rfl ?_
      refine aw_icmp_gt hC 14 dX11_within_7 (by decide) (fun c2 => ?_) (fun c2 => ?_)
      · refine aw_iconst (v := 0) hC dX11_within_14 (by decide) ?_
        simp only [bd_def, if_neg c1, if_pos c2] at Jc1 ⊢
        exact Jc1
      · refine aw_iconst (v := 1) hC dX11_within_10 (by decide) ?_
        refine aw_goto hC 15 dX11_within_11 (by decide) ?_
        simp only [bd_def, if_neg c1, if_neg c2] at Jc1 ⊢
        exact Jc1
theorem b_X11_within (S : HSt) (a1 : Int32) (a2 : Int32) (a3 : Int32) : Bz (f_X11_within S a1 a2 a3) := by
  unfold f_X11_within F_X11_within
  (try dsimp only [bd])
  (repeat' split) <;> first | exact Or.inl rfl | exact Or.inr rfl
def f_X6_advance (S : HSt) (_o0 : Nat) (sc1 : Nat) (a2 : Int32) : HSt := bd ((if (f_X10_kindOf S (sc1 + 1) a2) = (3 : Int32) then (1 : Int32) else (0 : Int32))) fun x2 => bd ((f_X10_value S (sc1 + 1) (5 : Int32) a2 (2 : Int32))) fun x3 => bd ((f_X10_value S (sc1 + 1) (5 : Int32) a2 (3 : Int32))) fun x4 => bd ((f_X10_value S (sc1 + 1) (5 : Int32) a2 (4 : Int32))) fun x5 => bd (f_X1_advance S 36 sc1 x2 x3 x4 x5) fun r6 => r6
def p_X6_advance (S : HSt) (_o0 : Nat) (sc1 : Nat) (a2 : Int32) : Prop := (p_X10_kindOf S (sc1 + 1) a2) ∧ (∀ x2 : Int32, (if (f_X10_kindOf S (sc1 + 1) a2) = (3 : Int32) then (1 : Int32) else (0 : Int32)) = x2 → p_X10_value S (sc1 + 1) (5 : Int32) a2 (2 : Int32)) ∧ (∀ x2 : Int32, (if (f_X10_kindOf S (sc1 + 1) a2) = (3 : Int32) then (1 : Int32) else (0 : Int32)) = x2 → ∀ x3 : Int32, (f_X10_value S (sc1 + 1) (5 : Int32) a2 (2 : Int32)) = x3 → p_X10_value S (sc1 + 1) (5 : Int32) a2 (3 : Int32)) ∧ (∀ x2 : Int32, (if (f_X10_kindOf S (sc1 + 1) a2) = (3 : Int32) then (1 : Int32) else (0 : Int32)) = x2 → ∀ x3 : Int32, (f_X10_value S (sc1 + 1) (5 : Int32) a2 (2 : Int32)) = x3 → ∀ x4 : Int32, (f_X10_value S (sc1 + 1) (5 : Int32) a2 (3 : Int32)) = x4 → p_X10_value S (sc1 + 1) (5 : Int32) a2 (4 : Int32))
set_option maxRecDepth 100000 in
theorem t_X6_advance (G : GG) (l : Launch) {S : HSt} (hM : CS S) (sc1 : Nat) (a2 : Int32) (hsc1 : (sc1, 7, 0) ∈ cKT) (hp : p_X6_advance S 35 sc1 a2) : AM G l yX6_advance cX6_advance 8 none (rmD 3 0 0) 0 0 [.ref 35, .ref sc1, .int a2] S (FP none (f_X6_advance S 35 sc1 a2)) := by
  obtain ⟨h0, h1, h2, h3⟩ := hp
  refine AM.mk (by decide) (Nat.le_of_ble_eq_true rfl) ?_
  intro p e s m below meth c hC hSt _
  refine aw_aload_n hC 1 dX6_advance_0 rfl rfl ?_
  refine aw_getP (b := (sc1 + 1)) hC hSt 0 (cs_lt sc1 7 0 hsc1 hM) (cs_k sc1 7 0 hsc1 hM) rfl (by decide) w_499 rfl (cs_p sc1 0 (sc1 + 1) (sc_pway hsc1) hM) dX6_advance_1 ?_
  refine aw_astore_n hC [(3, .ref (sc1 + 1)), (0, .ref 35), (1, .ref sc1), (2, .int _)] dX6_advance_4 rfl (by decide) rfl ?_
  refine aw_aload_n hC 0 dX6_advance_5 rfl rfl ?_
  refine aw_iload_n hC 3 dX6_advance_6 rfl rfl ?_
  refine aw_cV1r hC hSt (t_X10_kindOf G l hM _ _ (sc_way hsc1) (h0)) w_14 w_500 w_47 w_48 w_18 rfl rfl (by decide +kernel) ⟨Nat.le_of_ble_eq_true rfl, Nat.le_of_ble_eq_true rfl⟩ (cs_lt (sc1 + 1) 10 0 (sc_way hsc1) hM) (cs_k (sc1 + 1) 10 0 (sc_way hsc1) hM) rfl (Nat.le_of_ble_eq_true rfl) dX6_advance_7 ⟨Nat.zero_le _, Nat.zero_le _⟩ ?_
  refine aw_iconst (v := 3) hC dX6_advance_10 (by decide) ?_
  refine aw_cut (S' := S) (pc' := 19) (lv' := [(3, .ref (sc1 + 1)), (0, .ref 35), (1, .ref sc1), (2, .int a2)]) (st' := [.int (if (f_X10_kindOf S (sc1 + 1) a2) = (3 : Int32) then (1 : Int32) else (0 : Int32))]) ?_ (fun Jc1 => ?_)
  · generalize ex2 : (if (f_X10_kindOf S (sc1 + 1) a2) = (3 : Int32) then (1 : Int32) else (0 : Int32)) = x2
    refine aw_istore hC [(4, .int _), (3, .ref (sc1 + 1)), (0, .ref 35), (1, .ref sc1), (2, .int _)] dX6_advance_19 (by decide) rfl ?_
    refine aw_aload_n hC 1 dX6_advance_21 rfl rfl ?_
    refine aw_iconst (v := 5) hC dX6_advance_22 (by decide) ?_
    refine aw_iload_n hC 4 dX6_advance_23 rfl rfl ?_
    refine aw_iconst (v := 2) hC dX6_advance_24 (by decide) ?_
    refine aw_cV3r hC hSt (t_X10_value G l hM _ _ _ _ (sc_way hsc1) (h1 x2 ex2)) w_10 w_501 w_16 w_17 w_18 rfl rfl (by decide +kernel) ⟨Nat.le_of_ble_eq_true rfl, Nat.le_of_ble_eq_true rfl⟩ (cs_lt (sc1 + 1) 10 0 (sc_way hsc1) hM) (cs_k (sc1 + 1) 10 0 (sc_way hsc1) hM) rfl (Nat.le_of_ble_eq_true rfl) dX6_advance_25 ⟨Nat.zero_le _, Nat.zero_le _⟩ ?_
    refine aw_istore hC [(5, .int _), (4, .int _), (3, .ref (sc1 + 1)), (0, .ref 35), (1, .ref sc1), (2, .int _)] dX6_advance_28 (by decide) rfl ?_
    generalize ex3 : (f_X10_value S (sc1 + 1) (5 : Int32) a2 (2 : Int32)) = x3
    refine aw_aload_n hC 2 dX6_advance_30 rfl rfl ?_
    refine aw_iconst (v := 5) hC dX6_advance_31 (by decide) ?_
    refine aw_iload_n hC 5 dX6_advance_32 rfl rfl ?_
    refine aw_iconst (v := 3) hC dX6_advance_33 (by decide) ?_
    refine aw_cV3r hC hSt (t_X10_value G l hM _ _ _ _ (sc_way hsc1) (h2 x2 ex2 x3 ex3)) w_10 w_501 w_16 w_17 w_18 rfl rfl (by decide +kernel) ⟨Nat.le_of_ble_eq_true rfl, Nat.le_of_ble_eq_true rfl⟩ (cs_lt (sc1 + 1) 10 0 (sc_way hsc1) hM) (cs_k (sc1 + 1) 10 0 (sc_way hsc1) hM) rfl (Nat.le_of_ble_eq_true rfl) dX6_advance_34 ⟨Nat.zero_le _, Nat.zero_le _⟩ ?_
    refine aw_istore hC [(6, .int _), (5, .int _), (4, .int _), (3, .ref (sc1 + 1)), (0, .ref 35), (1, .ref sc1), (2, .int _)] dX6_advance_37 (by decide) rfl ?_
    generalize ex4 : (f_X10_value S (sc1 + 1) (5 : Int32) a2 (3 : Int32)) = x4
    refine aw_aload_n hC 3 dX6_advance_39 rfl rfl ?_
    refine aw_iconst (v := 5) hC dX6_advance_40 (by decide) ?_
    refine aw_iload_n hC 6 dX6_advance_41 rfl rfl ?_
    refine aw_iconst (v := 4) hC dX6_advance_42 (by decide) ?_
    refine aw_cV3r hC hSt (t_X10_value G l hM _ _ _ _ (sc_way hsc1) (h3 x2 ex2 x3 ex3 x4 ex4)) w_10 w_501 w_16 w_17 w_18 rfl rfl (by decide +kernel) ⟨Nat.le_of_ble_eq_true rfl, Nat.le_of_ble_eq_true rfl⟩ (cs_lt (sc1 + 1) 10 0 (sc_way hsc1) hM) (cs_k (sc1 + 1) 10 0 (sc_way hsc1) hM) rfl (Nat.le_of_ble_eq_true rfl) dX6_advance_43 ⟨Nat.zero_le _, Nat.zero_le _⟩ ?_
    refine aw_istore hC [(7, .int _), (6, .int _), (5, .int _), (4, .int _), (3, .ref (sc1 + 1)), (0, .ref 35), (1, .ref sc1), (2, .int _)] dX6_advance_46 (by decide) rfl ?_
    generalize ex5 : (f_X10_value S (sc1 + 1) (5 : Int32) a2 (4 : Int32)) = x5
    refine aw_aload_n hC 5 dX6_advance_48 rfl rfl ?_
    refine aw_getP (b := 36) hC hSt 0 (cs_lt 35 6 0 (by decide) hM) (cs_k 35 6 0 (by decide) hM) rfl (by decide) w_493 rfl (cs_p 35 0 36 (by decide) hM) dX6_advance_49 ?_
    refine aw_aload_n hC 6 dX6_advance_52 rfl rfl ?_
    refine aw_iload hC 3 dX6_advance_53 rfl ?_
    refine aw_iload hC 2 dX6_advance_55 rfl ?_
    refine aw_iload hC 1 dX6_advance_57 rfl ?_
    refine aw_iload hC 0 dX6_advance_59 rfl ?_
    refine aw_cV5v hC hSt (t_X1_advance G l hM _ _ _ _ _ _ (by decide) hsc1) w_124 w_502 w_229 w_230 w_84 rfl rfl (by decide +kernel) ⟨Nat.le_of_ble_eq_true rfl, Nat.le_of_ble_eq_true rfl⟩ (cs_lt 36 1 0 (by decide) hM) (cs_k 36 1 0 (by decide) hM) rfl (Nat.le_of_ble_eq_true rfl) dX6_advance_61 ⟨Nat.zero_le _, Nat.zero_le _⟩ ?_
    generalize er6 : f_X1_advance S 36 sc1 x2 x3 x4 x5 = r6
    have hM : CS r6 := CS.of (by rw [← er6]; exact q_X1_advance _ _ _ _ _ _ _) hM
    refine aw_vret hC dX6_advance_64 (Nat.le_refl _) (Nat.le_refl _) ?_
    exact FP.qV ((bd_eq ex2).trans ((bd_eq ex3).trans ((bd_eq ex4).trans ((bd_eq ex5).trans ((bd_eq er6).trans (rfl))))))
  · refine aw_icmp_ne hC 18 dX6_advance_11 (by decide) (fun c1 => ?_) (fun c1 => ?_)
    · refine aw_iconst (v := 0) hC dX6_advance_18 (by decide) ?_
      simp only [bd_def, if_neg c1] at Jc1 ⊢
      exact Jc1
    · refine aw_iconst (v := 1) hC dX6_advance_14 (by decide) ?_
      refine aw_goto hC 19 dX6_advance_15 (by decide) ?_
      simp only [bd_def, if_pos c1] at Jc1 ⊢
      exact Jc1
theorem q_X6_advance (S : HSt) (_o0 : Nat) (sc1 : Nat) (a2 : Int32) : shp (f_X6_advance S _o0 sc1 a2) = shp S := by
  unfold f_X6_advance
  repeat' (first | with_reducible rfl | with_reducible refine (q_X1_advance _ _ _ _ _ _ _).trans ?_ | with_reducible refine (shp_sI _ _ _ _).trans ?_ | with_reducible refine (shp_sJ _ _ _ _).trans ?_ | with_reducible refine shi ?_ ?_ | with_reducible refine shb (fun _ _ => ?_) | (subst_vars; with_reducible rfl) | (subst_vars; with_reducible refine (q_X1_advance _ _ _ _ _ _ _).trans ?_) | (subst_vars; with_reducible refine (shp_sI _ _ _ _).trans ?_) | (subst_vars; with_reducible refine (shp_sJ _ _ _ _).trans ?_) | (subst_vars; with_reducible refine shi ?_ ?_) | (subst_vars; with_reducible refine shb (fun _ _ => ?_)))
def L_X6_weighBoth_2 (sc1 : Nat) : Nat → HSt → Int32 → Int32 → Int32 × Int32 × HSt
  | 0, S, v2, v3 => (v2, v3, S)
  | n + 1, S, v2, v3 =>
    if (1 : Int32) < v3 then ((pr (v2) (pr (v3) (S)))) else (bd (f_X9_aim S 37 sc1 36 v3 v2) fun r1002 => bd ((if (gI r1002 37 2) ≤ (gI r1002 35 9) then r1002 else (bd ((sI r1002 35 8 (((2 : Int32) * (gI r1002 36 4)) + v3))) fun S1004 => bd ((sI S1004 35 9 (gI S1004 37 2))) fun S1005 => bd ((sI S1005 35 10 (gI S1005 37 3))) fun S1006 => S1006))) fun S1007 => L_X6_weighBoth_2 sc1 n S1007 v2 (v3 + (1 : Int32)))
def T_X6_weighBoth_2 (sc1 : Nat) : Nat → HSt → Int32 → Int32 → Prop
  | 0, _, _, _ => False
  | n + 1, S, v2, v3 => ((¬ (1 : Int32) < v3) → p_X9_aim S 37 sc1 36 v3 v2) ∧ ((¬ (1 : Int32) < v3) → ∀ r1002, f_X9_aim S 37 sc1 36 v3 v2 = r1002 → ∀ S1007 : HSt, (if (gI r1002 37 2) ≤ (gI r1002 35 9) then r1002 else (bd ((sI r1002 35 8 (((2 : Int32) * (gI r1002 36 4)) + v3))) fun S1004 => bd ((sI S1004 35 9 (gI S1004 37 2))) fun S1005 => bd ((sI S1005 35 10 (gI S1005 37 3))) fun S1006 => S1006)) = S1007 → T_X6_weighBoth_2 sc1 n S1007 v2 (v3 + (1 : Int32)))
theorem qL_X6_weighBoth_2 (sc1 : Nat) : ∀ (n : Nat) (S : HSt) (v2 : Int32) (v3 : Int32), shp (L_X6_weighBoth_2 sc1 n S v2 v3).2.2 = shp S := by
  intro n
  induction n with
  | zero => intros; rfl
  | succ n ih =>
    intro S v2 v3
    unfold L_X6_weighBoth_2
    repeat' (first | with_reducible refine shpr2 ?_ | with_reducible rfl | with_reducible refine (ih _ _ _).trans ?_ | with_reducible refine (q_X9_aim _ _ _ _ _ _).trans ?_ | with_reducible refine (shp_sI _ _ _ _).trans ?_ | with_reducible refine (shp_sJ _ _ _ _).trans ?_ | with_reducible refine shi ?_ ?_ | with_reducible refine shb (fun _ _ => ?_) | with_reducible refine shiP (fun q : Int32 × Int32 × HSt => q.2.2) ?_ ?_ | with_reducible refine shbP (fun q : Int32 × Int32 × HSt => q.2.2) (fun _ _ => ?_) | (subst_vars; with_reducible rfl) | (subst_vars; with_reducible refine (ih _ _ _).trans ?_) | (subst_vars; with_reducible refine (q_X9_aim _ _ _ _ _ _).trans ?_) | (subst_vars; with_reducible refine (shp_sI _ _ _ _).trans ?_) | (subst_vars; with_reducible refine (shp_sJ _ _ _ _).trans ?_) | (subst_vars; with_reducible refine shi ?_ ?_) | (subst_vars; with_reducible refine shb (fun _ _ => ?_)))
set_option maxRecDepth 100000 in
theorem l_X6_weighBoth_2 {p : Program} {l : Launch} {e : Env} {s : State} {m : MethodId} {args : Array Value} {below : List Frame} {meth : Method} {c : Code} {G : GG} {Q : State → Prop} (hC : ACx p s m args meth c cX6_weighBoth RX6 4 none) (hSt : St G s) {sc1 : Nat} (hsc1 : (sc1, 7, 0) ∈ cKT) : ∀ (n : Nat) (S : HSt) (v2 : Int32) (v3 : Int32), CS S → T_X6_weighBoth_2 sc1 n S v2 v3 → AW p l e (rmD 4 0 0) s m args below meth c G 4 Q (L_X6_weighBoth_2 sc1 n S v2 v3).2.2 0 0 78 [(0, .ref 35), (1, .ref sc1), (2, .int (L_X6_weighBoth_2 sc1 n S v2 v3).1), (3, .int (L_X6_weighBoth_2 sc1 n S v2 v3).2.1)] [] → AW p l e (rmD 4 0 0) s m args below meth c G 4 Q S 0 0 2 [(0, .ref 35), (1, .ref sc1), (2, .int v2), (3, .int v3)] [] := by
  intro n
  induction n with
  | zero => intro S v2 v3 _ hT; exact hT.elim
  | succ n ih =>
    intro S v2 v3 hM hT hk
    unfold T_X6_weighBoth_2 at hT
    obtain ⟨h0, h1⟩ := hT
    refine aw_iload_n hC 3 dX6_weighBoth_2 rfl rfl ?_
    refine aw_iconst (v := 1) hC dX6_weighBoth_3 (by decide) ?_
    refine aw_icmp_gt hC 78 dX6_weighBoth_4 (by decide) (fun c1001 => ?_) (fun c1001 => ?_)
    · refine aw_sub [0, 1, 2, 3] rfl ?_
      have E : L_X6_weighBoth_2 sc1 (n + 1) S v2 v3 = _ := (if_pos c1001).trans (rfl)
      rw [E] at hk
      exact hk
    · refine aw_aload_n hC 0 dX6_weighBoth_7 rfl rfl ?_
      refine aw_getP (b := 37) hC hSt 1 (cs_lt 35 6 0 (by decide) hM) (cs_k 35 6 0 (by decide) hM) rfl (by decide) w_495 rfl (cs_p 35 1 37 (by decide) hM) dX6_weighBoth_8 ?_
      refine aw_aload_n hC 1 dX6_weighBoth_11 rfl rfl ?_
      refine aw_aload_n hC 0 dX6_weighBoth_12 rfl rfl ?_
      refine aw_getP (b := 36) hC hSt 0 (cs_lt 35 6 0 (by decide) hM) (cs_k 35 6 0 (by decide) hM) rfl (by decide) w_493 rfl (cs_p 35 0 36 (by decide) hM) dX6_weighBoth_13 ?_
      refine aw_iload_n hC 3 dX6_weighBoth_16 rfl rfl ?_
      refine aw_iload_n hC 2 dX6_weighBoth_17 rfl rfl ?_
      refine aw_cV4v hC hSt (t_X9_aim G l hM _ _ _ _ _ (by decide) hsc1 (by decide) (h0 c1001)) w_511 w_530 w_531 w_532 w_140 rfl rfl (by decide +kernel) ⟨Nat.le_of_ble_eq_true rfl, Nat.le_of_ble_eq_true rfl⟩ (cs_lt 37 9 0 (by decide) hM) (cs_k 37 9 0 (by decide) hM) rfl (Nat.le_of_ble_eq_true rfl) dX6_weighBoth_18 ⟨Nat.zero_le _, Nat.zero_le _⟩ ?_
      generalize er1002 : f_X9_aim S 37 sc1 36 v3 v2 = r1002
      have hM : CS r1002 := CS.of (by rw [← er1002]; exact q_X9_aim _ _ _ _ _ _) hM
      refine aw_aload_n hC 0 dX6_weighBoth_21 rfl rfl ?_
      refine aw_getP (b := 37) hC hSt 1 (cs_lt 35 6 0 (by decide) hM) (cs_k 35 6 0 (by decide) hM) rfl (by decide) w_495 rfl (cs_p 35 1 37 (by decide) hM) dX6_weighBoth_22 ?_
      refine aw_getI hC hSt 2 (cs_lt 37 9 0 (by decide) hM) (cs_k 37 9 0 (by decide) hM) rfl (by decide) w_528 rfl dX6_weighBoth_25 ?_
      refine aw_aload_n hC 0 dX6_weighBoth_28 rfl rfl ?_
      refine aw_getI hC hSt 9 (cs_lt 35 6 0 (by decide) hM) (cs_k 35 6 0 (by decide) hM) rfl (by decide) w_569 rfl dX6_weighBoth_29 ?_
      refine aw_cut (S' := (if (gI r1002 37 2) ≤ (gI r1002 35 9) then r1002 else (bd ((sI r1002 35 8 (((2 : Int32) * (gI r1002 36 4)) + v3))) fun S1004 => bd ((sI S1004 35 9 (gI S1004 37 2))) fun S1005 => bd ((sI S1005 35 10 (gI S1005 37 3))) fun S1006 => S1006))) (pc' := 72) (lv' := [(0, .ref 35), (1, .ref sc1), (2, .int v2), (3, .int v3)]) (st' := []) ?_ (fun Jc1003 => ?_)
      · generalize eS1007 : (if (gI r1002 37 2) ≤ (gI r1002 35 9) then r1002 else (bd ((sI r1002 35 8 (((2 : Int32) * (gI r1002 36 4)) + v3))) fun S1004 => bd ((sI S1004 35 9 (gI S1004 37 2))) fun S1005 => bd ((sI S1005 35 10 (gI S1005 37 3))) fun S1006 => S1006)) = S1007
        have hM : CS S1007 := CS.of (by rw [← eS1007]; repeat' (first | with_reducible rfl | with_reducible refine (q_X9_aim _ _ _ _ _ _).trans ?_ | with_reducible refine (shp_sI _ _ _ _).trans ?_ | with_reducible refine (shp_sJ _ _ _ _).trans ?_ | with_reducible refine shi ?_ ?_ | with_reducible refine shb (fun _ _ => ?_) | (subst_vars; with_reducible rfl) | (subst_vars; with_reducible refine (q_X9_aim _ _ _ _ _ _).trans ?_) | (subst_vars; with_reducible refine (shp_sI _ _ _ _).trans ?_) | (subst_vars; with_reducible refine (shp_sJ _ _ _ _).trans ?_) | (subst_vars; with_reducible refine shi ?_ ?_) | (subst_vars; with_reducible refine shb (fun _ _ => ?_)))) hM
        refine aw_iinc (v := (v3 + (1 : Int32))) hC 3 [(3, .int _), (0, .ref 35), (1, .ref sc1), (2, .int _)] dX6_weighBoth_72 rfl rfl (by decide) rfl ?_
        refine aw_goto hC 2 dX6_weighBoth_75 (by decide) ?_
        refine aw_sub [1, 2, 3, 0] rfl ?_
        have hTn := (h1 c1001 r1002 er1002 S1007 eS1007)
        have hMn : CS S1007 := hM
        have E : L_X6_weighBoth_2 sc1 (n + 1) S v2 v3 = _ := (if_neg c1001).trans ((bd_eq er1002).trans ((bd_eq eS1007).trans (rfl)))
        rw [E] at hk
        exact ih _ _ _ hMn hTn hk
      · refine aw_icmp_le hC 72 dX6_weighBoth_32 (by decide) (fun c1003 => ?_) (fun c1003 => ?_)
        · simp only [bd_def, if_pos c1003] at Jc1003 ⊢
          exact Jc1003
        · refine aw_aload_n hC 0 dX6_weighBoth_35 rfl rfl ?_
          refine aw_iconst (v := 2) hC dX6_weighBoth_36 (by decide) ?_
          refine aw_aload_n hC 0 dX6_weighBoth_37 rfl rfl ?_
          refine aw_getP (b := 36) hC hSt 0 (cs_lt 35 6 0 (by decide) hM) (cs_k 35 6 0 (by decide) hM) rfl (by decide) w_493 rfl (cs_p 35 0 36 (by decide) hM) dX6_weighBoth_38 ?_
          refine aw_getI hC hSt 4 (cs_lt 36 1 0 (by decide) hM) (cs_k 36 1 0 (by decide) hM) rfl (by decide) w_527 rfl dX6_weighBoth_41 ?_
          refine aw_imul hC dX6_weighBoth_44 ?_
          refine aw_iload_n hC 3 dX6_weighBoth_45 rfl rfl ?_
          refine aw_iadd hC dX6_weighBoth_46 ?_
          refine aw_putI hC hSt 8 (cs_lt 35 6 0 (by decide) hM) (cs_k 35 6 0 (by decide) hM) rfl (by decide) w_570 rfl rfl rfl rfl dX6_weighBoth_47 ?_
          generalize eS1004 : (sI r1002 35 8 (((2 : Int32) * (gI r1002 36 4)) + v3)) = S1004
          have hM : CS S1004 := CS.of (by rw [← eS1004]; exact shp_sI _ _ _ _) hM
          refine aw_aload_n hC 0 dX6_weighBoth_50 rfl rfl ?_
          refine aw_aload_n hC 0 dX6_weighBoth_51 rfl rfl ?_
          refine aw_getP (b := 37) hC hSt 1 (cs_lt 35 6 0 (by decide) hM) (cs_k 35 6 0 (by decide) hM) rfl (by decide) w_495 rfl (cs_p 35 1 37 (by decide) hM) dX6_weighBoth_52 ?_
          refine aw_getI hC hSt 2 (cs_lt 37 9 0 (by decide) hM) (cs_k 37 9 0 (by decide) hM) rfl (by decide) w_528 rfl dX6_weighBoth_55 ?_
          refine aw_putI hC hSt 9 (cs_lt 35 6 0 (by decide) hM) (cs_k 35 6 0 (by decide) hM) rfl (by decide) w_569 rfl rfl rfl rfl dX6_weighBoth_58 ?_
          generalize eS1005 : (sI S1004 35 9 (gI S1004 37 2)) = S1005
          have hM : CS S1005 := CS.of (by rw [← eS1005]; exact shp_sI _ _ _ _) hM
          refine aw_aload_n hC 0 dX6_weighBoth_61 rfl rfl ?_
          refine aw_aload_n hC 0 dX6_weighBoth_62 rfl rfl ?_
          refine aw_getP (b := 37) hC hSt 1 (cs_lt 35 6 0 (by decide) hM) (cs_k 35 6 0 (by decide) hM) rfl (by decide) w_495 rfl (cs_p 35 1 37 (by decide) hM) dX6_weighBoth_63 ?_
          refine aw_getI hC hSt 3 (cs_lt 37 9 0 (by decide) hM) (cs_k 37 9 0 (by decide) hM) rfl (by decide) w_529 rfl dX6_weighBoth_66 ?_
          refine aw_putI hC hSt 10 (cs_lt 35 6 0 (by decide) hM) (cs_k 35 6 0 (by decide) hM) rfl (by decide) w_571 rfl rfl rfl rfl dX6_weighBoth_69 ?_
          generalize eS1006 : (sI S1005 35 10 (gI S1005 37 3)) = S1006
          have hM : CS S1006 := CS.of (by rw [← eS1006]; exact shp_sI _ _ _ _) hM
          subst eS1006
          subst eS1005
          subst eS1004
          simp only [bd_def, if_neg c1003] at Jc1003 ⊢
          exact Jc1003
def f_X6_weighBoth (S : HSt) (_o0 : Nat) (sc1 : Nat) (a2 : Int32) : HSt := bd (L_X6_weighBoth_2 sc1 1000 S a2 (0 : Int32)) fun r1 => r1.2.2
def p_X6_weighBoth (S : HSt) (_o0 : Nat) (sc1 : Nat) (a2 : Int32) : Prop := (T_X6_weighBoth_2 sc1 1000 S a2 (0 : Int32))
set_option maxRecDepth 100000 in
theorem t_X6_weighBoth (G : GG) (l : Launch) {S : HSt} (hM : CS S) (sc1 : Nat) (a2 : Int32) (hsc1 : (sc1, 7, 0) ∈ cKT) (hp : p_X6_weighBoth S 35 sc1 a2) : AM G l yX6_weighBoth cX6_weighBoth 4 none (rmD 4 0 0) 0 0 [.ref 35, .ref sc1, .int a2] S (FP none (f_X6_weighBoth S 35 sc1 a2)) := by
  have h0 := hp
  unfold p_X6_weighBoth at h0
  refine AM.mk (by decide) (Nat.le_of_ble_eq_true rfl) ?_
  intro p e s m below meth c hC hSt _
  refine aw_iconst (v := 0) hC dX6_weighBoth_0 (by decide) ?_
  refine aw_istore_n hC [(3, .int _), (0, .ref 35), (1, .ref sc1), (2, .int _)] dX6_weighBoth_1 rfl (by decide) rfl ?_
  refine aw_sub [1, 2, 3, 0] rfl ?_
  refine l_X6_weighBoth_2 hC hSt hsc1 1000 _ _ _ hM (h0) ?_
  generalize er1 : L_X6_weighBoth_2 sc1 1000 S a2 (0 : Int32) = r1
  have hM : CS r1.2.2 := CS.of (by rw [← er1]; exact qL_X6_weighBoth_2 sc1 _ _ _ _) hM
  refine aw_vret hC dX6_weighBoth_78 (Nat.le_refl _) (Nat.le_refl _) ?_
  exact FP.qV ((bd_eq er1).trans (rfl))
theorem q_X6_weighBoth (S : HSt) (_o0 : Nat) (sc1 : Nat) (a2 : Int32) : shp (f_X6_weighBoth S _o0 sc1 a2) = shp S := by
  unfold f_X6_weighBoth
  repeat' (first | with_reducible rfl | with_reducible refine (q_X9_aim _ _ _ _ _ _).trans ?_ | with_reducible refine (qL_X6_weighBoth_2 sc1 _ _ _ _).trans ?_ | with_reducible refine (shp_sI _ _ _ _).trans ?_ | with_reducible refine (shp_sJ _ _ _ _).trans ?_ | with_reducible refine shi ?_ ?_ | with_reducible refine shb (fun _ _ => ?_) | (subst_vars; with_reducible rfl) | (subst_vars; with_reducible refine (q_X9_aim _ _ _ _ _ _).trans ?_) | (subst_vars; with_reducible refine (qL_X6_weighBoth_2 sc1 _ _ _ _).trans ?_) | (subst_vars; with_reducible refine (shp_sI _ _ _ _).trans ?_) | (subst_vars; with_reducible refine (shp_sJ _ _ _ _).trans ?_) | (subst_vars; with_reducible refine shi ?_ ?_) | (subst_vars; with_reducible refine shb (fun _ _ => ?_)))
def L_X6_seekBest_76 (sc1 : Nat) : Nat → HSt → Int32 → Int32 → Int32 → Int32 → Int32 → Int32 × Int32 × Int32 × Int32 × Int32 × HSt
  | 0, S, v2, v3, v4, v5, v6 => (v2, v3, v4, v5, v6, S)
  | n + 1, S, v2, v3, v4, v5, v6 =>
    if v5 ≤ v6 then ((pr (v2) (pr (v3) (pr (v4) (pr (v5) (pr (v6) (S))))))) else (if (f_X1_hasFallen S 36) = 0 then (bd (f_X6_advance S 35 sc1 v4) fun r2012 => bd (f_X6_weighBoth r2012 35 sc1 v2) fun r2013 => L_X6_seekBest_76 sc1 n r2013 v2 v3 v4 v5 (v6 + (1 : Int32))) else ((pr (v2) (pr (v3) (pr (v4) (pr (v5) (pr (v6) (S))))))))
def T_X6_seekBest_76 (sc1 : Nat) : Nat → HSt → Int32 → Int32 → Int32 → Int32 → Int32 → Prop
  | 0, _, _, _, _, _, _ => False
  | n + 1, S, v2, v3, v4, v5, v6 => ((¬ v5 ≤ v6) → ((f_X1_hasFallen S 36) = 0) → p_X6_advance S 35 sc1 v4) ∧ ((¬ v5 ≤ v6) → ((f_X1_hasFallen S 36) = 0) → ∀ r2012, f_X6_advance S 35 sc1 v4 = r2012 → p_X6_weighBoth r2012 35 sc1 v2) ∧ ((¬ v5 ≤ v6) → ((f_X1_hasFallen S 36) = 0) → ∀ r2012, f_X6_advance S 35 sc1 v4 = r2012 → ∀ r2013, f_X6_weighBoth r2012 35 sc1 v2 = r2013 → T_X6_seekBest_76 sc1 n r2013 v2 v3 v4 v5 (v6 + (1 : Int32)))
theorem qL_X6_seekBest_76 (sc1 : Nat) : ∀ (n : Nat) (S : HSt) (v2 : Int32) (v3 : Int32) (v4 : Int32) (v5 : Int32) (v6 : Int32), shp (L_X6_seekBest_76 sc1 n S v2 v3 v4 v5 v6).2.2.2.2.2 = shp S := by
  intro n
  induction n with
  | zero => intros; rfl
  | succ n ih =>
    intro S v2 v3 v4 v5 v6
    unfold L_X6_seekBest_76
    repeat' (first | with_reducible refine shpr5 ?_ | with_reducible rfl | with_reducible refine (ih _ _ _ _ _ _).trans ?_ | with_reducible refine (q_X1_begin _ _).trans ?_ | with_reducible refine (q_X6_advance _ _ _ _).trans ?_ | with_reducible refine (q_X6_weighBoth _ _ _ _).trans ?_ | with_reducible refine (shp_sI _ _ _ _).trans ?_ | with_reducible refine (shp_sJ _ _ _ _).trans ?_ | with_reducible refine shi ?_ ?_ | with_reducible refine shb (fun _ _ => ?_) | with_reducible refine shiP (fun q : Int32 × Int32 × Int32 × Int32 × Int32 × HSt => q.2.2.2.2.2) ?_ ?_ | with_reducible refine shbP (fun q : Int32 × Int32 × Int32 × Int32 × Int32 × HSt => q.2.2.2.2.2) (fun _ _ => ?_) | (subst_vars; with_reducible rfl) | (subst_vars; with_reducible refine (ih _ _ _ _ _ _).trans ?_) | (subst_vars; with_reducible refine (q_X1_begin _ _).trans ?_) | (subst_vars; with_reducible refine (q_X6_advance _ _ _ _).trans ?_) | (subst_vars; with_reducible refine (q_X6_weighBoth _ _ _ _).trans ?_) | (subst_vars; with_reducible refine (shp_sI _ _ _ _).trans ?_) | (subst_vars; with_reducible refine (shp_sJ _ _ _ _).trans ?_) | (subst_vars; with_reducible refine shi ?_ ?_) | (subst_vars; with_reducible refine shb (fun _ _ => ?_)))
set_option maxRecDepth 100000 in
theorem l_X6_seekBest_76 {p : Program} {l : Launch} {e : Env} {s : State} {m : MethodId} {args : Array Value} {below : List Frame} {meth : Method} {c : Code} {G : GG} {Q : State → Prop} (hC : ACx p s m args meth c cX6_seekBest RX6 7 none) (hSt : St G s) {sc1 : Nat} (hsc1 : (sc1, 7, 0) ∈ cKT) : ∀ (n : Nat) (S : HSt) (v2 : Int32) (v3 : Int32) (v4 : Int32) (v5 : Int32) (v6 : Int32), CS S → T_X6_seekBest_76 sc1 n S v2 v3 v4 v5 v6 → AW p l e (rmD 5 0 0) s m args below meth c G 7 Q (L_X6_seekBest_76 sc1 n S v2 v3 v4 v5 v6).2.2.2.2.2 0 0 112 [(0, .ref 35), (1, .ref sc1), (2, .int (L_X6_seekBest_76 sc1 n S v2 v3 v4 v5 v6).1), (3, .int (L_X6_seekBest_76 sc1 n S v2 v3 v4 v5 v6).2.1), (4, .int (L_X6_seekBest_76 sc1 n S v2 v3 v4 v5 v6).2.2.1), (5, .int (L_X6_seekBest_76 sc1 n S v2 v3 v4 v5 v6).2.2.2.1), (6, .int (L_X6_seekBest_76 sc1 n S v2 v3 v4 v5 v6).2.2.2.2.1)] [] → AW p l e (rmD 5 0 0) s m args below meth c G 7 Q S 0 0 76 [(0, .ref 35), (1, .ref sc1), (2, .int v2), (3, .int v3), (4, .int v4), (5, .int v5), (6, .int v6)] [] := by
  intro n
  induction n with
  | zero => intro S v2 v3 v4 v5 v6 _ hT; exact hT.elim
  | succ n ih =>
    intro S v2 v3 v4 v5 v6 hM hT hk
    unfold T_X6_seekBest_76 at hT
    obtain ⟨h0, h1, h2⟩ := hT
    refine aw_iload hC 6 dX6_seekBest_76 rfl ?_
    refine aw_iload hC 5 dX6_seekBest_78 rfl ?_
    refine aw_icmp_ge hC 112 dX6_seekBest_80 (by decide) (fun c2010 => ?_) (fun c2010 => ?_)
    · refine aw_sub [0, 1, 2, 3, 4, 5, 6] rfl ?_
      have E : L_X6_seekBest_76 sc1 (n + 1) S v2 v3 v4 v5 v6 = _ := (if_pos c2010).trans (rfl)
      rw [E] at hk
      exact hk
    · refine aw_aload_n hC 0 dX6_seekBest_83 rfl rfl ?_
      refine aw_getP (b := 36) hC hSt 0 (cs_lt 35 6 0 (by decide) hM) (cs_k 35 6 0 (by decide) hM) rfl (by decide) w_493 rfl (cs_p 35 0 36 (by decide) hM) dX6_seekBest_84 ?_
      refine aw_cV0r hC hSt (t_X1_hasFallen G l hM _ (by decide)) w_88 w_549 w_204 w_205 w_84 rfl rfl (by decide +kernel) ⟨Nat.le_of_ble_eq_true rfl, Nat.le_of_ble_eq_true rfl⟩ (cs_lt 36 1 0 (by decide) hM) (cs_k 36 1 0 (by decide) hM) rfl (Nat.le_of_ble_eq_true rfl) dX6_seekBest_87 ⟨Nat.zero_le _, Nat.zero_le _⟩ ?_
      refine aw_if_ne hC 112 dX6_seekBest_90 (by decide) (fun c2011 => ?_) (fun c2011 => ?_)
      · refine aw_sub [0, 1, 2, 3, 4, 5, 6] rfl ?_
        have E : L_X6_seekBest_76 sc1 (n + 1) S v2 v3 v4 v5 v6 = _ := (if_neg c2010).trans ((if_neg c2011).trans (rfl))
        rw [E] at hk
        exact hk
      · refine aw_aload_n hC 0 dX6_seekBest_93 rfl rfl ?_
        refine aw_aload_n hC 1 dX6_seekBest_94 rfl rfl ?_
        refine aw_iload hC 4 dX6_seekBest_95 rfl ?_
        refine aw_cV2v hC hSt (t_X6_advance G l hM _ _ hsc1 (h0 c2010 c2011)) w_503 w_550 w_551 w_552 w_540 rfl rfl (by decide +kernel) ⟨Nat.le_of_ble_eq_true rfl, Nat.le_of_ble_eq_true rfl⟩ (cs_lt 35 6 0 (by decide) hM) (cs_k 35 6 0 (by decide) hM) rfl (Nat.le_of_ble_eq_true rfl) dX6_seekBest_97 ⟨Nat.zero_le _, Nat.zero_le _⟩ ?_
        generalize er2012 : f_X6_advance S 35 sc1 v4 = r2012
        have hM : CS r2012 := CS.of (by rw [← er2012]; exact q_X6_advance _ _ _ _) hM
        refine aw_aload_n hC 0 dX6_seekBest_100 rfl rfl ?_
        refine aw_aload_n hC 1 dX6_seekBest_101 rfl rfl ?_
        refine aw_iload_n hC 2 dX6_seekBest_102 rfl rfl ?_
        refine aw_cV2v hC hSt (t_X6_weighBoth G l hM _ _ hsc1 (h1 c2010 c2011 r2012 er2012)) w_572 w_573 w_574 w_575 w_540 rfl rfl (by decide +kernel) ⟨Nat.le_of_ble_eq_true rfl, Nat.le_of_ble_eq_true rfl⟩ (cs_lt 35 6 0 (by decide) hM) (cs_k 35 6 0 (by decide) hM) rfl (Nat.le_of_ble_eq_true rfl) dX6_seekBest_103 ⟨Nat.zero_le _, Nat.zero_le _⟩ ?_
        generalize er2013 : f_X6_weighBoth r2012 35 sc1 v2 = r2013
        have hM : CS r2013 := CS.of (by rw [← er2013]; exact q_X6_weighBoth _ _ _ _) hM
        refine aw_iinc (v := (v6 + (1 : Int32))) hC 6 [(6, .int _), (0, .ref 35), (1, .ref sc1), (2, .int _), (3, .int _), (4, .int _), (5, .int _)] dX6_seekBest_106 rfl rfl (by decide) rfl ?_
        refine aw_goto hC 76 dX6_seekBest_109 (by decide) ?_
        refine aw_sub [1, 2, 3, 4, 5, 6, 0] rfl ?_
        have hTn := (h2 c2010 c2011 r2012 er2012 r2013 er2013)
        have hMn : CS r2013 := hM
        have E : L_X6_seekBest_76 sc1 (n + 1) S v2 v3 v4 v5 v6 = _ := (if_neg c2010).trans ((if_pos c2011).trans ((bd_eq er2012).trans ((bd_eq er2013).trans (rfl))))
        rw [E] at hk
        exact ih _ _ _ _ _ _ hMn hTn hk
def L_X6_seekBest_41 (sc1 : Nat) : Nat → HSt → Int32 → Int32 → Int32 → Int32 × Int32 × Int32 × HSt
  | 0, S, v2, v3, v4 => (v2, v3, v4, S)
  | n + 1, S, v2, v3, v4 =>
    if v3 ≤ v4 then ((pr (v2) (pr (v3) (pr (v4) (S))))) else (if (f_X10_isA S (sc1 + 1) v4 (1 : Int32)) = 0 then ((pr (v2) (pr (v3) (pr (v4) (S))))) else (bd ((f_X10_value S (sc1 + 1) (5 : Int32) v4 (1 : Int32))) fun x1009 => bd (L_X6_seekBest_76 sc1 1000 S v2 v3 v4 x1009 (0 : Int32)) fun r1010 => L_X6_seekBest_41 sc1 n r1010.2.2.2.2.2 r1010.1 r1010.2.1 (r1010.2.2.1 + (1 : Int32))))
def T_X6_seekBest_41 (sc1 : Nat) : Nat → HSt → Int32 → Int32 → Int32 → Prop
  | 0, _, _, _, _ => False
  | n + 1, S, v2, v3, v4 => ((¬ v3 ≤ v4) → p_X10_isA S (sc1 + 1) v4 (1 : Int32)) ∧ ((¬ v3 ≤ v4) → (¬ (f_X10_isA S (sc1 + 1) v4 (1 : Int32)) = 0) → p_X10_value S (sc1 + 1) (5 : Int32) v4 (1 : Int32)) ∧ ((¬ v3 ≤ v4) → (¬ (f_X10_isA S (sc1 + 1) v4 (1 : Int32)) = 0) → ∀ x1009 : Int32, (f_X10_value S (sc1 + 1) (5 : Int32) v4 (1 : Int32)) = x1009 → T_X6_seekBest_76 sc1 1000 S v2 v3 v4 x1009 (0 : Int32)) ∧ ((¬ v3 ≤ v4) → (¬ (f_X10_isA S (sc1 + 1) v4 (1 : Int32)) = 0) → ∀ x1009 : Int32, (f_X10_value S (sc1 + 1) (5 : Int32) v4 (1 : Int32)) = x1009 → ∀ r1010, L_X6_seekBest_76 sc1 1000 S v2 v3 v4 x1009 (0 : Int32) = r1010 → T_X6_seekBest_41 sc1 n r1010.2.2.2.2.2 r1010.1 r1010.2.1 (r1010.2.2.1 + (1 : Int32)))
theorem qL_X6_seekBest_41 (sc1 : Nat) : ∀ (n : Nat) (S : HSt) (v2 : Int32) (v3 : Int32) (v4 : Int32), shp (L_X6_seekBest_41 sc1 n S v2 v3 v4).2.2.2 = shp S := by
  intro n
  induction n with
  | zero => intros; rfl
  | succ n ih =>
    intro S v2 v3 v4
    unfold L_X6_seekBest_41
    repeat' (first | with_reducible refine shpr3 ?_ | with_reducible rfl | with_reducible refine (ih _ _ _ _).trans ?_ | with_reducible refine (q_X1_begin _ _).trans ?_ | with_reducible refine (q_X6_advance _ _ _ _).trans ?_ | with_reducible refine (q_X6_weighBoth _ _ _ _).trans ?_ | with_reducible refine (qL_X6_seekBest_76 sc1 _ _ _ _ _ _ _).trans ?_ | with_reducible refine (shp_sI _ _ _ _).trans ?_ | with_reducible refine (shp_sJ _ _ _ _).trans ?_ | with_reducible refine shi ?_ ?_ | with_reducible refine shb (fun _ _ => ?_) | with_reducible refine shiP (fun q : Int32 × Int32 × Int32 × HSt => q.2.2.2) ?_ ?_ | with_reducible refine shbP (fun q : Int32 × Int32 × Int32 × HSt => q.2.2.2) (fun _ _ => ?_) | (subst_vars; with_reducible rfl) | (subst_vars; with_reducible refine (ih _ _ _ _).trans ?_) | (subst_vars; with_reducible refine (q_X1_begin _ _).trans ?_) | (subst_vars; with_reducible refine (q_X6_advance _ _ _ _).trans ?_) | (subst_vars; with_reducible refine (q_X6_weighBoth _ _ _ _).trans ?_) | (subst_vars; with_reducible refine (qL_X6_seekBest_76 sc1 _ _ _ _ _ _ _).trans ?_) | (subst_vars; with_reducible refine (shp_sI _ _ _ _).trans ?_) | (subst_vars; with_reducible refine (shp_sJ _ _ _ _).trans ?_) | (subst_vars; with_reducible refine shi ?_ ?_) | (subst_vars; with_reducible refine shb (fun _ _ => ?_)))
set_option maxRecDepth 100000 in
theorem l_X6_seekBest_41 {p : Program} {l : Launch} {e : Env} {s : State} {m : MethodId} {args : Array Value} {below : List Frame} {meth : Method} {c : Code} {G : GG} {Q : State → Prop} (hC : ACx p s m args meth c cX6_seekBest RX6 7 none) (hSt : St G s) {sc1 : Nat} (hsc1 : (sc1, 7, 0) ∈ cKT) : ∀ (n : Nat) (S : HSt) (v2 : Int32) (v3 : Int32) (v4 : Int32), CS S → T_X6_seekBest_41 sc1 n S v2 v3 v4 → AW p l e (rmD 5 0 0) s m args below meth c G 7 Q (L_X6_seekBest_41 sc1 n S v2 v3 v4).2.2.2 0 0 118 [(0, .ref 35), (1, .ref sc1), (2, .int (L_X6_seekBest_41 sc1 n S v2 v3 v4).1), (3, .int (L_X6_seekBest_41 sc1 n S v2 v3 v4).2.1), (4, .int (L_X6_seekBest_41 sc1 n S v2 v3 v4).2.2.1)] [] → AW p l e (rmD 5 0 0) s m args below meth c G 7 Q S 0 0 41 [(0, .ref 35), (1, .ref sc1), (2, .int v2), (3, .int v3), (4, .int v4)] [] := by
  intro n
  induction n with
  | zero => intro S v2 v3 v4 _ hT; exact hT.elim
  | succ n ih =>
    intro S v2 v3 v4 hM hT hk
    unfold T_X6_seekBest_41 at hT
    obtain ⟨h0, h1, h2, h3⟩ := hT
    refine aw_iload hC 4 dX6_seekBest_41 rfl ?_
    refine aw_iload_n hC 3 dX6_seekBest_43 rfl rfl ?_
    refine aw_icmp_ge hC 118 dX6_seekBest_44 (by decide) (fun c1007 => ?_) (fun c1007 => ?_)
    · refine aw_sub [0, 1, 2, 3, 4] rfl ?_
      have E : L_X6_seekBest_41 sc1 (n + 1) S v2 v3 v4 = _ := (if_pos c1007).trans (rfl)
      rw [E] at hk
      exact hk
    · refine aw_aload_n hC 1 dX6_seekBest_47 rfl rfl ?_
      refine aw_getP (b := (sc1 + 1)) hC hSt 0 (cs_lt sc1 7 0 hsc1 hM) (cs_k sc1 7 0 hsc1 hM) rfl (by decide) w_499 rfl (cs_p sc1 0 (sc1 + 1) (sc_pway hsc1) hM) dX6_seekBest_48 ?_
      refine aw_iload hC 4 dX6_seekBest_51 rfl ?_
      refine aw_iconst (v := 1) hC dX6_seekBest_53 (by decide) ?_
      refine aw_cV2r hC hSt (t_X10_isA G l hM _ _ _ (sc_way hsc1) (h0 c1007)) w_496 w_546 w_547 w_548 w_18 rfl rfl (by decide +kernel) ⟨Nat.le_of_ble_eq_true rfl, Nat.le_of_ble_eq_true rfl⟩ (cs_lt (sc1 + 1) 10 0 (sc_way hsc1) hM) (cs_k (sc1 + 1) 10 0 (sc_way hsc1) hM) rfl (Nat.le_of_ble_eq_true rfl) dX6_seekBest_54 ⟨Nat.zero_le _, Nat.zero_le _⟩ ?_
      refine aw_if_eq hC 118 dX6_seekBest_57 (by decide) (fun c1008 => ?_) (fun c1008 => ?_)
      · refine aw_sub [0, 1, 2, 3, 4] rfl ?_
        have E : L_X6_seekBest_41 sc1 (n + 1) S v2 v3 v4 = _ := (if_neg c1007).trans ((if_pos c1008).trans (rfl))
        rw [E] at hk
        exact hk
      · refine aw_aload_n hC 1 dX6_seekBest_60 rfl rfl ?_
        refine aw_getP (b := (sc1 + 1)) hC hSt 0 (cs_lt sc1 7 0 hsc1 hM) (cs_k sc1 7 0 hsc1 hM) rfl (by decide) w_499 rfl (cs_p sc1 0 (sc1 + 1) (sc_pway hsc1) hM) dX6_seekBest_61 ?_
        refine aw_iconst (v := 5) hC dX6_seekBest_64 (by decide) ?_
        refine aw_iload hC 4 dX6_seekBest_65 rfl ?_
        refine aw_iconst (v := 1) hC dX6_seekBest_67 (by decide) ?_
        refine aw_cV3r hC hSt (t_X10_value G l hM _ _ _ _ (sc_way hsc1) (h1 c1007 c1008)) w_10 w_501 w_16 w_17 w_18 rfl rfl (by decide +kernel) ⟨Nat.le_of_ble_eq_true rfl, Nat.le_of_ble_eq_true rfl⟩ (cs_lt (sc1 + 1) 10 0 (sc_way hsc1) hM) (cs_k (sc1 + 1) 10 0 (sc_way hsc1) hM) rfl (Nat.le_of_ble_eq_true rfl) dX6_seekBest_68 ⟨Nat.zero_le _, Nat.zero_le _⟩ ?_
        refine aw_istore hC [(5, .int _), (0, .ref 35), (1, .ref sc1), (2, .int _), (3, .int _), (4, .int _)] dX6_seekBest_71 (by decide) rfl ?_
        generalize ex1009 : (f_X10_value S (sc1 + 1) (5 : Int32) v4 (1 : Int32)) = x1009
        refine aw_iconst (v := 0) hC dX6_seekBest_73 (by decide) ?_
        refine aw_istore hC [(6, .int _), (5, .int _), (0, .ref 35), (1, .ref sc1), (2, .int _), (3, .int _), (4, .int _)] dX6_seekBest_74 (by decide) rfl ?_
        refine aw_sub [2, 3, 4, 5, 6, 1, 0] rfl ?_
        refine l_X6_seekBest_76 hC hSt hsc1 1000 _ _ _ _ _ _ hM (h2 c1007 c1008 x1009 ex1009) ?_
        generalize er1010 : L_X6_seekBest_76 sc1 1000 S v2 v3 v4 x1009 (0 : Int32) = r1010
        have hM : CS r1010.2.2.2.2.2 := CS.of (by rw [← er1010]; exact qL_X6_seekBest_76 sc1 _ _ _ _ _ _ _) hM
        refine aw_iinc (v := (r1010.2.2.1 + (1 : Int32))) hC 4 [(4, .int _), (0, .ref 35), (1, .ref sc1), (2, .int _), (3, .int _), (5, .int _), (6, .int _)] dX6_seekBest_112 rfl rfl (by decide) rfl ?_
        refine aw_goto hC 41 dX6_seekBest_115 (by decide) ?_
        refine aw_sub [1, 2, 3, 4, 0] rfl ?_
        have hTn := (h3 c1007 c1008 x1009 ex1009 r1010 er1010)
        have hMn : CS r1010.2.2.2.2.2 := hM
        have E : L_X6_seekBest_41 sc1 (n + 1) S v2 v3 v4 = _ := (if_neg c1007).trans ((if_neg c1008).trans ((bd_eq ex1009).trans ((bd_eq er1010).trans (rfl))))
        rw [E] at hk
        exact ih _ _ _ _ hMn hTn hk
def f_X6_seekBest (S : HSt) (_o0 : Nat) (sc1 : Nat) (a2 : Int32) : HSt := bd (f_X1_begin S 36) fun r1 => bd ((sI r1 35 8 (-1000000 : Int32))) fun S2 => bd ((sI S2 35 9 (0 : Int32))) fun S3 => bd ((sI S3 35 10 (1 : Int32))) fun S4 => bd (f_X6_weighBoth S4 35 sc1 a2) fun r5 => bd ((f_X10_howMany r5 (sc1 + 1) (5 : Int32))) fun x6 => bd (L_X6_seekBest_41 sc1 1000 r5 a2 x6 (0 : Int32)) fun r7 => r7.2.2.2
def p_X6_seekBest (S : HSt) (_o0 : Nat) (sc1 : Nat) (a2 : Int32) : Prop := (∀ r1, f_X1_begin S 36 = r1 → ∀ S2 : HSt, (sI r1 35 8 (-1000000 : Int32)) = S2 → ∀ S3 : HSt, (sI S2 35 9 (0 : Int32)) = S3 → ∀ S4 : HSt, (sI S3 35 10 (1 : Int32)) = S4 → p_X6_weighBoth S4 35 sc1 a2) ∧ (∀ r1, f_X1_begin S 36 = r1 → ∀ S2 : HSt, (sI r1 35 8 (-1000000 : Int32)) = S2 → ∀ S3 : HSt, (sI S2 35 9 (0 : Int32)) = S3 → ∀ S4 : HSt, (sI S3 35 10 (1 : Int32)) = S4 → ∀ r5, f_X6_weighBoth S4 35 sc1 a2 = r5 → p_X10_howMany r5 (sc1 + 1) (5 : Int32)) ∧ (∀ r1, f_X1_begin S 36 = r1 → ∀ S2 : HSt, (sI r1 35 8 (-1000000 : Int32)) = S2 → ∀ S3 : HSt, (sI S2 35 9 (0 : Int32)) = S3 → ∀ S4 : HSt, (sI S3 35 10 (1 : Int32)) = S4 → ∀ r5, f_X6_weighBoth S4 35 sc1 a2 = r5 → ∀ x6 : Int32, (f_X10_howMany r5 (sc1 + 1) (5 : Int32)) = x6 → T_X6_seekBest_41 sc1 1000 r5 a2 x6 (0 : Int32))
set_option maxRecDepth 100000 in
theorem t_X6_seekBest (G : GG) (l : Launch) {S : HSt} (hM : CS S) (sc1 : Nat) (a2 : Int32) (hsc1 : (sc1, 7, 0) ∈ cKT) (hp : p_X6_seekBest S 35 sc1 a2) : AM G l yX6_seekBest cX6_seekBest 7 none (rmD 5 0 0) 0 0 [.ref 35, .ref sc1, .int a2] S (FP none (f_X6_seekBest S 35 sc1 a2)) := by
  obtain ⟨h0, h1, h2⟩ := hp
  refine AM.mk (by decide) (Nat.le_of_ble_eq_true rfl) ?_
  intro p e s m below meth c hC hSt _
  refine aw_aload_n hC 0 dX6_seekBest_0 rfl rfl ?_
  refine aw_getP (b := 36) hC hSt 0 (cs_lt 35 6 0 (by decide) hM) (cs_k 35 6 0 (by decide) hM) rfl (by decide) w_493 rfl (cs_p 35 0 36 (by decide) hM) dX6_seekBest_1 ?_
  refine aw_cV0v hC hSt (t_X1_begin G l hM _ (by decide)) w_79 w_561 w_562 w_563 w_84 rfl rfl (by decide +kernel) ⟨Nat.le_of_ble_eq_true rfl, Nat.le_of_ble_eq_true rfl⟩ (cs_lt 36 1 0 (by decide) hM) (cs_k 36 1 0 (by decide) hM) rfl (Nat.le_of_ble_eq_true rfl) dX6_seekBest_4 ⟨Nat.zero_le _, Nat.zero_le _⟩ ?_
  generalize er1 : f_X1_begin S 36 = r1
  have hM : CS r1 := CS.of (by rw [← er1]; exact q_X1_begin _ _) hM
  refine aw_aload_n hC 0 dX6_seekBest_7 rfl rfl ?_
  refine aw_ldc (v := -1000000) hC w_543 dX6_seekBest_8 ?_
  refine aw_putI hC hSt 8 (cs_lt 35 6 0 (by decide) hM) (cs_k 35 6 0 (by decide) hM) rfl (by decide) w_570 rfl rfl rfl rfl dX6_seekBest_10 ?_
  generalize eS2 : (sI r1 35 8 (-1000000 : Int32)) = S2
  have hM : CS S2 := CS.of (by rw [← eS2]; exact shp_sI _ _ _ _) hM
  refine aw_aload_n hC 0 dX6_seekBest_13 rfl rfl ?_
  refine aw_iconst (v := 0) hC dX6_seekBest_14 (by decide) ?_
  refine aw_putI hC hSt 9 (cs_lt 35 6 0 (by decide) hM) (cs_k 35 6 0 (by decide) hM) rfl (by decide) w_569 rfl rfl rfl rfl dX6_seekBest_15 ?_
  generalize eS3 : (sI S2 35 9 (0 : Int32)) = S3
  have hM : CS S3 := CS.of (by rw [← eS3]; exact shp_sI _ _ _ _) hM
  refine aw_aload_n hC 0 dX6_seekBest_18 rfl rfl ?_
  refine aw_iconst (v := 1) hC dX6_seekBest_19 (by decide) ?_
  refine aw_putI hC hSt 10 (cs_lt 35 6 0 (by decide) hM) (cs_k 35 6 0 (by decide) hM) rfl (by decide) w_571 rfl rfl rfl rfl dX6_seekBest_20 ?_
  generalize eS4 : (sI S3 35 10 (1 : Int32)) = S4
  have hM : CS S4 := CS.of (by rw [← eS4]; exact shp_sI _ _ _ _) hM
  refine aw_aload_n hC 0 dX6_seekBest_23 rfl rfl ?_
  refine aw_aload_n hC 1 dX6_seekBest_24 rfl rfl ?_
  refine aw_iload_n hC 2 dX6_seekBest_25 rfl rfl ?_
  refine aw_cV2v hC hSt (t_X6_weighBoth G l hM _ _ hsc1 (h0 r1 er1 S2 eS2 S3 eS3 S4 eS4)) w_572 w_573 w_574 w_575 w_540 rfl rfl (by decide +kernel) ⟨Nat.le_of_ble_eq_true rfl, Nat.le_of_ble_eq_true rfl⟩ (cs_lt 35 6 0 (by decide) hM) (cs_k 35 6 0 (by decide) hM) rfl (Nat.le_of_ble_eq_true rfl) dX6_seekBest_26 ⟨Nat.zero_le _, Nat.zero_le _⟩ ?_
  generalize er5 : f_X6_weighBoth S4 35 sc1 a2 = r5
  have hM : CS r5 := CS.of (by rw [← er5]; exact q_X6_weighBoth _ _ _ _) hM
  refine aw_aload_n hC 1 dX6_seekBest_29 rfl rfl ?_
  refine aw_getP (b := (sc1 + 1)) hC hSt 0 (cs_lt sc1 7 0 hsc1 hM) (cs_k sc1 7 0 hsc1 hM) rfl (by decide) w_499 rfl (cs_p sc1 0 (sc1 + 1) (sc_pway hsc1) hM) dX6_seekBest_30 ?_
  refine aw_iconst (v := 5) hC dX6_seekBest_33 (by decide) ?_
  refine aw_cV1r hC hSt (t_X10_howMany G l hM _ _ (sc_way hsc1) (h1 r1 er1 S2 eS2 S3 eS3 S4 eS4 r5 er5)) w_152 w_564 w_237 w_238 w_18 rfl rfl (by decide +kernel) ⟨Nat.le_of_ble_eq_true rfl, Nat.le_of_ble_eq_true rfl⟩ (cs_lt (sc1 + 1) 10 0 (sc_way hsc1) hM) (cs_k (sc1 + 1) 10 0 (sc_way hsc1) hM) rfl (Nat.le_of_ble_eq_true rfl) dX6_seekBest_34 ⟨Nat.zero_le _, Nat.zero_le _⟩ ?_
  refine aw_istore_n hC [(3, .int _), (0, .ref 35), (1, .ref sc1), (2, .int _)] dX6_seekBest_37 rfl (by decide) rfl ?_
  generalize ex6 : (f_X10_howMany r5 (sc1 + 1) (5 : Int32)) = x6
  refine aw_iconst (v := 0) hC dX6_seekBest_38 (by decide) ?_
  refine aw_istore hC [(4, .int _), (3, .int _), (0, .ref 35), (1, .ref sc1), (2, .int _)] dX6_seekBest_39 (by decide) rfl ?_
  refine aw_sub [2, 3, 4, 1, 0] rfl ?_
  refine l_X6_seekBest_41 hC hSt hsc1 1000 _ _ _ _ hM (h2 r1 er1 S2 eS2 S3 eS3 S4 eS4 r5 er5 x6 ex6) ?_
  generalize er7 : L_X6_seekBest_41 sc1 1000 r5 a2 x6 (0 : Int32) = r7
  have hM : CS r7.2.2.2 := CS.of (by rw [← er7]; exact qL_X6_seekBest_41 sc1 _ _ _ _ _) hM
  refine aw_vret hC dX6_seekBest_118 (Nat.le_refl _) (Nat.le_refl _) ?_
  exact FP.qV ((bd_eq er1).trans ((bd_eq eS2).trans ((bd_eq eS3).trans ((bd_eq eS4).trans ((bd_eq er5).trans ((bd_eq ex6).trans ((bd_eq er7).trans (rfl))))))))
theorem q_X6_seekBest (S : HSt) (_o0 : Nat) (sc1 : Nat) (a2 : Int32) : shp (f_X6_seekBest S _o0 sc1 a2) = shp S := by
  unfold f_X6_seekBest
  repeat' (first | with_reducible rfl | with_reducible refine (q_X1_begin _ _).trans ?_ | with_reducible refine (q_X6_advance _ _ _ _).trans ?_ | with_reducible refine (q_X6_weighBoth _ _ _ _).trans ?_ | with_reducible refine (qL_X6_seekBest_41 sc1 _ _ _ _ _).trans ?_ | with_reducible refine (qL_X6_seekBest_76 sc1 _ _ _ _ _ _ _).trans ?_ | with_reducible refine (shp_sI _ _ _ _).trans ?_ | with_reducible refine (shp_sJ _ _ _ _).trans ?_ | with_reducible refine shi ?_ ?_ | with_reducible refine shb (fun _ _ => ?_) | (subst_vars; with_reducible rfl) | (subst_vars; with_reducible refine (q_X1_begin _ _).trans ?_) | (subst_vars; with_reducible refine (q_X6_advance _ _ _ _).trans ?_) | (subst_vars; with_reducible refine (q_X6_weighBoth _ _ _ _).trans ?_) | (subst_vars; with_reducible refine (qL_X6_seekBest_41 sc1 _ _ _ _ _).trans ?_) | (subst_vars; with_reducible refine (qL_X6_seekBest_76 sc1 _ _ _ _ _ _ _).trans ?_) | (subst_vars; with_reducible refine (shp_sI _ _ _ _).trans ?_) | (subst_vars; with_reducible refine (shp_sJ _ _ _ _).trans ?_) | (subst_vars; with_reducible refine shi ?_ ?_) | (subst_vars; with_reducible refine shb (fun _ _ => ?_)))
def f_X6_multiply (S : HSt) (_o0 : Nat) (a1 : Int64) (a2 : Int64) : HSt := if (gI S 35 7) = 0 then (bd (((gJ S 35 5) * a1)) fun x2 => bd (((gJ S 35 6) * a2)) fun x3 => bd ((sJ S 35 5 (f_X11_lowest S x2 x3 (0 : Int32)))) fun S4 => bd ((sJ S4 35 6 (f_X11_lowest S4 x2 x3 (1 : Int32)))) fun S5 => bd ((if (lg_cmp (gJ S5 35 6) (1000000000000 : Int64)) ≤ 0 then (0 : Int32) else (1 : Int32))) fun x7 => bd ((sI S5 35 7 x7)) fun S8 => S8) else (S)
def p_X6_multiply (S : HSt) (_o0 : Nat) (a1 : Int64) (a2 : Int64) : Prop := (((gI S 35 7) = 0) → ∀ x2 : Int64, ((gJ S 35 5) * a1) = x2 → ∀ x3 : Int64, ((gJ S 35 6) * a2) = x3 → p_X11_lowest S x2 x3 (0 : Int32)) ∧ (((gI S 35 7) = 0) → ∀ x2 : Int64, ((gJ S 35 5) * a1) = x2 → ∀ x3 : Int64, ((gJ S 35 6) * a2) = x3 → ∀ S4 : HSt, (sJ S 35 5 (f_X11_lowest S x2 x3 (0 : Int32))) = S4 → p_X11_lowest S4 x2 x3 (1 : Int32))
set_option maxRecDepth 100000 in
theorem t_X6_multiply (G : GG) (l : Launch) {S : HSt} (hM : CS S) (a1 : Int64) (a2 : Int64)  (hp : p_X6_multiply S 35 a1 a2) : AM G l yX6_multiply cX6_multiply 9 none (rmD 2 0 0) 0 0 [.ref 35, .long a1, .long a2] S (FP none (f_X6_multiply S 35 a1 a2)) := by
  obtain ⟨h0, h1⟩ := hp
  refine AM.mk (by decide) (Nat.le_of_ble_eq_true rfl) ?_
  intro p e s m below meth c hC hSt _
  refine aw_aload_n hC 0 dX6_multiply_0 rfl rfl ?_
  refine aw_getI hC hSt 7 (cs_lt 35 6 0 (by decide) hM) (cs_k 35 6 0 (by decide) hM) rfl (by decide) w_519 rfl dX6_multiply_1 ?_
  refine aw_if_eq hC 8 dX6_multiply_4 (by decide) (fun c1 => ?_) (fun c1 => ?_)
  · refine aw_aload_n hC 0 dX6_multiply_8 rfl rfl ?_
    refine aw_getJ hC hSt 5 (cs_lt 35 6 0 (by decide) hM) (cs_k 35 6 0 (by decide) hM) rfl (by decide) w_520 rfl dX6_multiply_9 ?_
    refine aw_lload_n hC 1 dX6_multiply_12 rfl rfl ?_
    refine aw_lmul hC dX6_multiply_13 ?_
    refine aw_lstore hC [(5, .long _), (0, .ref 35), (1, .long _), (3, .long _)] dX6_multiply_14 (by decide) rfl ?_
    generalize ex2 : ((gJ S 35 5) * a1) = x2
    refine aw_aload_n hC 1 dX6_multiply_16 rfl rfl ?_
    refine aw_getJ hC hSt 6 (cs_lt 35 6 0 (by decide) hM) (cs_k 35 6 0 (by decide) hM) rfl (by decide) w_521 rfl dX6_multiply_17 ?_
    refine aw_lload_n hC 3 dX6_multiply_20 rfl rfl ?_
    refine aw_lmul hC dX6_multiply_21 ?_
    refine aw_lstore hC [(7, .long _), (5, .long _), (0, .ref 35), (1, .long _), (3, .long _)] dX6_multiply_22 (by decide) rfl ?_
    generalize ex3 : ((gJ S 35 6) * a2) = x3
    refine aw_aload_n hC 2 dX6_multiply_24 rfl rfl ?_
    refine aw_lload hC 1 dX6_multiply_25 rfl ?_
    refine aw_lload hC 0 dX6_multiply_27 rfl ?_
    refine aw_iconst (v := 0) hC dX6_multiply_29 (by decide) ?_
    refine aw_cSN3r hC hSt (t_X11_lowest G l  _ _ _ (h0 c1 x2 ex2 x3 ex3)) w_514 (by decide) w_523 w_517 rfl rfl (by decide +kernel) ⟨Nat.le_of_ble_eq_true rfl, Nat.le_of_ble_eq_true rfl⟩ (Nat.le_of_ble_eq_true rfl) dX6_multiply_30 ⟨Nat.zero_le _, Nat.zero_le _⟩ ?_
    refine aw_putJ hC hSt 5 (cs_lt 35 6 0 (by decide) hM) (cs_k 35 6 0 (by decide) hM) rfl (by decide) w_520 rfl rfl rfl rfl dX6_multiply_33 ?_
    generalize eS4 : (sJ S 35 5 (f_X11_lowest S x2 x3 (0 : Int32))) = S4
    have hM : CS S4 := CS.of (by rw [← eS4]; exact shp_sJ _ _ _ _) hM
    refine aw_aload_n hC 2 dX6_multiply_36 rfl rfl ?_
    refine aw_lload hC 1 dX6_multiply_37 rfl ?_
    refine aw_lload hC 0 dX6_multiply_39 rfl ?_
    refine aw_iconst (v := 1) hC dX6_multiply_41 (by decide) ?_
    refine aw_cSN3r hC hSt (t_X11_lowest G l  _ _ _ (h1 c1 x2 ex2 x3 ex3 S4 eS4)) w_514 (by decide) w_523 w_517 rfl rfl (by decide +kernel) ⟨Nat.le_of_ble_eq_true rfl, Nat.le_of_ble_eq_true rfl⟩ (Nat.le_of_ble_eq_true rfl) dX6_multiply_42 ⟨Nat.zero_le _, Nat.zero_le _⟩ ?_
    refine aw_putJ hC hSt 6 (cs_lt 35 6 0 (by decide) hM) (cs_k 35 6 0 (by decide) hM) rfl (by decide) w_521 rfl rfl rfl rfl dX6_multiply_45 ?_
    generalize eS5 : (sJ S4 35 6 (f_X11_lowest S4 x2 x3 (1 : Int32))) = S5
    have hM : CS S5 := CS.of (by rw [← eS5]; exact shp_sJ _ _ _ _) hM
    refine aw_aload_n hC 2 dX6_multiply_48 rfl rfl ?_
    refine aw_aload_n hC 2 dX6_multiply_49 rfl rfl ?_
    refine aw_getJ hC hSt 6 (cs_lt 35 6 0 (by decide) hM) (cs_k 35 6 0 (by decide) hM) rfl (by decide) w_521 rfl dX6_multiply_50 ?_
    refine aw_ldc2 (v := 1000000000000) hC w_522 dX6_multiply_53 ?_
    refine aw_lcmp hC dX6_multiply_56 ?_
    refine aw_cut (S' := S5) (pc' := 65) (lv' := [(7, .long x3), (5, .long x2), (0, .ref 35), (1, .long a1), (3, .long a2)]) (st' := [.int (if (lg_cmp (gJ S5 35 6) (1000000000000 : Int64)) ≤ 0 then (0 : Int32) else (1 : Int32)), .ref 35]) ?_ (fun Jc6 => ?_)
    · generalize ex7 : (if (lg_cmp (gJ S5 35 6) (1000000000000 : Int64)) ≤ 0 then (0 : Int32) else (1 : Int32)) = x7
      refine aw_putI hC hSt 7 (cs_lt 35 6 0 (by decide) hM) (cs_k 35 6 0 (by decide) hM) rfl (by decide) w_519 rfl rfl (Bz.n (ex7 ▸ (Bz.ite (Or.inl rfl) (Or.inr rfl)))) (Bz.f (ex7 ▸ (Bz.ite (Or.inl rfl) (Or.inr rfl)))) dX6_multiply_65 ?_
      generalize eS8 : (sI S5 35 7 x7) = S8
      have hM : CS S8 := CS.of (by rw [← eS8]; exact shp_sI _ _ _ _) hM
      refine aw_vret hC dX6_multiply_68 (Nat.le_refl _) (Nat.le_refl _) ?_
      exact FP.qV ((if_pos c1).trans ((bd_eq ex2).trans ((bd_eq ex3).trans ((bd_eq eS4).trans ((bd_eq eS5).trans ((bd_eq ex7).trans ((bd_eq eS8).trans (rfl))))))))
    · refine aw_if_le hC 64 dX6_multiply_57 (by decide) (fun c6 => ?_) (fun c6 => ?_)
      · refine aw_iconst (v := 0) hC dX6_multiply_64 (by decide) ?_
        simp only [bd_def, if_pos c6] at Jc6 ⊢
        exact Jc6
      · refine aw_iconst (v := 1) hC dX6_multiply_60 (by decide) ?_
        refine aw_goto hC 65 dX6_multiply_61 (by decide) ?_
        simp only [bd_def, if_neg c6] at Jc6 ⊢
        exact Jc6
  · refine aw_vret hC dX6_multiply_7 (Nat.le_refl _) (Nat.le_refl _) ?_
    exact FP.qV ((if_neg c1).trans (rfl))
theorem q_X6_multiply (S : HSt) (_o0 : Nat) (a1 : Int64) (a2 : Int64) : shp (f_X6_multiply S _o0 a1 a2) = shp S := by
  unfold f_X6_multiply
  repeat' (first | with_reducible rfl | with_reducible refine (shp_sI _ _ _ _).trans ?_ | with_reducible refine (shp_sJ _ _ _ _).trans ?_ | with_reducible refine shi ?_ ?_ | with_reducible refine shb (fun _ _ => ?_) | (subst_vars; with_reducible rfl) | (subst_vars; with_reducible refine (shp_sI _ _ _ _).trans ?_) | (subst_vars; with_reducible refine (shp_sJ _ _ _ _).trans ?_) | (subst_vars; with_reducible refine shi ?_ ?_) | (subst_vars; with_reducible refine shb (fun _ _ => ?_)))
def f_X6_throwAt (S : HSt) (_o0 : Nat) (sc1 : Nat) (a2 : Int32) (a3 : Int32) : HSt := bd ((f_X10_value S (sc1 + 1) (5 : Int32) a2 (1 : Int32))) fun x1 => bd (f_X9_aim S 37 sc1 36 a3 x1) fun r2 => bd ((sI r2 35 2 (gI r2 37 0))) fun S3 => bd ((sI S3 35 4 ((gI S3 35 4) + (f_X10_pointsFor S3 (sc1 + 1) a3 (gI S3 36 4) (f_X9_isLikely S3 37))))) fun S4 => bd (f_X6_multiply S4 35 (gI S4 37 2).toInt64 (gI S4 37 3).toInt64) fun r5 => bd (f_X1_fallToHand r5 36) fun r6 => r6
def p_X6_throwAt (S : HSt) (_o0 : Nat) (sc1 : Nat) (a2 : Int32) (a3 : Int32) : Prop := (p_X10_value S (sc1 + 1) (5 : Int32) a2 (1 : Int32)) ∧ (∀ x1 : Int32, (f_X10_value S (sc1 + 1) (5 : Int32) a2 (1 : Int32)) = x1 → p_X9_aim S 37 sc1 36 a3 x1) ∧ (∀ x1 : Int32, (f_X10_value S (sc1 + 1) (5 : Int32) a2 (1 : Int32)) = x1 → ∀ r2, f_X9_aim S 37 sc1 36 a3 x1 = r2 → ∀ S3 : HSt, (sI r2 35 2 (gI r2 37 0)) = S3 → p_X10_pointsFor S3 (sc1 + 1) a3 (gI S3 36 4) (f_X9_isLikely S3 37)) ∧ (∀ x1 : Int32, (f_X10_value S (sc1 + 1) (5 : Int32) a2 (1 : Int32)) = x1 → ∀ r2, f_X9_aim S 37 sc1 36 a3 x1 = r2 → ∀ S3 : HSt, (sI r2 35 2 (gI r2 37 0)) = S3 → ∀ S4 : HSt, (sI S3 35 4 ((gI S3 35 4) + (f_X10_pointsFor S3 (sc1 + 1) a3 (gI S3 36 4) (f_X9_isLikely S3 37)))) = S4 → p_X6_multiply S4 35 (gI S4 37 2).toInt64 (gI S4 37 3).toInt64)
set_option maxRecDepth 100000 in
theorem t_X6_throwAt (G : GG) (l : Launch) {S : HSt} (hM : CS S) (sc1 : Nat) (a2 : Int32) (a3 : Int32) (hsc1 : (sc1, 7, 0) ∈ cKT) (hp : p_X6_throwAt S 35 sc1 a2 a3) : AM G l yX6_throwAt cX6_throwAt 5 none (rmD 4 0 0) 0 0 [.ref 35, .ref sc1, .int a2, .int a3] S (FP none (f_X6_throwAt S 35 sc1 a2 a3)) := by
  obtain ⟨h0, h1, h2, h3⟩ := hp
  refine AM.mk (by decide) (Nat.le_of_ble_eq_true rfl) ?_
  intro p e s m below meth c hC hSt _
  refine aw_aload_n hC 1 dX6_throwAt_0 rfl rfl ?_
  refine aw_getP (b := (sc1 + 1)) hC hSt 0 (cs_lt sc1 7 0 hsc1 hM) (cs_k sc1 7 0 hsc1 hM) rfl (by decide) w_499 rfl (cs_p sc1 0 (sc1 + 1) (sc_pway hsc1) hM) dX6_throwAt_1 ?_
  refine aw_iconst (v := 5) hC dX6_throwAt_4 (by decide) ?_
  refine aw_iload_n hC 2 dX6_throwAt_5 rfl rfl ?_
  refine aw_iconst (v := 1) hC dX6_throwAt_6 (by decide) ?_
  refine aw_cV3r hC hSt (t_X10_value G l hM _ _ _ _ (sc_way hsc1) (h0)) w_10 w_501 w_16 w_17 w_18 rfl rfl (by decide +kernel) ⟨Nat.le_of_ble_eq_true rfl, Nat.le_of_ble_eq_true rfl⟩ (cs_lt (sc1 + 1) 10 0 (sc_way hsc1) hM) (cs_k (sc1 + 1) 10 0 (sc_way hsc1) hM) rfl (Nat.le_of_ble_eq_true rfl) dX6_throwAt_7 ⟨Nat.zero_le _, Nat.zero_le _⟩ ?_
  refine aw_istore hC [(4, .int _), (0, .ref 35), (1, .ref sc1), (2, .int _), (3, .int _)] dX6_throwAt_10 (by decide) rfl ?_
  generalize ex1 : (f_X10_value S (sc1 + 1) (5 : Int32) a2 (1 : Int32)) = x1
  refine aw_aload_n hC 1 dX6_throwAt_12 rfl rfl ?_
  refine aw_getP (b := 37) hC hSt 1 (cs_lt 35 6 0 (by decide) hM) (cs_k 35 6 0 (by decide) hM) rfl (by decide) w_495 rfl (cs_p 35 1 37 (by decide) hM) dX6_throwAt_13 ?_
  refine aw_aload_n hC 2 dX6_throwAt_16 rfl rfl ?_
  refine aw_aload_n hC 1 dX6_throwAt_17 rfl rfl ?_
  refine aw_getP (b := 36) hC hSt 0 (cs_lt 35 6 0 (by decide) hM) (cs_k 35 6 0 (by decide) hM) rfl (by decide) w_493 rfl (cs_p 35 0 36 (by decide) hM) dX6_throwAt_18 ?_
  refine aw_iload_n hC 4 dX6_throwAt_21 rfl rfl ?_
  refine aw_iload hC 0 dX6_throwAt_22 rfl ?_
  refine aw_cV4v hC hSt (t_X9_aim G l hM _ _ _ _ _ (by decide) hsc1 (by decide) (h1 x1 ex1)) w_511 w_530 w_531 w_532 w_140 rfl rfl (by decide +kernel) ⟨Nat.le_of_ble_eq_true rfl, Nat.le_of_ble_eq_true rfl⟩ (cs_lt 37 9 0 (by decide) hM) (cs_k 37 9 0 (by decide) hM) rfl (Nat.le_of_ble_eq_true rfl) dX6_throwAt_24 ⟨Nat.zero_le _, Nat.zero_le _⟩ ?_
  generalize er2 : f_X9_aim S 37 sc1 36 a3 x1 = r2
  have hM : CS r2 := CS.of (by rw [← er2]; exact q_X9_aim _ _ _ _ _ _) hM
  refine aw_aload_n hC 1 dX6_throwAt_27 rfl rfl ?_
  refine aw_aload_n hC 1 dX6_throwAt_28 rfl rfl ?_
  refine aw_getP (b := 37) hC hSt 1 (cs_lt 35 6 0 (by decide) hM) (cs_k 35 6 0 (by decide) hM) rfl (by decide) w_495 rfl (cs_p 35 1 37 (by decide) hM) dX6_throwAt_29 ?_
  refine aw_getI hC hSt 0 (cs_lt 37 9 0 (by decide) hM) (cs_k 37 9 0 (by decide) hM) rfl (by decide) w_524 rfl dX6_throwAt_32 ?_
  refine aw_putI hC hSt 2 (cs_lt 35 6 0 (by decide) hM) (cs_k 35 6 0 (by decide) hM) rfl (by decide) w_525 rfl rfl rfl rfl dX6_throwAt_35 ?_
  generalize eS3 : (sI r2 35 2 (gI r2 37 0)) = S3
  have hM : CS S3 := CS.of (by rw [← eS3]; exact shp_sI _ _ _ _) hM
  refine aw_aload_n hC 1 dX6_throwAt_38 rfl rfl ?_
  refine aw_dup hC dX6_throwAt_39 rfl ?_
  refine aw_getI hC hSt 4 (cs_lt 35 6 0 (by decide) hM) (cs_k 35 6 0 (by decide) hM) rfl (by decide) w_526 rfl dX6_throwAt_40 ?_
  refine aw_aload_n hC 2 dX6_throwAt_43 rfl rfl ?_
  refine aw_getP (b := (sc1 + 1)) hC hSt 0 (cs_lt sc1 7 0 hsc1 hM) (cs_k sc1 7 0 hsc1 hM) rfl (by decide) w_499 rfl (cs_p sc1 0 (sc1 + 1) (sc_pway hsc1) hM) dX6_throwAt_44 ?_
  refine aw_iload_n hC 4 dX6_throwAt_47 rfl rfl ?_
  refine aw_aload_n hC 1 dX6_throwAt_48 rfl rfl ?_
  refine aw_getP (b := 36) hC hSt 0 (cs_lt 35 6 0 (by decide) hM) (cs_k 35 6 0 (by decide) hM) rfl (by decide) w_493 rfl (cs_p 35 0 36 (by decide) hM) dX6_throwAt_49 ?_
  refine aw_getI hC hSt 4 (cs_lt 36 1 0 (by decide) hM) (cs_k 36 1 0 (by decide) hM) rfl (by decide) w_527 rfl dX6_throwAt_52 ?_
  refine aw_aload_n hC 1 dX6_throwAt_55 rfl rfl ?_
  refine aw_getP (b := 37) hC hSt 1 (cs_lt 35 6 0 (by decide) hM) (cs_k 35 6 0 (by decide) hM) rfl (by decide) w_495 rfl (cs_p 35 1 37 (by decide) hM) dX6_throwAt_56 ?_
  refine aw_cV0r hC hSt (t_X9_isLikely G l hM _ (by decide)) w_512 w_533 w_534 w_535 w_140 rfl rfl (by decide +kernel) ⟨Nat.le_of_ble_eq_true rfl, Nat.le_of_ble_eq_true rfl⟩ (cs_lt 37 9 0 (by decide) hM) (cs_k 37 9 0 (by decide) hM) rfl (Nat.le_of_ble_eq_true rfl) dX6_throwAt_59 ⟨Nat.zero_le _, Nat.zero_le _⟩ ?_
  refine aw_cV3r hC hSt (t_X10_pointsFor G l hM _ _ _ _ (sc_way hsc1) (h2 x1 ex1 r2 er2 S3 eS3)) w_195 w_536 w_207 w_208 w_18 rfl rfl (by decide +kernel) ⟨Nat.le_of_ble_eq_true rfl, Nat.le_of_ble_eq_true rfl⟩ (cs_lt (sc1 + 1) 10 0 (sc_way hsc1) hM) (cs_k (sc1 + 1) 10 0 (sc_way hsc1) hM) rfl (Nat.le_of_ble_eq_true rfl) dX6_throwAt_62 ⟨Nat.zero_le _, Nat.zero_le _⟩ ?_
  refine aw_iadd hC dX6_throwAt_65 ?_
  refine aw_putI hC hSt 4 (cs_lt 35 6 0 (by decide) hM) (cs_k 35 6 0 (by decide) hM) rfl (by decide) w_526 rfl rfl rfl rfl dX6_throwAt_66 ?_
  generalize eS4 : (sI S3 35 4 ((gI S3 35 4) + (f_X10_pointsFor S3 (sc1 + 1) a3 (gI S3 36 4) (f_X9_isLikely S3 37)))) = S4
  have hM : CS S4 := CS.of (by rw [← eS4]; exact shp_sI _ _ _ _) hM
  refine aw_aload_n hC 1 dX6_throwAt_69 rfl rfl ?_
  refine aw_aload_n hC 1 dX6_throwAt_70 rfl rfl ?_
  refine aw_getP (b := 37) hC hSt 1 (cs_lt 35 6 0 (by decide) hM) (cs_k 35 6 0 (by decide) hM) rfl (by decide) w_495 rfl (cs_p 35 1 37 (by decide) hM) dX6_throwAt_71 ?_
  refine aw_getI hC hSt 2 (cs_lt 37 9 0 (by decide) hM) (cs_k 37 9 0 (by decide) hM) rfl (by decide) w_528 rfl dX6_throwAt_74 ?_
  refine aw_i2l hC dX6_throwAt_77 ?_
  refine aw_aload_n hC 1 dX6_throwAt_78 rfl rfl ?_
  refine aw_getP (b := 37) hC hSt 1 (cs_lt 35 6 0 (by decide) hM) (cs_k 35 6 0 (by decide) hM) rfl (by decide) w_495 rfl (cs_p 35 1 37 (by decide) hM) dX6_throwAt_79 ?_
  refine aw_getI hC hSt 3 (cs_lt 37 9 0 (by decide) hM) (cs_k 37 9 0 (by decide) hM) rfl (by decide) w_529 rfl dX6_throwAt_82 ?_
  refine aw_i2l hC dX6_throwAt_85 ?_
  refine aw_cV2v hC hSt (t_X6_multiply G l hM _ _ (h3 x1 ex1 r2 er2 S3 eS3 S4 eS4)) w_518 w_537 w_538 w_539 w_540 rfl rfl (by decide +kernel) ⟨Nat.le_of_ble_eq_true rfl, Nat.le_of_ble_eq_true rfl⟩ (cs_lt 35 6 0 (by decide) hM) (cs_k 35 6 0 (by decide) hM) rfl (Nat.le_of_ble_eq_true rfl) dX6_throwAt_86 ⟨Nat.zero_le _, Nat.zero_le _⟩ ?_
  generalize er5 : f_X6_multiply S4 35 (gI S4 37 2).toInt64 (gI S4 37 3).toInt64 = r5
  have hM : CS r5 := CS.of (by rw [← er5]; exact q_X6_multiply _ _ _ _) hM
  refine aw_aload_n hC 1 dX6_throwAt_89 rfl rfl ?_
  refine aw_getP (b := 36) hC hSt 0 (cs_lt 35 6 0 (by decide) hM) (cs_k 35 6 0 (by decide) hM) rfl (by decide) w_493 rfl (cs_p 35 0 36 (by decide) hM) dX6_throwAt_90 ?_
  refine aw_cV0v hC hSt (t_X1_fallToHand G l hM _ (by decide)) w_71 w_541 w_82 w_83 w_84 rfl rfl (by decide +kernel) ⟨Nat.le_of_ble_eq_true rfl, Nat.le_of_ble_eq_true rfl⟩ (cs_lt 36 1 0 (by decide) hM) (cs_k 36 1 0 (by decide) hM) rfl (Nat.le_of_ble_eq_true rfl) dX6_throwAt_93 ⟨Nat.zero_le _, Nat.zero_le _⟩ ?_
  generalize er6 : f_X1_fallToHand r5 36 = r6
  have hM : CS r6 := CS.of (by rw [← er6]; exact q_X1_fallToHand _ _) hM
  refine aw_vret hC dX6_throwAt_96 (Nat.le_refl _) (Nat.le_refl _) ?_
  exact FP.qV ((bd_eq ex1).trans ((bd_eq er2).trans ((bd_eq eS3).trans ((bd_eq eS4).trans ((bd_eq er5).trans ((bd_eq er6).trans (rfl)))))))
theorem q_X6_throwAt (S : HSt) (_o0 : Nat) (sc1 : Nat) (a2 : Int32) (a3 : Int32) : shp (f_X6_throwAt S _o0 sc1 a2 a3) = shp S := by
  unfold f_X6_throwAt
  repeat' (first | with_reducible rfl | with_reducible refine (q_X1_fallToHand _ _).trans ?_ | with_reducible refine (q_X6_multiply _ _ _ _).trans ?_ | with_reducible refine (q_X9_aim _ _ _ _ _ _).trans ?_ | with_reducible refine (shp_sI _ _ _ _).trans ?_ | with_reducible refine (shp_sJ _ _ _ _).trans ?_ | with_reducible refine shi ?_ ?_ | with_reducible refine shb (fun _ _ => ?_) | (subst_vars; with_reducible rfl) | (subst_vars; with_reducible refine (q_X1_fallToHand _ _).trans ?_) | (subst_vars; with_reducible refine (q_X6_multiply _ _ _ _).trans ?_) | (subst_vars; with_reducible refine (q_X9_aim _ _ _ _ _ _).trans ?_) | (subst_vars; with_reducible refine (shp_sI _ _ _ _).trans ?_) | (subst_vars; with_reducible refine (shp_sJ _ _ _ _).trans ?_) | (subst_vars; with_reducible refine shi ?_ ?_) | (subst_vars; with_reducible refine shb (fun _ _ => ?_)))
def L_X6_perform_38 (sc1 : Nat) : Nat → HSt → Int32 → Int32 → Int32 → Int32 × Int32 × Int32 × HSt
  | 0, S, v2, v3, v4 => (v2, v3, v4, S)
  | n + 1, S, v2, v3, v4 =>
    if v3 ≤ v4 then ((pr (v2) (pr (v3) (pr (v4) (S))))) else (if (f_X1_hasFallen S 36) = 0 then (bd (f_X6_advance S 35 sc1 v2) fun r1012 => bd ((sI r1012 35 3 (gI r1012 36 5))) fun S1013 => L_X6_perform_38 sc1 n S1013 v2 v3 (v4 + (1 : Int32))) else ((pr (v2) (pr (v3) (pr (v4) (S))))))
def T_X6_perform_38 (sc1 : Nat) : Nat → HSt → Int32 → Int32 → Int32 → Prop
  | 0, _, _, _, _ => False
  | n + 1, S, v2, v3, v4 => ((¬ v3 ≤ v4) → ((f_X1_hasFallen S 36) = 0) → p_X6_advance S 35 sc1 v2) ∧ ((¬ v3 ≤ v4) → ((f_X1_hasFallen S 36) = 0) → ∀ r1012, f_X6_advance S 35 sc1 v2 = r1012 → ∀ S1013 : HSt, (sI r1012 35 3 (gI r1012 36 5)) = S1013 → T_X6_perform_38 sc1 n S1013 v2 v3 (v4 + (1 : Int32)))
theorem qL_X6_perform_38 (sc1 : Nat) : ∀ (n : Nat) (S : HSt) (v2 : Int32) (v3 : Int32) (v4 : Int32), shp (L_X6_perform_38 sc1 n S v2 v3 v4).2.2.2 = shp S := by
  intro n
  induction n with
  | zero => intros; rfl
  | succ n ih =>
    intro S v2 v3 v4
    unfold L_X6_perform_38
    repeat' (first | with_reducible refine shpr3 ?_ | with_reducible rfl | with_reducible refine (ih _ _ _ _).trans ?_ | with_reducible refine (q_X1_gather _ _).trans ?_ | with_reducible refine (q_X6_advance _ _ _ _).trans ?_ | with_reducible refine (q_X6_throwAt _ _ _ _ _).trans ?_ | with_reducible refine (shp_sI _ _ _ _).trans ?_ | with_reducible refine (shp_sJ _ _ _ _).trans ?_ | with_reducible refine shi ?_ ?_ | with_reducible refine shb (fun _ _ => ?_) | with_reducible refine shiP (fun q : Int32 × Int32 × Int32 × HSt => q.2.2.2) ?_ ?_ | with_reducible refine shbP (fun q : Int32 × Int32 × Int32 × HSt => q.2.2.2) (fun _ _ => ?_) | (subst_vars; with_reducible rfl) | (subst_vars; with_reducible refine (ih _ _ _ _).trans ?_) | (subst_vars; with_reducible refine (q_X1_gather _ _).trans ?_) | (subst_vars; with_reducible refine (q_X6_advance _ _ _ _).trans ?_) | (subst_vars; with_reducible refine (q_X6_throwAt _ _ _ _ _).trans ?_) | (subst_vars; with_reducible refine (shp_sI _ _ _ _).trans ?_) | (subst_vars; with_reducible refine (shp_sJ _ _ _ _).trans ?_) | (subst_vars; with_reducible refine shi ?_ ?_) | (subst_vars; with_reducible refine shb (fun _ _ => ?_)))
set_option maxRecDepth 100000 in
theorem l_X6_perform_38 {p : Program} {l : Launch} {e : Env} {s : State} {m : MethodId} {args : Array Value} {below : List Frame} {meth : Method} {c : Code} {G : GG} {Q : State → Prop} (hC : ACx p s m args meth c cX6_perform RX6 5 none) (hSt : St G s) {sc1 : Nat} (hsc1 : (sc1, 7, 0) ∈ cKT) : ∀ (n : Nat) (S : HSt) (v2 : Int32) (v3 : Int32) (v4 : Int32), CS S → T_X6_perform_38 sc1 n S v2 v3 v4 → AW p l e (rmD 5 0 0) s m args below meth c G 5 Q (L_X6_perform_38 sc1 n S v2 v3 v4).2.2.2 0 0 77 [(0, .ref 35), (1, .ref sc1), (2, .int (L_X6_perform_38 sc1 n S v2 v3 v4).1), (3, .int (L_X6_perform_38 sc1 n S v2 v3 v4).2.1), (4, .int (L_X6_perform_38 sc1 n S v2 v3 v4).2.2.1)] [] → AW p l e (rmD 5 0 0) s m args below meth c G 5 Q S 0 0 38 [(0, .ref 35), (1, .ref sc1), (2, .int v2), (3, .int v3), (4, .int v4)] [] := by
  intro n
  induction n with
  | zero => intro S v2 v3 v4 _ hT; exact hT.elim
  | succ n ih =>
    intro S v2 v3 v4 hM hT hk
    unfold T_X6_perform_38 at hT
    obtain ⟨h0, h1⟩ := hT
    refine aw_iload hC 4 dX6_perform_38 rfl ?_
    refine aw_iload_n hC 3 dX6_perform_40 rfl rfl ?_
    refine aw_icmp_ge hC 77 dX6_perform_41 (by decide) (fun c1010 => ?_) (fun c1010 => ?_)
    · refine aw_sub [0, 1, 2, 3, 4] rfl ?_
      have E : L_X6_perform_38 sc1 (n + 1) S v2 v3 v4 = _ := (if_pos c1010).trans (rfl)
      rw [E] at hk
      exact hk
    · refine aw_aload_n hC 0 dX6_perform_44 rfl rfl ?_
      refine aw_getP (b := 36) hC hSt 0 (cs_lt 35 6 0 (by decide) hM) (cs_k 35 6 0 (by decide) hM) rfl (by decide) w_493 rfl (cs_p 35 0 36 (by decide) hM) dX6_perform_45 ?_
      refine aw_cV0r hC hSt (t_X1_hasFallen G l hM _ (by decide)) w_88 w_549 w_204 w_205 w_84 rfl rfl (by decide +kernel) ⟨Nat.le_of_ble_eq_true rfl, Nat.le_of_ble_eq_true rfl⟩ (cs_lt 36 1 0 (by decide) hM) (cs_k 36 1 0 (by decide) hM) rfl (Nat.le_of_ble_eq_true rfl) dX6_perform_48 ⟨Nat.zero_le _, Nat.zero_le _⟩ ?_
      refine aw_if_ne hC 77 dX6_perform_51 (by decide) (fun c1011 => ?_) (fun c1011 => ?_)
      · refine aw_sub [0, 1, 2, 3, 4] rfl ?_
        have E : L_X6_perform_38 sc1 (n + 1) S v2 v3 v4 = _ := (if_neg c1010).trans ((if_neg c1011).trans (rfl))
        rw [E] at hk
        exact hk
      · refine aw_aload_n hC 0 dX6_perform_54 rfl rfl ?_
        refine aw_aload_n hC 1 dX6_perform_55 rfl rfl ?_
        refine aw_iload_n hC 2 dX6_perform_56 rfl rfl ?_
        refine aw_cV2v hC hSt (t_X6_advance G l hM _ _ hsc1 (h0 c1010 c1011)) w_503 w_550 w_551 w_552 w_540 rfl rfl (by decide +kernel) ⟨Nat.le_of_ble_eq_true rfl, Nat.le_of_ble_eq_true rfl⟩ (cs_lt 35 6 0 (by decide) hM) (cs_k 35 6 0 (by decide) hM) rfl (Nat.le_of_ble_eq_true rfl) dX6_perform_57 ⟨Nat.zero_le _, Nat.zero_le _⟩ ?_
        generalize er1012 : f_X6_advance S 35 sc1 v2 = r1012
        have hM : CS r1012 := CS.of (by rw [← er1012]; exact q_X6_advance _ _ _ _) hM
        refine aw_aload_n hC 0 dX6_perform_60 rfl rfl ?_
        refine aw_aload_n hC 0 dX6_perform_61 rfl rfl ?_
        refine aw_getP (b := 36) hC hSt 0 (cs_lt 35 6 0 (by decide) hM) (cs_k 35 6 0 (by decide) hM) rfl (by decide) w_493 rfl (cs_p 35 0 36 (by decide) hM) dX6_perform_62 ?_
        refine aw_getI hC hSt 5 (cs_lt 36 1 0 (by decide) hM) (cs_k 36 1 0 (by decide) hM) rfl (by decide) w_545 rfl dX6_perform_65 ?_
        refine aw_putI hC hSt 3 (cs_lt 35 6 0 (by decide) hM) (cs_k 35 6 0 (by decide) hM) rfl (by decide) w_544 rfl rfl rfl rfl dX6_perform_68 ?_
        generalize eS1013 : (sI r1012 35 3 (gI r1012 36 5)) = S1013
        have hM : CS S1013 := CS.of (by rw [← eS1013]; exact shp_sI _ _ _ _) hM
        refine aw_iinc (v := (v4 + (1 : Int32))) hC 4 [(4, .int _), (0, .ref 35), (1, .ref sc1), (2, .int _), (3, .int _)] dX6_perform_71 rfl rfl (by decide) rfl ?_
        refine aw_goto hC 38 dX6_perform_74 (by decide) ?_
        refine aw_sub [1, 2, 3, 4, 0] rfl ?_
        have hTn := (h1 c1010 c1011 r1012 er1012 S1013 eS1013)
        have hMn : CS S1013 := hM
        have E : L_X6_perform_38 sc1 (n + 1) S v2 v3 v4 = _ := (if_neg c1010).trans ((if_pos c1011).trans ((bd_eq er1012).trans ((bd_eq eS1013).trans (rfl))))
        rw [E] at hk
        exact ih _ _ _ _ hMn hTn hk
def f_X6_perform (S : HSt) (_o0 : Nat) (sc1 : Nat) (a2 : Int32) : HSt := bd ((sI S 35 2 (-1000000 : Int32))) fun S1 => bd ((sI S1 35 3 (-1000000 : Int32))) fun S2 => bd ((if (f_X10_isA S2 (sc1 + 1) a2 (1 : Int32)) = 0 then (if (f_X10_isA S2 (sc1 + 1) a2 (4 : Int32)) = 0 then (bd (f_X1_gather S2 36) fun r5 => a2) else (bd ((if (f_X10_isA S2 (sc1 + 1) a2 (5 : Int32)) = 0 then (0 : Int32) else (1 : Int32))) fun x7 => bd (f_X6_throwAt S2 35 sc1 a2 x7) fun r8 => a2)) else (bd ((f_X10_value S2 (sc1 + 1) (5 : Int32) a2 (1 : Int32))) fun x9 => bd (L_X6_perform_38 sc1 1000 S2 a2 x9 (0 : Int32)) fun r10 => r10.1))) fun x11 => bd ((if (f_X10_isA S2 (sc1 + 1) a2 (1 : Int32)) = 0 then (if (f_X10_isA S2 (sc1 + 1) a2 (4 : Int32)) = 0 then (bd (f_X1_gather S2 36) fun r5 => r5) else (bd ((if (f_X10_isA S2 (sc1 + 1) a2 (5 : Int32)) = 0 then (0 : Int32) else (1 : Int32))) fun x7 => bd (f_X6_throwAt S2 35 sc1 a2 x7) fun r8 => r8)) else (bd ((f_X10_value S2 (sc1 + 1) (5 : Int32) a2 (1 : Int32))) fun x9 => bd (L_X6_perform_38 sc1 1000 S2 a2 x9 (0 : Int32)) fun r10 => r10.2.2.2))) fun S12 => S12
def p_X6_perform (S : HSt) (_o0 : Nat) (sc1 : Nat) (a2 : Int32) : Prop := (∀ S1 : HSt, (sI S 35 2 (-1000000 : Int32)) = S1 → ∀ S2 : HSt, (sI S1 35 3 (-1000000 : Int32)) = S2 → p_X10_isA S2 (sc1 + 1) a2 (1 : Int32)) ∧ (∀ S1 : HSt, (sI S 35 2 (-1000000 : Int32)) = S1 → ∀ S2 : HSt, (sI S1 35 3 (-1000000 : Int32)) = S2 → ((f_X10_isA S2 (sc1 + 1) a2 (1 : Int32)) = 0) → p_X10_isA S2 (sc1 + 1) a2 (4 : Int32)) ∧ (∀ S1 : HSt, (sI S 35 2 (-1000000 : Int32)) = S1 → ∀ S2 : HSt, (sI S1 35 3 (-1000000 : Int32)) = S2 → ((f_X10_isA S2 (sc1 + 1) a2 (1 : Int32)) = 0) → (¬ (f_X10_isA S2 (sc1 + 1) a2 (4 : Int32)) = 0) → p_X10_isA S2 (sc1 + 1) a2 (5 : Int32)) ∧ (∀ S1 : HSt, (sI S 35 2 (-1000000 : Int32)) = S1 → ∀ S2 : HSt, (sI S1 35 3 (-1000000 : Int32)) = S2 → ((f_X10_isA S2 (sc1 + 1) a2 (1 : Int32)) = 0) → (¬ (f_X10_isA S2 (sc1 + 1) a2 (4 : Int32)) = 0) → ∀ x7 : Int32, (if (f_X10_isA S2 (sc1 + 1) a2 (5 : Int32)) = 0 then (0 : Int32) else (1 : Int32)) = x7 → p_X6_throwAt S2 35 sc1 a2 x7) ∧ (∀ S1 : HSt, (sI S 35 2 (-1000000 : Int32)) = S1 → ∀ S2 : HSt, (sI S1 35 3 (-1000000 : Int32)) = S2 → (¬ (f_X10_isA S2 (sc1 + 1) a2 (1 : Int32)) = 0) → p_X10_value S2 (sc1 + 1) (5 : Int32) a2 (1 : Int32)) ∧ (∀ S1 : HSt, (sI S 35 2 (-1000000 : Int32)) = S1 → ∀ S2 : HSt, (sI S1 35 3 (-1000000 : Int32)) = S2 → (¬ (f_X10_isA S2 (sc1 + 1) a2 (1 : Int32)) = 0) → ∀ x9 : Int32, (f_X10_value S2 (sc1 + 1) (5 : Int32) a2 (1 : Int32)) = x9 → T_X6_perform_38 sc1 1000 S2 a2 x9 (0 : Int32))
set_option maxRecDepth 100000 in
theorem t_X6_perform (G : GG) (l : Launch) {S : HSt} (hM : CS S) (sc1 : Nat) (a2 : Int32) (hsc1 : (sc1, 7, 0) ∈ cKT) (hp : p_X6_perform S 35 sc1 a2) : AM G l yX6_perform cX6_perform 5 none (rmD 5 0 0) 0 0 [.ref 35, .ref sc1, .int a2] S (FP none (f_X6_perform S 35 sc1 a2)) := by
  obtain ⟨h0, h1, h2, h3, h4, h5⟩ := hp
  refine AM.mk (by decide) (Nat.le_of_ble_eq_true rfl) ?_
  intro p e s m below meth c hC hSt _
  refine aw_aload_n hC 0 dX6_perform_0 rfl rfl ?_
  refine aw_ldc (v := -1000000) hC w_543 dX6_perform_1 ?_
  refine aw_putI hC hSt 2 (cs_lt 35 6 0 (by decide) hM) (cs_k 35 6 0 (by decide) hM) rfl (by decide) w_525 rfl rfl rfl rfl dX6_perform_3 ?_
  generalize eS1 : (sI S 35 2 (-1000000 : Int32)) = S1
  have hM : CS S1 := CS.of (by rw [← eS1]; exact shp_sI _ _ _ _) hM
  refine aw_aload_n hC 0 dX6_perform_6 rfl rfl ?_
  refine aw_ldc (v := -1000000) hC w_543 dX6_perform_7 ?_
  refine aw_putI hC hSt 3 (cs_lt 35 6 0 (by decide) hM) (cs_k 35 6 0 (by decide) hM) rfl (by decide) w_544 rfl rfl rfl rfl dX6_perform_9 ?_
  generalize eS2 : (sI S1 35 3 (-1000000 : Int32)) = S2
  have hM : CS S2 := CS.of (by rw [← eS2]; exact shp_sI _ _ _ _) hM
  refine aw_aload_n hC 1 dX6_perform_12 rfl rfl ?_
  refine aw_getP (b := (sc1 + 1)) hC hSt 0 (cs_lt sc1 7 0 hsc1 hM) (cs_k sc1 7 0 hsc1 hM) rfl (by decide) w_499 rfl (cs_p sc1 0 (sc1 + 1) (sc_pway hsc1) hM) dX6_perform_13 ?_
  refine aw_iload_n hC 2 dX6_perform_16 rfl rfl ?_
  refine aw_iconst (v := 1) hC dX6_perform_17 (by decide) ?_
  refine aw_cV2r hC hSt (t_X10_isA G l hM _ _ _ (sc_way hsc1) (h0 S1 eS1 S2 eS2)) w_496 w_546 w_547 w_548 w_18 rfl rfl (by decide +kernel) ⟨Nat.le_of_ble_eq_true rfl, Nat.le_of_ble_eq_true rfl⟩ (cs_lt (sc1 + 1) 10 0 (sc_way hsc1) hM) (cs_k (sc1 + 1) 10 0 (sc_way hsc1) hM) rfl (Nat.le_of_ble_eq_true rfl) dX6_perform_18 ⟨Nat.zero_le _, Nat.zero_le _⟩ ?_
  refine aw_cut (S' := (if (f_X10_isA S2 (sc1 + 1) a2 (1 : Int32)) = 0 then (if (f_X10_isA S2 (sc1 + 1) a2 (4 : Int32)) = 0 then (bd (f_X1_gather S2 36) fun r5 => r5) else (bd ((if (f_X10_isA S2 (sc1 + 1) a2 (5 : Int32)) = 0 then (0 : Int32) else (1 : Int32))) fun x7 => bd (f_X6_throwAt S2 35 sc1 a2 x7) fun r8 => r8)) else (bd ((f_X10_value S2 (sc1 + 1) (5 : Int32) a2 (1 : Int32))) fun x9 => bd (L_X6_perform_38 sc1 1000 S2 a2 x9 (0 : Int32)) fun r10 => r10.2.2.2))) (pc' := 125) (lv' := [(0, .ref 35), (1, .ref sc1), (2, .int (if (f_X10_isA S2 (sc1 + 1) a2 (1 : Int32)) = 0 then (if (f_X10_isA S2 (sc1 + 1) a2 (4 : Int32)) = 0 then (bd (f_X1_gather S2 36) fun r5 => a2) else (bd ((if (f_X10_isA S2 (sc1 + 1) a2 (5 : Int32)) = 0 then (0 : Int32) else (1 : Int32))) fun x7 => bd (f_X6_throwAt S2 35 sc1 a2 x7) fun r8 => a2)) else (bd ((f_X10_value S2 (sc1 + 1) (5 : Int32) a2 (1 : Int32))) fun x9 => bd (L_X6_perform_38 sc1 1000 S2 a2 x9 (0 : Int32)) fun r10 => r10.1)))]) (st' := []) ?_ (fun Jc3 => ?_)
  · generalize ex11 : (if (f_X10_isA S2 (sc1 + 1) a2 (1 : Int32)) = 0 then (if (f_X10_isA S2 (sc1 + 1) a2 (4 : Int32)) = 0 then (bd (f_X1_gather S2 36) fun r5 => a2) else (bd ((if (f_X10_isA S2 (sc1 + 1) a2 (5 : Int32)) = 0 then (0 : Int32) else (1 : Int32))) fun x7 => bd (f_X6_throwAt S2 35 sc1 a2 x7) fun r8 => a2)) else (bd ((f_X10_value S2 (sc1 + 1) (5 : Int32) a2 (1 : Int32))) fun x9 => bd (L_X6_perform_38 sc1 1000 S2 a2 x9 (0 : Int32)) fun r10 => r10.1)) = x11
    generalize eS12 : (if (f_X10_isA S2 (sc1 + 1) a2 (1 : Int32)) = 0 then (if (f_X10_isA S2 (sc1 + 1) a2 (4 : Int32)) = 0 then (bd (f_X1_gather S2 36) fun r5 => r5) else (bd ((if (f_X10_isA S2 (sc1 + 1) a2 (5 : Int32)) = 0 then (0 : Int32) else (1 : Int32))) fun x7 => bd (f_X6_throwAt S2 35 sc1 a2 x7) fun r8 => r8)) else (bd ((f_X10_value S2 (sc1 + 1) (5 : Int32) a2 (1 : Int32))) fun x9 => bd (L_X6_perform_38 sc1 1000 S2 a2 x9 (0 : Int32)) fun r10 => r10.2.2.2)) = S12
    have hM : CS S12 := CS.of (by rw [← eS12]; repeat' (first | with_reducible rfl | with_reducible refine (qL_X6_perform_38 sc1 _ _ _ _ _).trans ?_ | with_reducible refine (q_X1_gather _ _).trans ?_ | with_reducible refine (q_X6_throwAt _ _ _ _ _).trans ?_ | with_reducible refine (shp_sI _ _ _ _).trans ?_ | with_reducible refine (shp_sJ _ _ _ _).trans ?_ | with_reducible refine shi ?_ ?_ | with_reducible refine shb (fun _ _ => ?_) | (subst_vars; with_reducible rfl) | (subst_vars; with_reducible refine (qL_X6_perform_38 sc1 _ _ _ _ _).trans ?_) | (subst_vars; with_reducible refine (q_X1_gather _ _).trans ?_) | (subst_vars; with_reducible refine (q_X6_throwAt _ _ _ _ _).trans ?_) | (subst_vars; with_reducible refine (shp_sI _ _ _ _).trans ?_) | (subst_vars; with_reducible refine (shp_sJ _ _ _ _).trans ?_) | (subst_vars; with_reducible refine shi ?_ ?_) | (subst_vars; with_reducible refine shb (fun _ _ => ?_)))) hM
    refine aw_vret hC dX6_perform_125 (Nat.le_refl _) (Nat.le_refl _) ?_
    exact FP.qV ((bd_eq eS1).trans ((bd_eq eS2).trans ((bd_eq ex11).trans ((bd_eq eS12).trans (rfl)))))
  · refine aw_if_eq hC 80 dX6_perform_21 (by decide) (fun c3 => ?_) (fun c3 => ?_)
    · refine aw_aload_n hC 1 dX6_perform_80 rfl rfl ?_
      refine aw_getP (b := (sc1 + 1)) hC hSt 0 (cs_lt sc1 7 0 hsc1 hM) (cs_k sc1 7 0 hsc1 hM) rfl (by decide) w_499 rfl (cs_p sc1 0 (sc1 + 1) (sc_pway hsc1) hM) dX6_perform_81 ?_
      refine aw_iload_n hC 2 dX6_perform_84 rfl rfl ?_
      refine aw_iconst (v := 4) hC dX6_perform_85 (by decide) ?_
      refine aw_cV2r hC hSt (t_X10_isA G l hM _ _ _ (sc_way hsc1) (h1 S1 eS1 S2 eS2 c3)) w_496 w_546 w_547 w_548 w_18 rfl rfl (by decide +kernel) ⟨Nat.le_of_ble_eq_true rfl, Nat.le_of_ble_eq_true rfl⟩ (cs_lt (sc1 + 1) 10 0 (sc_way hsc1) hM) (cs_k (sc1 + 1) 10 0 (sc_way hsc1) hM) rfl (Nat.le_of_ble_eq_true rfl) dX6_perform_86 ⟨Nat.zero_le _, Nat.zero_le _⟩ ?_
      refine aw_if_eq hC 118 dX6_perform_89 (by decide) (fun c4 => ?_) (fun c4 => ?_)
      · refine aw_aload_n hC 0 dX6_perform_118 rfl rfl ?_
        refine aw_getP (b := 36) hC hSt 0 (cs_lt 35 6 0 (by decide) hM) (cs_k 35 6 0 (by decide) hM) rfl (by decide) w_493 rfl (cs_p 35 0 36 (by decide) hM) dX6_perform_119 ?_
        refine aw_cV0v hC hSt (t_X1_gather G l hM _ (by decide)) w_85 w_556 w_557 w_558 w_84 rfl rfl (by decide +kernel) ⟨Nat.le_of_ble_eq_true rfl, Nat.le_of_ble_eq_true rfl⟩ (cs_lt 36 1 0 (by decide) hM) (cs_k 36 1 0 (by decide) hM) rfl (Nat.le_of_ble_eq_true rfl) dX6_perform_122 ⟨Nat.zero_le _, Nat.zero_le _⟩ ?_
        generalize er5 : f_X1_gather S2 36 = r5
        have hM : CS r5 := CS.of (by rw [← er5]; exact q_X1_gather _ _) hM
        subst er5
        simp only [bd_def, if_pos c3, if_pos c4] at Jc3 ⊢
        exact Jc3
      · refine aw_aload_n hC 0 dX6_perform_92 rfl rfl ?_
        refine aw_aload_n hC 1 dX6_perform_93 rfl rfl ?_
        refine aw_iload_n hC 2 dX6_perform_94 rfl rfl ?_
        refine aw_aload_n hC 1 dX6_perform_95 rfl rfl ?_
        refine aw_getP (b := (sc1 + 1)) hC hSt 0 (cs_lt sc1 7 0 hsc1 hM) (cs_k sc1 7 0 hsc1 hM) rfl (by decide) w_499 rfl (cs_p sc1 0 (sc1 + 1) (sc_pway hsc1) hM) dX6_perform_96 ?_
        refine aw_iload_n hC 2 dX6_perform_99 rfl rfl ?_
        refine aw_iconst (v := 5) hC dX6_perform_100 (by decide) ?_
        refine aw_cV2r hC hSt (t_X10_isA G l hM _ _ _ (sc_way hsc1) (h2 S1 eS1 S2 eS2 c3 c4)) w_496 w_546 w_547 w_548 w_18 rfl rfl (by decide +kernel) ⟨Nat.le_of_ble_eq_true rfl, Nat.le_of_ble_eq_true rfl⟩ (cs_lt (sc1 + 1) 10 0 (sc_way hsc1) hM) (cs_k (sc1 + 1) 10 0 (sc_way hsc1) hM) rfl (Nat.le_of_ble_eq_true rfl) dX6_perform_101 ⟨Nat.zero_le _, Nat.zero_le _⟩ ?_
        refine aw_cut (S' := S2) (pc' := 112) (lv' := [(0, .ref 35), (1, .ref sc1), (2, .int a2)]) (st' := [.int (if (f_X10_isA S2 (sc1 + 1) a2 (5 : Int32)) = 0 then (0 : Int32) else (1 : Int32)), .int a2, .ref sc1, .ref 35]) ?_ (fun Jc6 => ?_)
        · generalize ex7 : (if (f_X10_isA S2 (sc1 + 1) a2 (5 : Int32)) = 0 then (0 : Int32) else (1 : Int32)) = x7
          refine aw_cV3v hC hSt (t_X6_throwAt G l hM _ _ _ hsc1 (h3 S1 eS1 S2 eS2 c3 c4 x7 ex7)) w_542 w_553 w_554 w_555 w_540 rfl rfl (by decide +kernel) ⟨Nat.le_of_ble_eq_true rfl, Nat.le_of_ble_eq_true rfl⟩ (cs_lt 35 6 0 (by decide) hM) (cs_k 35 6 0 (by decide) hM) rfl (Nat.le_of_ble_eq_true rfl) dX6_perform_112 ⟨Nat.zero_le _, Nat.zero_le _⟩ ?_
          generalize er8 : f_X6_throwAt S2 35 sc1 a2 x7 = r8
          have hM : CS r8 := CS.of (by rw [← er8]; exact q_X6_throwAt _ _ _ _ _) hM
          refine aw_goto hC 125 dX6_perform_115 (by decide) ?_
          subst er8
          subst ex7
          simp only [bd_def, if_pos c3, if_neg c4] at Jc3 ⊢
          exact Jc3
        · refine aw_if_eq hC 111 dX6_perform_104 (by decide) (fun c6 => ?_) (fun c6 => ?_)
          · refine aw_iconst (v := 0) hC dX6_perform_111 (by decide) ?_
            simp only [bd_def, if_pos c6] at Jc6 ⊢
            exact Jc6
          · refine aw_iconst (v := 1) hC dX6_perform_107 (by decide) ?_
            refine aw_goto hC 112 dX6_perform_108 (by decide) ?_
            simp only [bd_def, if_neg c6] at Jc6 ⊢
            exact Jc6
    · refine aw_aload_n hC 1 dX6_perform_24 rfl rfl ?_
      refine aw_getP (b := (sc1 + 1)) hC hSt 0 (cs_lt sc1 7 0 hsc1 hM) (cs_k sc1 7 0 hsc1 hM) rfl (by decide) w_499 rfl (cs_p sc1 0 (sc1 + 1) (sc_pway hsc1) hM) dX6_perform_25 ?_
      refine aw_iconst (v := 5) hC dX6_perform_28 (by decide) ?_
      refine aw_iload_n hC 2 dX6_perform_29 rfl rfl ?_
      refine aw_iconst (v := 1) hC dX6_perform_30 (by decide) ?_
      refine aw_cV3r hC hSt (t_X10_value G l hM _ _ _ _ (sc_way hsc1) (h4 S1 eS1 S2 eS2 c3)) w_10 w_501 w_16 w_17 w_18 rfl rfl (by decide +kernel) ⟨Nat.le_of_ble_eq_true rfl, Nat.le_of_ble_eq_true rfl⟩ (cs_lt (sc1 + 1) 10 0 (sc_way hsc1) hM) (cs_k (sc1 + 1) 10 0 (sc_way hsc1) hM) rfl (Nat.le_of_ble_eq_true rfl) dX6_perform_31 ⟨Nat.zero_le _, Nat.zero_le _⟩ ?_
      refine aw_istore_n hC [(3, .int _), (0, .ref 35), (1, .ref sc1), (2, .int _)] dX6_perform_34 rfl (by decide) rfl ?_
      generalize ex9 : (f_X10_value S2 (sc1 + 1) (5 : Int32) a2 (1 : Int32)) = x9
      refine aw_iconst (v := 0) hC dX6_perform_35 (by decide) ?_
      refine aw_istore hC [(4, .int _), (3, .int _), (0, .ref 35), (1, .ref sc1), (2, .int _)] dX6_perform_36 (by decide) rfl ?_
      refine aw_sub [2, 3, 4, 1, 0] rfl ?_
      refine l_X6_perform_38 hC hSt hsc1 1000 _ _ _ _ hM (h5 S1 eS1 S2 eS2 c3 x9 ex9) ?_
      generalize er10 : L_X6_perform_38 sc1 1000 S2 a2 x9 (0 : Int32) = r10
      have hM : CS r10.2.2.2 := CS.of (by rw [← er10]; exact qL_X6_perform_38 sc1 _ _ _ _ _) hM
      refine aw_goto hC 125 dX6_perform_77 (by decide) ?_
      refine aw_sub [0, 1, 2] rfl ?_
      subst er10
      subst ex9
      simp only [bd_def, if_neg c3] at Jc3 ⊢
      exact Jc3
theorem q_X6_perform (S : HSt) (_o0 : Nat) (sc1 : Nat) (a2 : Int32) : shp (f_X6_perform S _o0 sc1 a2) = shp S := by
  unfold f_X6_perform
  repeat' (first | with_reducible rfl | with_reducible refine (q_X1_gather _ _).trans ?_ | with_reducible refine (q_X6_advance _ _ _ _).trans ?_ | with_reducible refine (q_X6_throwAt _ _ _ _ _).trans ?_ | with_reducible refine (qL_X6_perform_38 sc1 _ _ _ _ _).trans ?_ | with_reducible refine (shp_sI _ _ _ _).trans ?_ | with_reducible refine (shp_sJ _ _ _ _).trans ?_ | with_reducible refine shi ?_ ?_ | with_reducible refine shb (fun _ _ => ?_) | (subst_vars; with_reducible rfl) | (subst_vars; with_reducible refine (q_X1_gather _ _).trans ?_) | (subst_vars; with_reducible refine (q_X6_advance _ _ _ _).trans ?_) | (subst_vars; with_reducible refine (q_X6_throwAt _ _ _ _ _).trans ?_) | (subst_vars; with_reducible refine (qL_X6_perform_38 sc1 _ _ _ _ _).trans ?_) | (subst_vars; with_reducible refine (shp_sI _ _ _ _).trans ?_) | (subst_vars; with_reducible refine (shp_sJ _ _ _ _).trans ?_) | (subst_vars; with_reducible refine shi ?_ ?_) | (subst_vars; with_reducible refine shb (fun _ _ => ?_)))