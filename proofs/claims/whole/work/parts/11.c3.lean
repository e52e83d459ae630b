def L_X6_run_57 (sc1 : Nat) : Nat → HSt → Int32 → Int32 → Int32 → Int32 × Int32 × Int32 × HSt
  | 0, S, v2, v3, v4 => (v2, v3, v4, S)
  | n + 1, S, v2, v3, v4 =>
    if v3 < v4 then ((pr (v2) (pr (v3) (pr (v4) (S))))) else (bd (f_X6_perform S 35 sc1 v4) fun r1010 => L_X6_run_57 sc1 n r1010 v2 v3 (v4 + (1 : Int32)))
def T_X6_run_57 (sc1 : Nat) : Nat → HSt → Int32 → Int32 → Int32 → Prop
  | 0, _, _, _, _ => False
  | n + 1, S, v2, v3, v4 => ((¬ v3 < v4) → p_X6_perform S 35 sc1 v4) ∧ ((¬ v3 < v4) → ∀ r1010, f_X6_perform S 35 sc1 v4 = r1010 → T_X6_run_57 sc1 n r1010 v2 v3 (v4 + (1 : Int32)))
theorem qL_X6_run_57 (sc1 : Nat) : ∀ (n : Nat) (S : HSt) (v2 : Int32) (v3 : Int32) (v4 : Int32), shp (L_X6_run_57 sc1 n S v2 v3 v4).2.2.2 = shp S := by
  intro n
  induction n with
  | zero => intros; rfl
  | succ n ih =>
    intro S v2 v3 v4
    unfold L_X6_run_57
    repeat' (first | with_reducible refine shpr3 ?_ | with_reducible rfl | with_reducible refine (ih _ _ _ _).trans ?_ | with_reducible refine (q_X1_begin _ _).trans ?_ | with_reducible refine (q_X6_perform _ _ _ _).trans ?_ | with_reducible refine (shp_sI _ _ _ _).trans ?_ | with_reducible refine (shp_sJ _ _ _ _).trans ?_ | with_reducible refine shi ?_ ?_ | with_reducible refine shb (fun _ _ => ?_) | with_reducible refine shiP (fun q : Int32 × Int32 × Int32 × HSt => q.2.2.2) ?_ ?_ | with_reducible refine shbP (fun q : Int32 × Int32 × Int32 × HSt => q.2.2.2) (fun _ _ => ?_) | (subst_vars; with_reducible rfl) | (subst_vars; with_reducible refine (ih _ _ _ _).trans ?_) | (subst_vars; with_reducible refine (q_X1_begin _ _).trans ?_) | (subst_vars; with_reducible refine (q_X6_perform _ _ _ _).trans ?_) | (subst_vars; with_reducible refine (shp_sI _ _ _ _).trans ?_) | (subst_vars; with_reducible refine (shp_sJ _ _ _ _).trans ?_) | (subst_vars; with_reducible refine shi ?_ ?_) | (subst_vars; with_reducible refine shb (fun _ _ => ?_)))
set_option maxRecDepth 100000 in
theorem l_X6_run_57 {p : Program} {l : Launch} {e : Env} {s : State} {m : MethodId} {args : Array Value} {below : List Frame} {meth : Method} {c : Code} {G : GG} {Q : State → Prop} (hC : ACx p s m args meth c cX6_run RX6 5 none) (hSt : St G s) {sc1 : Nat} (hsc1 : (sc1, 7, 0) ∈ cKT) : ∀ (n : Nat) (S : HSt) (v2 : Int32) (v3 : Int32) (v4 : Int32), CS S → T_X6_run_57 sc1 n S v2 v3 v4 → AW p l e (rmD 6 0 0) s m args below meth c G 5 Q (L_X6_run_57 sc1 n S v2 v3 v4).2.2.2 0 0 76 [(0, .ref 35), (1, .ref sc1), (2, .int (L_X6_run_57 sc1 n S v2 v3 v4).1), (3, .int (L_X6_run_57 sc1 n S v2 v3 v4).2.1), (4, .int (L_X6_run_57 sc1 n S v2 v3 v4).2.2.1)] [] → AW p l e (rmD 6 0 0) s m args below meth c G 5 Q S 0 0 57 [(0, .ref 35), (1, .ref sc1), (2, .int v2), (3, .int v3), (4, .int v4)] [] := by
  intro n
  induction n with
  | zero => intro S v2 v3 v4 _ hT; exact hT.elim
  | succ n ih =>
    intro S v2 v3 v4 hM hT hk
    unfold T_X6_run_57 at hT
    obtain ⟨h0, h1⟩ := hT
    refine aw_iload hC 4 dX6_run_57 rfl ?_
    refine aw_iload_n hC 3 dX6_run_59 rfl rfl ?_
    refine aw_icmp_gt hC 76 dX6_run_60 (by decide) (fun c1009 => ?_) (fun c1009 => ?_)
    · refine aw_sub [0, 1, 2, 3, 4] rfl ?_
      have E : L_X6_run_57 sc1 (n + 1) S v2 v3 v4 = _ := (if_pos c1009).trans (rfl)
      rw [E] at hk
      exact hk
    · refine aw_aload_n hC 0 dX6_run_63 rfl rfl ?_
      refine aw_aload_n hC 1 dX6_run_64 rfl rfl ?_
      refine aw_iload hC 4 dX6_run_65 rfl ?_
      refine aw_cV2v hC hSt (t_X6_perform G l hM _ _ hsc1 (h0 c1009)) w_559 w_565 w_566 w_567 w_540 rfl rfl (by decide +kernel) ⟨Nat.le_of_ble_eq_true rfl, Nat.le_of_ble_eq_true rfl⟩ (cs_lt 35 6 0 (by decide) hM) (cs_k 35 6 0 (by decide) hM) rfl (Nat.le_of_ble_eq_true rfl) dX6_run_67 ⟨Nat.zero_le _, Nat.zero_le _⟩ ?_
      generalize er1010 : f_X6_perform S 35 sc1 v4 = r1010
      have hM : CS r1010 := CS.of (by rw [← er1010]; exact q_X6_perform _ _ _ _) hM
      refine aw_iinc (v := (v4 + (1 : Int32))) hC 4 [(4, .int _), (0, .ref 35), (1, .ref sc1), (2, .int _), (3, .int _)] dX6_run_70 rfl rfl (by decide) rfl ?_
      refine aw_goto hC 57 dX6_run_73 (by decide) ?_
      refine aw_sub [1, 2, 3, 4, 0] rfl ?_
      have hTn := (h1 c1009 r1010 er1010)
      have hMn : CS r1010 := hM
      have E : L_X6_run_57 sc1 (n + 1) S v2 v3 v4 = _ := (if_neg c1009).trans ((bd_eq er1010).trans (rfl))
      rw [E] at hk
      exact ih _ _ _ _ hMn hTn hk
def f_X6_run (S : HSt) (_o0 : Nat) (sc1 : Nat) (a2 : Int32) : HSt := bd (f_X1_begin S 36) fun r1 => bd ((sI r1 35 2 (-1000000 : Int32))) fun S2 => bd ((sI S2 35 3 (-1000000 : Int32))) fun S3 => bd ((sI S3 35 4 (0 : Int32))) fun S4 => bd ((sJ S4 35 5 (1 : Int64))) fun S5 => bd ((sJ S5 35 6 (1 : Int64))) fun S6 => bd ((sI S6 35 7 (0 : Int32))) fun S7 => bd ((if ((f_X10_howMany S7 (sc1 + 1) (5 : Int32)) - (1 : Int32)) < a2 then ((f_X10_howMany S7 (sc1 + 1) (5 : Int32)) - (1 : Int32)) else a2)) fun x8 => bd (L_X6_run_57 sc1 1000 S7 a2 x8 (0 : Int32)) fun r9 => r9.2.2.2
def p_X6_run (S : HSt) (_o0 : Nat) (sc1 : Nat) (a2 : Int32) : Prop := (∀ r1, f_X1_begin S 36 = r1 → ∀ S2 : HSt, (sI r1 35 2 (-1000000 : Int32)) = S2 → ∀ S3 : HSt, (sI S2 35 3 (-1000000 : Int32)) = S3 → ∀ S4 : HSt, (sI S3 35 4 (0 : Int32)) = S4 → ∀ S5 : HSt, (sJ S4 35 5 (1 : Int64)) = S5 → ∀ S6 : HSt, (sJ S5 35 6 (1 : Int64)) = S6 → ∀ S7 : HSt, (sI S6 35 7 (0 : Int32)) = S7 → p_X10_howMany S7 (sc1 + 1) (5 : Int32)) ∧ (∀ r1, f_X1_begin S 36 = r1 → ∀ S2 : HSt, (sI r1 35 2 (-1000000 : Int32)) = S2 → ∀ S3 : HSt, (sI S2 35 3 (-1000000 : Int32)) = S3 → ∀ S4 : HSt, (sI S3 35 4 (0 : Int32)) = S4 → ∀ S5 : HSt, (sJ S4 35 5 (1 : Int64)) = S5 → ∀ S6 : HSt, (sJ S5 35 6 (1 : Int64)) = S6 → ∀ S7 : HSt, (sI S6 35 7 (0 : Int32)) = S7 → ∀ x8 : Int32, (if ((f_X10_howMany S7 (sc1 + 1) (5 : Int32)) - (1 : Int32)) < a2 then ((f_X10_howMany S7 (sc1 + 1) (5 : Int32)) - (1 : Int32)) else a2) = x8 → T_X6_run_57 sc1 1000 S7 a2 x8 (0 : Int32))
set_option maxRecDepth 100000 in
theorem t_X6_run (G : GG) (l : Launch) {S : HSt} (hM : CS S) (sc1 : Nat) (a2 : Int32) (hsc1 : (sc1, 7, 0) ∈ cKT) (hp : p_X6_run S 35 sc1 a2) : AM G l yX6_run cX6_run 5 none (rmD 6 0 0) 0 0 [.ref 35, .ref sc1, .int a2] S (FP none (f_X6_run S 35 sc1 a2)) := by
  obtain ⟨h0, h1⟩ := hp
  refine AM.mk (by decide) (Nat.le_of_ble_eq_true rfl) ?_
  intro p e s m below meth c hC hSt _
  refine aw_aload_n hC 0 dX6_run_0 rfl rfl ?_
  refine aw_getP (b := 36) hC hSt 0 (cs_lt 35 6 0 (by decide) hM) (cs_k 35 6 0 (by decide) hM) rfl (by decide) w_493 rfl (cs_p 35 0 36 (by decide) hM) dX6_run_1 ?_
  refine aw_cV0v hC hSt (t_X1_begin G l hM _ (by decide)) w_79 w_561 w_562 w_563 w_84 rfl rfl (by decide +kernel) ⟨Nat.le_of_ble_eq_true rfl, Nat.le_of_ble_eq_true rfl⟩ (cs_lt 36 1 0 (by decide) hM) (cs_k 36 1 0 (by decide) hM) rfl (Nat.le_of_ble_eq_true rfl) dX6_run_4 ⟨Nat.zero_le _, Nat.zero_le _⟩ ?_
  generalize er1 : f_X1_begin S 36 = r1
  have hM : CS r1 := CS.of (by rw [← er1]; exact q_X1_begin _ _) hM
  refine aw_aload_n hC 0 dX6_run_7 rfl rfl ?_
  refine aw_ldc (v := -1000000) hC w_543 dX6_run_8 ?_
  refine aw_putI hC hSt 2 (cs_lt 35 6 0 (by decide) hM) (cs_k 35 6 0 (by decide) hM) rfl (by decide) w_525 rfl rfl rfl rfl dX6_run_10 ?_
  generalize eS2 : (sI r1 35 2 (-1000000 : Int32)) = S2
  have hM : CS S2 := CS.of (by rw [← eS2]; exact shp_sI _ _ _ _) hM
  refine aw_aload_n hC 0 dX6_run_13 rfl rfl ?_
  refine aw_ldc (v := -1000000) hC w_543 dX6_run_14 ?_
  refine aw_putI hC hSt 3 (cs_lt 35 6 0 (by decide) hM) (cs_k 35 6 0 (by decide) hM) rfl (by decide) w_544 rfl rfl rfl rfl dX6_run_16 ?_
  generalize eS3 : (sI S2 35 3 (-1000000 : Int32)) = S3
  have hM : CS S3 := CS.of (by rw [← eS3]; exact shp_sI _ _ _ _) hM
  refine aw_aload_n hC 0 dX6_run_19 rfl rfl ?_
  refine aw_iconst (v := 0) hC dX6_run_20 (by decide) ?_
  refine aw_putI hC hSt 4 (cs_lt 35 6 0 (by decide) hM) (cs_k 35 6 0 (by decide) hM) rfl (by decide) w_526 rfl rfl rfl rfl dX6_run_21 ?_
  generalize eS4 : (sI S3 35 4 (0 : Int32)) = S4
  have hM : CS S4 := CS.of (by rw [← eS4]; exact shp_sI _ _ _ _) hM
  refine aw_aload_n hC 0 dX6_run_24 rfl rfl ?_
  refine aw_lconst (v := 1) hC dX6_run_25 (by decide) ?_
  refine aw_putJ hC hSt 5 (cs_lt 35 6 0 (by decide) hM) (cs_k 35 6 0 (by decide) hM) rfl (by decide) w_520 rfl rfl rfl rfl dX6_run_26 ?_
  generalize eS5 : (sJ S4 35 5 (1 : Int64)) = S5
  have hM : CS S5 := CS.of (by rw [← eS5]; exact shp_sJ _ _ _ _) hM
  refine aw_aload_n hC 0 dX6_run_29 rfl rfl ?_
  refine aw_lconst (v := 1) hC dX6_run_30 (by decide) ?_
  refine aw_putJ hC hSt 6 (cs_lt 35 6 0 (by decide) hM) (cs_k 35 6 0 (by decide) hM) rfl (by decide) w_521 rfl rfl rfl rfl dX6_run_31 ?_
  generalize eS6 : (sJ S5 35 6 (1 : Int64)) = S6
  have hM : CS S6 := CS.of (by rw [← eS6]; exact shp_sJ _ _ _ _) hM
  refine aw_aload_n hC 0 dX6_run_34 rfl rfl ?_
  refine aw_iconst (v := 0) hC dX6_run_35 (by decide) ?_
  refine aw_putI hC hSt 7 (cs_lt 35 6 0 (by decide) hM) (cs_k 35 6 0 (by decide) hM) rfl (by decide) w_519 rfl rfl (by decide) (by decide) dX6_run_36 ?_
  generalize eS7 : (sI S6 35 7 (0 : Int32)) = S7
  have hM : CS S7 := CS.of (by rw [← eS7]; exact shp_sI _ _ _ _) hM
  refine aw_iload_n hC 2 dX6_run_39 rfl rfl ?_
  refine aw_aload_n hC 1 dX6_run_40 rfl rfl ?_
  refine aw_getP (b := (sc1 + 1)) hC hSt 0 (cs_lt sc1 7 0 hsc1 hM) (cs_k sc1 7 0 hsc1 hM) rfl (by decide) w_499 rfl (cs_p sc1 0 (sc1 + 1) (sc_pway hsc1) hM) dX6_run_41 ?_
  refine aw_iconst (v := 5) hC dX6_run_44 (by decide) ?_
  refine aw_cV1r hC hSt (t_X10_howMany G l hM _ _ (sc_way hsc1) (h0 r1 er1 S2 eS2 S3 eS3 S4 eS4 S5 eS5 S6 eS6 S7 eS7)) w_152 w_564 w_237 w_238 w_18 rfl rfl (by decide +kernel) ⟨Nat.le_of_ble_eq_true rfl, Nat.le_of_ble_eq_true rfl⟩ (cs_lt (sc1 + 1) 10 0 (sc_way hsc1) hM) (cs_k (sc1 + 1) 10 0 (sc_way hsc1) hM) rfl (Nat.le_of_ble_eq_true rfl) dX6_run_45 ⟨Nat.zero_le _, Nat.zero_le _⟩ ?_
  refine aw_iconst (v := 1) hC dX6_run_48 (by decide) ?_
  refine aw_isub hC dX6_run_49 ?_
  refine aw_min hC w_560 w_95 w_92 w_96 (by decide) (Nat.le_of_ble_eq_true rfl) (by decide) (by decide) dX6_run_50 ?_
  refine aw_istore_n hC [(3, .int _), (0, .ref 35), (1, .ref sc1), (2, .int _)] dX6_run_53 rfl (by decide) rfl ?_
  generalize ex8 : (if ((f_X10_howMany S7 (sc1 + 1) (5 : Int32)) - (1 : Int32)) < a2 then ((f_X10_howMany S7 (sc1 + 1) (5 : Int32)) - (1 : Int32)) else a2) = x8
  refine aw_iconst (v := 0) hC dX6_run_54 (by decide) ?_
  refine aw_istore hC [(4, .int _), (3, .int _), (0, .ref 35), (1, .ref sc1), (2, .int _)] dX6_run_55 (by decide) rfl ?_
  refine aw_sub [2, 3, 4, 1, 0] rfl ?_
  refine l_X6_run_57 hC hSt hsc1 1000 _ _ _ _ hM (h1 r1 er1 S2 eS2 S3 eS3 S4 eS4 S5 eS5 S6 eS6 S7 eS7 x8 ex8) ?_
  generalize er9 : L_X6_run_57 sc1 1000 S7 a2 x8 (0 : Int32) = r9
  have hM : CS r9.2.2.2 := CS.of (by rw [← er9]; exact qL_X6_run_57 sc1 _ _ _ _ _) hM
  refine aw_vret hC dX6_run_76 (Nat.le_refl _) (Nat.le_refl _) ?_
  exact FP.qV ((bd_eq er1).trans ((bd_eq eS2).trans ((bd_eq eS3).trans ((bd_eq eS4).trans ((bd_eq eS5).trans ((bd_eq eS6).trans ((bd_eq eS7).trans ((bd_eq ex8).trans ((bd_eq er9).trans (rfl))))))))))
theorem q_X6_run (S : HSt) (_o0 : Nat) (sc1 : Nat) (a2 : Int32) : shp (f_X6_run S _o0 sc1 a2) = shp S := by
  unfold f_X6_run
  repeat' (first | with_reducible rfl | with_reducible refine (q_X1_begin _ _).trans ?_ | with_reducible refine (q_X6_perform _ _ _ _).trans ?_ | with_reducible refine (qL_X6_run_57 sc1 _ _ _ _ _).trans ?_ | with_reducible refine (shp_sI _ _ _ _).trans ?_ | with_reducible refine (shp_sJ _ _ _ _).trans ?_ | with_reducible refine shi ?_ ?_ | with_reducible refine shb (fun _ _ => ?_) | (subst_vars; with_reducible rfl) | (subst_vars; with_reducible refine (q_X1_begin _ _).trans ?_) | (subst_vars; with_reducible refine (q_X6_perform _ _ _ _).trans ?_) | (subst_vars; with_reducible refine (qL_X6_run_57 sc1 _ _ _ _ _).trans ?_) | (subst_vars; with_reducible refine (shp_sI _ _ _ _).trans ?_) | (subst_vars; with_reducible refine (shp_sJ _ _ _ _).trans ?_) | (subst_vars; with_reducible refine shi ?_ ?_) | (subst_vars; with_reducible refine shb (fun _ _ => ?_)))
def L_X4_append_29 : Nat → HSt → Int64 → Int32 → Int32 → Int64 × Int32 × Int32 × HSt
  | 0, S, v1, v3, v4 => (v1, v3, v4, S)
  | n + 1, S, v1, v3, v4 =>
    if v4 < 0 then ((pr (v1) (pr (v3) (pr (v4) (S))))) else (bd ((sI S 14 (gI S 13 2).toNatClampNeg (vp_nar .byte ((v1.toUInt64 >>> (((8 : Int32) * v4).toInt64.toUInt64 &&& Int64.toUInt64 63)).toInt64).toInt32.toInt8.toInt32))) fun S1006 => bd ((sI S1006 13 2 ((gI S1006 13 2) + (1 : Int32)))) fun S1007 => L_X4_append_29 n S1007 v1 v3 (v4 + (-1 : Int32)))
def T_X4_append_29 : Nat → HSt → Int64 → Int32 → Int32 → Prop
  | 0, _, _, _, _ => False
  | n + 1, S, v1, v3, v4 => ((¬ v4 < 0) → vp_in (gI S 13 2) 600) ∧ ((¬ v4 < 0) → ∀ S1006 : HSt, (sI S 14 (gI S 13 2).toNatClampNeg (vp_nar .byte ((v1.toUInt64 >>> (((8 : Int32) * v4).toInt64.toUInt64 &&& Int64.toUInt64 63)).toInt64).toInt32.toInt8.toInt32)) = S1006 → ∀ S1007 : HSt, (sI S1006 13 2 ((gI S1006 13 2) + (1 : Int32))) = S1007 → T_X4_append_29 n S1007 v1 v3 (v4 + (-1 : Int32)))
theorem qL_X4_append_29 : ∀ (n : Nat) (S : HSt) (v1 : Int64) (v3 : Int32) (v4 : Int32), shp (L_X4_append_29 n S v1 v3 v4).2.2.2 = shp S := by
  intro n
  induction n with
  | zero => intros; rfl
  | succ n ih =>
    intro S v1 v3 v4
    unfold L_X4_append_29
    repeat' (first | with_reducible refine shpr3 ?_ | with_reducible rfl | with_reducible refine (ih _ _ _ _).trans ?_ | with_reducible refine (shp_sI _ _ _ _).trans ?_ | with_reducible refine (shp_sJ _ _ _ _).trans ?_ | with_reducible refine shi ?_ ?_ | with_reducible refine shb (fun _ _ => ?_) | with_reducible refine shiP (fun q : Int64 × Int32 × Int32 × HSt => q.2.2.2) ?_ ?_ | with_reducible refine shbP (fun q : Int64 × Int32 × Int32 × HSt => q.2.2.2) (fun _ _ => ?_) | (subst_vars; with_reducible rfl) | (subst_vars; with_reducible refine (ih _ _ _ _).trans ?_) | (subst_vars; with_reducible refine (shp_sI _ _ _ _).trans ?_) | (subst_vars; with_reducible refine (shp_sJ _ _ _ _).trans ?_) | (subst_vars; with_reducible refine shi ?_ ?_) | (subst_vars; with_reducible refine shb (fun _ _ => ?_)))
set_option maxRecDepth 100000 in
theorem l_X4_append_29 {p : Program} {l : Launch} {e : Env} {s : State} {m : MethodId} {args : Array Value} {below : List Frame} {meth : Method} {c : Code} {G : GG} {Q : State → Prop} (hC : ACx p s m args meth c cX4_append RX4 5 (some .boolean)) (hSt : St G s)   : ∀ (n : Nat) (S : HSt) (v1 : Int64) (v3 : Int32) (v4 : Int32), CS S → T_X4_append_29 n S v1 v3 v4 → AW p l e (rmD 0 0 0) s m args below meth c G 5 Q (L_X4_append_29 n S v1 v3 v4).2.2.2 0 0 68 [(0, .ref 13), (1, .long (L_X4_append_29 n S v1 v3 v4).1), (3, .int (L_X4_append_29 n S v1 v3 v4).2.1), (4, .int (L_X4_append_29 n S v1 v3 v4).2.2.1)] [] → AW p l e (rmD 0 0 0) s m args below meth c G 5 Q S 0 0 29 [(0, .ref 13), (1, .long v1), (3, .int v3), (4, .int v4)] [] := by
  intro n
  induction n with
  | zero => intro S v1 v3 v4 _ hT; exact hT.elim
  | succ n ih =>
    intro S v1 v3 v4 hM hT hk
    unfold T_X4_append_29 at hT
    obtain ⟨h0, h1⟩ := hT
    refine aw_iload hC 3 dX4_append_29 rfl ?_
    refine aw_if_lt hC 68 dX4_append_31 (by decide) (fun c1005 => ?_) (fun c1005 => ?_)
    · refine aw_sub [0, 1, 2, 3] rfl ?_
      have E : L_X4_append_29 (n + 1) S v1 v3 v4 = _ := (if_pos c1005).trans (rfl)
      rw [E] at hk
      exact hk
    · refine aw_aload_n hC 0 dX4_append_34 rfl rfl ?_
      refine aw_getP (b := 14) hC hSt 0 (cs_lt 13 4 0 (by decide) hM) (cs_k 13 4 0 (by decide) hM) rfl (by decide) w_322 rfl (cs_p 13 0 14 (by decide) hM) dX4_append_35 ?_
      refine aw_aload_n hC 0 dX4_append_38 rfl rfl ?_
      refine aw_getI hC hSt 2 (cs_lt 13 4 0 (by decide) hM) (cs_k 13 4 0 (by decide) hM) rfl (by decide) w_328 rfl dX4_append_39 ?_
      refine aw_lload_n hC 1 dX4_append_42 rfl rfl ?_
      refine aw_bipush (v := 8) hC dX4_append_43 (by decide) ?_
      refine aw_iload hC 3 dX4_append_45 rfl ?_
      refine aw_imul hC dX4_append_47 ?_
      refine aw_lushr hC dX4_append_48 ?_
      refine aw_l2i hC dX4_append_49 ?_
      refine aw_i2b hC dX4_append_50 ?_
      refine aw_bast hC hSt (cs_lt 14 13 600 (by decide) hM) (cs_k 14 13 600 (by decide) hM) (vp_len (n := 600) (cs_l 14 13 600 (by decide) hM) (h0 c1005)) dX4_append_51 ?_
      generalize eS1006 : (sI S 14 (gI S 13 2).toNatClampNeg (vp_nar .byte ((v1.toUInt64 >>> (((8 : Int32) * v4).toInt64.toUInt64 &&& Int64.toUInt64 63)).toInt64).toInt32.toInt8.toInt32)) = S1006
      have hM : CS S1006 := CS.of (by rw [← eS1006]; exact shp_sI _ _ _ _) hM
      refine aw_aload_n hC 0 dX4_append_52 rfl rfl ?_
      refine aw_dup hC dX4_append_53 rfl ?_
      refine aw_getI hC hSt 2 (cs_lt 13 4 0 (by decide) hM) (cs_k 13 4 0 (by decide) hM) rfl (by decide) w_328 rfl dX4_append_54 ?_
      refine aw_iconst (v := 1) hC dX4_append_57 (by decide) ?_
      refine aw_iadd hC dX4_append_58 ?_
      refine aw_putI hC hSt 2 (cs_lt 13 4 0 (by decide) hM) (cs_k 13 4 0 (by decide) hM) rfl (by decide) w_328 rfl rfl rfl rfl dX4_append_59 ?_
      generalize eS1007 : (sI S1006 13 2 ((gI S1006 13 2) + (1 : Int32))) = S1007
      have hM : CS S1007 := CS.of (by rw [← eS1007]; exact shp_sI _ _ _ _) hM
      refine aw_iinc (v := (v4 + (-1 : Int32))) hC 3 [(4, .int _), (0, .ref 13), (1, .long _), (3, .int _)] dX4_append_62 rfl rfl (by decide) rfl ?_
      refine aw_goto hC 29 dX4_append_65 (by decide) ?_
      refine aw_sub [1, 2, 3, 0] rfl ?_
      have hTn := (h1 c1005 S1006 eS1006 S1007 eS1007)
      have hMn : CS S1007 := hM
      have E : L_X4_append_29 (n + 1) S v1 v3 v4 = _ := (if_neg c1005).trans ((bd_eq eS1006).trans ((bd_eq eS1007).trans (rfl)))
      rw [E] at hk
      exact ih _ _ _ _ hMn hTn hk
def f_X4_append (S : HSt) (_o0 : Nat) (a1 : Int64) (a2 : Int32) : Int32 × HSt := if a2 < 0 then (pr ((0 : Int32)) (S)) else (if (8 : Int32) < a2 then (pr ((0 : Int32)) (S)) else (if (gI S 13 2) ≤ ((600 : Int32) - a2) then (bd ((a2 - (1 : Int32))) fun x4 => bd (L_X4_append_29 1000 S a1 a2 x4) fun r5 => pr ((1 : Int32)) (r5.2.2.2)) else (pr ((0 : Int32)) (S))))
def p_X4_append (S : HSt) (_o0 : Nat) (a1 : Int64) (a2 : Int32) : Prop := ((¬ a2 < 0) → (¬ (8 : Int32) < a2) → ((gI S 13 2) ≤ ((600 : Int32) - a2)) → ∀ x4 : Int32, (a2 - (1 : Int32)) = x4 → T_X4_append_29 1000 S a1 a2 x4)
set_option maxRecDepth 100000 in
theorem t_X4_append (G : GG) (l : Launch) {S : HSt} (hM : CS S) (a1 : Int64) (a2 : Int32)  (hp : p_X4_append S 13 a1 a2) : AM G l yX4_append cX4_append 5 (some .boolean) (rmD 0 0 0) 0 0 [.ref 13, .long a1, .int a2] S (FP (some (.int (f_X4_append S 13 a1 a2).1)) ((f_X4_append S 13 a1 a2).2)) := by
  have h0 := hp
  unfold p_X4_append at h0
  refine AM.mk (by decide) (Nat.le_of_ble_eq_true rfl) ?_
  intro p e s m below meth c hC hSt _
  refine aw_iload_n hC 2 dX4_append_0 rfl rfl ?_
  refine aw_if_lt hC 22 dX4_append_1 (by decide) (fun c1 => ?_) (fun c1 => ?_)
  · refine aw_iconst (v := 0) hC dX4_append_22 (by decide) ?_
    refine aw_zret hC dX4_append_23 (Nat.le_refl _) (Nat.le_refl _) (by decide) ?_
    exact FP.qI ((if_pos c1).trans (rfl))
  · refine aw_iload_n hC 2 dX4_append_4 rfl rfl ?_
    refine aw_bipush (v := 8) hC dX4_append_5 (by decide) ?_
    refine aw_icmp_gt hC 22 dX4_append_7 (by decide) (fun c2 => ?_) (fun c2 => ?_)
    · refine aw_iconst (v := 0) hC dX4_append_22 (by decide) ?_
      refine aw_zret hC dX4_append_23 (Nat.le_refl _) (Nat.le_refl _) (by decide) ?_
      exact FP.qI ((if_neg c1).trans ((if_pos c2).trans (rfl)))
    · refine aw_aload_n hC 0 dX4_append_10 rfl rfl ?_
      refine aw_getI hC hSt 2 (cs_lt 13 4 0 (by decide) hM) (cs_k 13 4 0 (by decide) hM) rfl (by decide) w_328 rfl dX4_append_11 ?_
      refine aw_sipush (v := 600) hC dX4_append_14 (by decide) ?_
      refine aw_iload_n hC 2 dX4_append_17 rfl rfl ?_
      refine aw_isub hC dX4_append_18 ?_
      refine aw_icmp_le hC 24 dX4_append_19 (by decide) (fun c3 => ?_) (fun c3 => ?_)
      · refine aw_iload_n hC 2 dX4_append_24 rfl rfl ?_
        refine aw_iconst (v := 1) hC dX4_append_25 (by decide) ?_
        refine aw_isub hC dX4_append_26 ?_
        refine aw_istore hC [(4, .int _), (0, .ref 13), (1, .long _), (3, .int _)] dX4_append_27 (by decide) rfl ?_
        generalize ex4 : (a2 - (1 : Int32)) = x4
        refine aw_sub [1, 2, 3, 0] rfl ?_
        refine l_X4_append_29 hC hSt 1000 _ _ _ _ hM (h0 c1 c2 c3 x4 ex4) ?_
        generalize er5 : L_X4_append_29 1000 S a1 a2 x4 = r5
        have hM : CS r5.2.2.2 := CS.of (by rw [← er5]; exact qL_X4_append_29 _ _ _ _ _) hM
        refine aw_iconst (v := 1) hC dX4_append_68 (by decide) ?_
        refine aw_zret hC dX4_append_69 (Nat.le_refl _) (Nat.le_refl _) (by decide) ?_
        exact FP.qI ((if_neg c1).trans ((if_neg c2).trans ((if_pos c3).trans ((bd_eq ex4).trans ((bd_eq er5).trans (rfl))))))
      · refine aw_iconst (v := 0) hC dX4_append_22 (by decide) ?_
        refine aw_zret hC dX4_append_23 (Nat.le_refl _) (Nat.le_refl _) (by decide) ?_
        exact FP.qI ((if_neg c1).trans ((if_neg c2).trans ((if_neg c3).trans (rfl))))
theorem q_X4_append (S : HSt) (_o0 : Nat) (a1 : Int64) (a2 : Int32) : shp ((f_X4_append S _o0 a1 a2).2) = shp S := by
  unfold f_X4_append
  repeat' (first | with_reducible refine shpr1 ?_ | with_reducible rfl | with_reducible refine (qL_X4_append_29 _ _ _ _ _).trans ?_ | with_reducible refine (shp_sI _ _ _ _).trans ?_ | with_reducible refine (shp_sJ _ _ _ _).trans ?_ | with_reducible refine shi ?_ ?_ | with_reducible refine shb (fun _ _ => ?_) | with_reducible refine shiP (fun q : Int32 × HSt => q.2) ?_ ?_ | with_reducible refine shbP (fun q : Int32 × HSt => q.2) (fun _ _ => ?_) | (subst_vars; with_reducible rfl) | (subst_vars; with_reducible refine (qL_X4_append_29 _ _ _ _ _).trans ?_) | (subst_vars; with_reducible refine (shp_sI _ _ _ _).trans ?_) | (subst_vars; with_reducible refine (shp_sJ _ _ _ _).trans ?_) | (subst_vars; with_reducible refine shi ?_ ?_) | (subst_vars; with_reducible refine shb (fun _ _ => ?_)))
def F_X4_bytes (S : HSt) (_o0 : Nat) : Int32 × HSt := pr ((gI S 13 2)) (S)
def f_X4_bytes (S : HSt) (_o0 : Nat) : Int32 := (F_X4_bytes S _o0).1
set_option maxRecDepth 100000 in
theorem t_X4_bytes (G : GG) (l : Launch) {S : HSt} (hM : CS S)    : AM G l yX4_bytes cX4_bytes 1 (some .int) (rmD 0 0 0) 0 0 [.ref 13] S (FP (some (.int (f_X4_bytes S 13))) (S)) := by
  refine AM.mk (by decide) (Nat.le_of_ble_eq_true rfl) ?_
  intro p e s m below meth c hC hSt _
  refine aw_aload_n hC 0 dX4_bytes_0 rfl rfl ?_
  refine aw_getI hC hSt 2 (cs_lt 13 4 0 (by decide) hM) (cs_k 13 4 0 (by decide) hM) rfl (by decide) w_328 rfl dX4_bytes_1 ?_
  refine aw_iret hC dX4_bytes_4 (Nat.le_refl _) (Nat.le_refl _) ?_
  exact FP.pI (rfl)
def F_X4_latestFault (S : HSt) (_o0 : Nat) : Int32 × HSt := pr ((gI S 13 7)) (S)
def f_X4_latestFault (S : HSt) (_o0 : Nat) : Int32 := (F_X4_latestFault S _o0).1
set_option maxRecDepth 100000 in
theorem t_X4_latestFault (G : GG) (l : Launch) {S : HSt} (hM : CS S)    : AM G l yX4_latestFault cX4_latestFault 1 (some .int) (rmD 0 0 0) 0 0 [.ref 13] S (FP (some (.int (f_X4_latestFault S 13))) (S)) := by
  refine AM.mk (by decide) (Nat.le_of_ble_eq_true rfl) ?_
  intro p e s m below meth c hC hSt _
  refine aw_aload_n hC 0 dX4_latestFault_0 rfl rfl ?_
  refine aw_getI hC hSt 7 (cs_lt 13 4 0 (by decide) hM) (cs_k 13 4 0 (by decide) hM) rfl (by decide) w_331 rfl dX4_latestFault_1 ?_
  refine aw_iret hC dX4_latestFault_4 (Nat.le_refl _) (Nat.le_refl _) ?_
  exact FP.pI (rfl)
def F_X4_faultPlace (S : HSt) (_o0 : Nat) : Int32 × HSt := pr ((gI S 13 8)) (S)
def f_X4_faultPlace (S : HSt) (_o0 : Nat) : Int32 := (F_X4_faultPlace S _o0).1
set_option maxRecDepth 100000 in
theorem t_X4_faultPlace (G : GG) (l : Launch) {S : HSt} (hM : CS S)    : AM G l yX4_faultPlace cX4_faultPlace 1 (some .int) (rmD 0 0 0) 0 0 [.ref 13] S (FP (some (.int (f_X4_faultPlace S 13))) (S)) := by
  refine AM.mk (by decide) (Nat.le_of_ble_eq_true rfl) ?_
  intro p e s m below meth c hC hSt _
  refine aw_aload_n hC 0 dX4_faultPlace_0 rfl rfl ?_
  refine aw_getI hC hSt 8 (cs_lt 13 4 0 (by decide) hM) (cs_k 13 4 0 (by decide) hM) rfl (by decide) w_333 rfl dX4_faultPlace_1 ?_
  refine aw_iret hC dX4_faultPlace_4 (Nat.le_refl _) (Nat.le_refl _) ?_
  exact FP.pI (rfl)
def F_X4_isLetter (S : HSt) (_o0 : Nat) (a1 : Int32) : Int32 × HSt := bd ((if a1 < 0 then (0 : Int32) else (if (gI S 13 2) ≤ a1 then (0 : Int32) else (if (gI S 14 a1.toNatClampNeg) < (97 : Int32) then (0 : Int32) else (if (122 : Int32) < (gI S 14 a1.toNatClampNeg) then (0 : Int32) else (1 : Int32)))))) fun x5 => pr (x5) (S)
def f_X4_isLetter (S : HSt) (_o0 : Nat) (a1 : Int32) : Int32 := (F_X4_isLetter S _o0 a1).1
def p_X4_isLetter (S : HSt) (_o0 : Nat) (a1 : Int32) : Prop := ((¬ a1 < 0) → (¬ (gI S 13 2) ≤ a1) → vp_in a1 600) ∧ ((¬ a1 < 0) → (¬ (gI S 13 2) ≤ a1) → (¬ (gI S 14 a1.toNatClampNeg) < (97 : Int32)) → vp_in a1 600)
set_option maxRecDepth 100000 in
theorem t_X4_isLetter (G : GG) (l : Launch) {S : HSt} (hM : CS S) (a1 : Int32)  (hp : p_X4_isLetter S 13 a1) : AM G l yX4_isLetter cX4_isLetter 2 (some .boolean) (rmD 0 0 0) 0 0 [.ref 13, .int a1] S (FP (some (.int (f_X4_isLetter S 13 a1))) (S)) := by
  obtain ⟨h0, h1⟩ := hp
  refine AM.mk (by decide) (Nat.le_of_ble_eq_true rfl) ?_
  intro p e s m below meth c hC hSt _
  refine aw_iload_n hC 1 dX4_isLetter_0 rfl rfl ?_
  refine aw_cut (S' := S) (pc' := 39) (lv' := [(0, .ref 13), (1, .int a1)]) (st' := [.int (if a1 < 0 then (0 : Int32) else (if (gI S 13 2) ≤ a1 then (0 : Int32) else (if (gI S 14 a1.toNatClampNeg) < (97 : Int32) then (0 : Int32) else (if (122 : Int32) < (gI S 14 a1.toNatClampNeg) then (0 : Int32) else (1 : Int32)))))]) ?_ (fun Jc1 => ?_)
  · generalize ex5 : (if a1 < 0 then (0 : Int32) else (if (gI S 13 2) ≤ a1 then (0 : Int32) else (if (gI S 14 a1.toNatClampNeg) < (97 : Int32) then (0 : Int32) else (if (122 : Int32) < (gI S 14 a1.toNatClampNeg) then (0 : Int32) else (1 : Int32))))) = x5
    refine aw_zret hC dX4_isLetter_39 (Nat.le_refl _) (Nat.le_refl _) (Bz.n (ex5 ▸ (Bz.ite (Or.inl rfl) (Bz.ite (Or.inl rfl) (Bz.ite (Or.inl rfl) (Bz.ite (Or.inl rfl) (Or.inr rfl))))))) ?_
    exact FP.pI ((bd_eq ex5).trans (rfl))
  · refine aw_if_lt hC 38 dX4_isLetter_1 (by decide) (fun c1 => ?_) (fun c1 => ?_)
    · refine aw_iconst (v := 0) hC dX4_isLetter_38 (by decide) ?_
      simp only [bd_def, if_pos c1] at Jc1 ⊢
      exact Jc1
    · refine aw_iload_n hC 1 dX4_isLetter_4 rfl rfl ?_
      refine aw_aload_n hC 0 dX4_isLetter_5 rfl rfl ?_
      refine aw_getI hC hSt 2 (cs_lt 13 4 0 (by decide) hM) (cs_k 13 4 0 (by decide) hM) rfl (by decide) w_328 rfl dX4_isLetter_6 ?_
      refine aw_icmp_ge hC 38 dX4_isLetter_9 (by decide) (fun c2 => ?_) (fun c2 => ?_)
      · refine aw_iconst (v := 0) hC dX4_isLetter_38 (by decide) ?_
        simp only [bd_def, if_neg c1, if_pos c2] at Jc1 ⊢
        exact Jc1
      · refine aw_aload_n hC 0 dX4_isLetter_12 rfl rfl ?_
        refine aw_getP (b := 14) hC hSt 0 (cs_lt 13 4 0 (by decide) hM) (cs_k 13 4 0 (by decide) hM) rfl (by decide) w_322 rfl (cs_p 13 0 14 (by decide) hM) dX4_isLetter_13 ?_
        refine aw_iload_n hC 1 dX4_isLetter_16 rfl rfl ?_
        refine aw_bald hC hSt (cs_lt 14 13 600 (by decide) hM) (cs_k 14 13 600 (by decide) hM) (vp_len (n := 600) (cs_l 14 13 600 (by decide) hM) (h0 c1 c2)) dX4_isLetter_17 ?_
        refine aw_bipush (v := 97) hC dX4_isLetter_18 (by decide) ?_
        refine aw_icmp_lt hC 38 dX4_isLetter_20 (by decide) (fun c3 => ?_) (fun c3 => ?_)
        · refine aw_iconst (v := 0) hC dX4_isLetter_38 (by decide) ?_
          simp only [bd_def, if_neg c1, if_neg c2, if_pos c3] at Jc1 ⊢
          exact Jc1
        · refine aw_aload_n hC 0 dX4_isLetter_23 rfl rfl ?_
          refine aw_getP (b := 14) hC hSt 0 (cs_lt 13 4 0 (by decide) hM) (cs_k 13 4 0 (by decide) hM) rfl (by decide) w_322 rfl (cs_p 13 0 14 (by decide) hM) dX4_isLetter_24 ?_
          refine aw_iload_n hC 1 dX4_isLetter_27 rfl rfl ?_
          refine aw_bald hC hSt (cs_lt 14 13 600 (by decide) hM) (cs_k 14 13 600 (by decide) hM) (vp_len (n := 600) (cs_l 14 13 600 (by decide) hM) (h1 c1 c2 c3)) dX4_isLetter_28 ?_
          refine aw_bipush (v := 122) hC dX4_isLetter_29 (by decide) ?_
          refine aw_icmp_gt hC 38 dX4_isLetter_31 (by decide) (fun c4 => ?_) (fun c4 => ?_)
          · refine aw_iconst (v := 0) hC dX4_isLetter_38 (by decide) ?_
            simp only [bd_def, if_neg c1, if_neg c2, if_neg c3, if_pos c4] at Jc1 ⊢
            exact Jc1
          · refine aw_iconst (v := 1) hC dX4_isLetter_34 (by decide) ?_
            refine aw_goto hC 39 dX4_isLetter_35 (by decide) ?_
            simp only [bd_def, if_neg c1, if_neg c2, if_neg c3, if_neg c4] at Jc1 ⊢
            exact Jc1
theorem b_X4_isLetter (S : HSt) (_o0 : Nat) (a1 : Int32) : Bz (f_X4_isLetter S _o0 a1) := by
  unfold f_X4_isLetter F_X4_isLetter
  (try dsimp only [bd])
  (repeat' split) <;> first | exact Or.inl rfl | exact Or.inr rfl
def F_X4_isFigure (S : HSt) (_o0 : Nat) (a1 : Int32) : Int32 × HSt := bd ((if a1 < 0 then (0 : Int32) else (if (gI S 13 2) ≤ a1 then (0 : Int32) else (if (gI S 14 a1.toNatClampNeg) < (48 : Int32) then (0 : Int32) else (if (57 : Int32) < (gI S 14 a1.toNatClampNeg) then (0 : Int32) else (1 : Int32)))))) fun x5 => pr (x5) (S)
def f_X4_isFigure (S : HSt) (_o0 : Nat) (a1 : Int32) : Int32 := (F_X4_isFigure S _o0 a1).1
def p_X4_isFigure (S : HSt) (_o0 : Nat) (a1 : Int32) : Prop := ((¬ a1 < 0) → (¬ (gI S 13 2) ≤ a1) → vp_in a1 600) ∧ ((¬ a1 < 0) → (¬ (gI S 13 2) ≤ a1) → (¬ (gI S 14 a1.toNatClampNeg) < (48 : Int32)) → vp_in a1 600)
set_option maxRecDepth 100000 in
theorem t_X4_isFigure (G : GG) (l : Launch) {S : HSt} (hM : CS S) (a1 : Int32)  (hp : p_X4_isFigure S 13 a1) : AM G l yX4_isFigure cX4_isFigure 2 (some .boolean) (rmD 0 0 0) 0 0 [.ref 13, .int a1] S (FP (some (.int (f_X4_isFigure S 13 a1))) (S)) := by
  obtain ⟨h0, h1⟩ := hp
  refine AM.mk (by decide) (Nat.le_of_ble_eq_true rfl) ?_
  intro p e s m below meth c hC hSt _
  refine aw_iload_n hC 1 dX4_isFigure_0 rfl rfl ?_
  refine aw_cut (S' := S) (pc' := 39) (lv' := [(0, .ref 13), (1, .int a1)]) (st' := [.int (if a1 < 0 then (0 : Int32) else (if (gI S 13 2) ≤ a1 then (0 : Int32) else (if (gI S 14 a1.toNatClampNeg) < (48 : Int32) then (0 : Int32) else (if (57 : Int32) < (gI S 14 a1.toNatClampNeg) then (0 : Int32) else (1 : Int32)))))]) ?_ (fun Jc1 => ?_)
  · generalize ex5 : (if a1 < 0 then (0 : Int32) else (if (gI S 13 2) ≤ a1 then (0 : Int32) else (if (gI S 14 a1.toNatClampNeg) < (48 : Int32) then (0 : Int32) else (if (57 : Int32) < (gI S 14 a1.toNatClampNeg) then (0 : Int32) else (1 : Int32))))) = x5
    refine aw_zret hC dX4_isFigure_39 (Nat.le_refl _) (Nat.le_refl _) (Bz.n (ex5 ▸ (Bz.ite (Or.inl rfl) (Bz.ite (Or.inl rfl) (Bz.ite (Or.inl rfl) (Bz.ite (Or.inl rfl) (Or.inr rfl))))))) ?_
    exact FP.pI ((bd_eq ex5).trans (rfl))
  · refine aw_if_lt hC 38 dX4_isFigure_1 (by decide) (fun c1 => ?_) (fun c1 => ?_)
    · refine aw_iconst (v := 0) hC dX4_isFigure_38 (by decide) ?_
      simp only [bd_def, if_pos c1] at Jc1 ⊢
      exact Jc1
    · refine aw_iload_n hC 1 dX4_isFigure_4 rfl rfl ?_
      refine aw_aload_n hC 0 dX4_isFigure_5 rfl rfl ?_
      refine aw_getI hC hSt 2 (cs_lt 13 4 0 (by decide) hM) (cs_k 13 4 0 (by decide) hM) rfl (by decide) w_328 rfl dX4_isFigure_6 ?_
      refine aw_icmp_ge hC 38 dX4_isFigure_9 (by decide) (fun c2 => ?_) (fun c2 => ?_)
      · refine aw_iconst (v := 0) hC dX4_isFigure_38 (by decide) ?_
        simp only [bd_def, if_neg c1, if_pos c2] at Jc1 ⊢
        exact Jc1
      · refine aw_aload_n hC 0 dX4_isFigure_12 rfl rfl ?_
        refine aw_getP (b := 14) hC hSt 0 (cs_lt 13 4 0 (by decide) hM) (cs_k 13 4 0 (by decide) hM) rfl (by decide) w_322 rfl (cs_p 13 0 14 (by decide) hM) dX4_isFigure_13 ?_
        refine aw_iload_n hC 1 dX4_isFigure_16 rfl rfl ?_
        refine aw_bald hC hSt (cs_lt 14 13 600 (by decide) hM) (cs_k 14 13 600 (by decide) hM) (vp_len (n := 600) (cs_l 14 13 600 (by decide) hM) (h0 c1 c2)) dX4_isFigure_17 ?_
        refine aw_bipush (v := 48) hC dX4_isFigure_18 (by decide) ?_
        refine aw_icmp_lt hC 38 dX4_isFigure_20 (by decide) (fun c3 => ?_) (fun c3 => ?_)
        · refine aw_iconst (v := 0) hC dX4_isFigure_38 (by decide) ?_
          simp only [bd_def, if_neg c1, if_neg c2, if_pos c3] at Jc1 ⊢
          exact Jc1
        · refine aw_aload_n hC 0 dX4_isFigure_23 rfl rfl ?_
          refine aw_getP (b := 14) hC hSt 0 (cs_lt 13 4 0 (by decide) hM) (cs_k 13 4 0 (by decide) hM) rfl (by decide) w_322 rfl (cs_p 13 0 14 (by decide) hM) dX4_isFigure_24 ?_
          refine aw_iload_n hC 1 dX4_isFigure_27 rfl rfl ?_
          refine aw_bald hC hSt (cs_lt 14 13 600 (by decide) hM) (cs_k 14 13 600 (by decide) hM) (vp_len (n := 600) (cs_l 14 13 600 (by decide) hM) (h1 c1 c2 c3)) dX4_isFigure_28 ?_
          refine aw_bipush (v := 57) hC dX4_isFigure_29 (by decide) ?_
          refine aw_icmp_gt hC 38 dX4_isFigure_31 (by decide) (fun c4 => ?_) (fun c4 => ?_)
          · refine aw_iconst (v := 0) hC dX4_isFigure_38 (by decide) ?_
            simp only [bd_def, if_neg c1, if_neg c2, if_neg c3, if_pos c4] at Jc1 ⊢
            exact Jc1
          · refine aw_iconst (v := 1) hC dX4_isFigure_34 (by decide) ?_
            refine aw_goto hC 39 dX4_isFigure_35 (by decide) ?_
            simp only [bd_def, if_neg c1, if_neg c2, if_neg c3, if_neg c4] at Jc1 ⊢
            exact Jc1
theorem b_X4_isFigure (S : HSt) (_o0 : Nat) (a1 : Int32) : Bz (f_X4_isFigure S _o0 a1) := by
  unfold f_X4_isFigure F_X4_isFigure
  (try dsimp only [bd])
  (repeat' split) <;> first | exact Or.inl rfl | exact Or.inr rfl
def L_X4_takeNumber_5 : Nat → HSt → HSt
  | 0, S => (S)
  | n + 1, S =>
    if (gI S 13 2) ≤ (gI S 13 5) then (S) else (if (f_X4_isFigure S 13 (gI S 13 5)) = 0 then (S) else (bd ((if (3 : Int32) ≤ ((gI S 13 5) - (gI S 13 4)) then S else (bd ((sI S 13 6 ((((gI S 13 6) * (10 : Int32)) + (gI S 14 (gI S 13 5).toNatClampNeg)) - (48 : Int32)))) fun S1005 => S1005))) fun S1006 => bd ((sI S1006 13 5 ((gI S1006 13 5) + (1 : Int32)))) fun S1007 => L_X4_takeNumber_5 n S1007 ))
def T_X4_takeNumber_5 : Nat → HSt → Prop
  | 0, _ => False
  | n + 1, S => ((¬ (gI S 13 2) ≤ (gI S 13 5)) → p_X4_isFigure S 13 (gI S 13 5)) ∧ ((¬ (gI S 13 2) ≤ (gI S 13 5)) → (¬ (f_X4_isFigure S 13 (gI S 13 5)) = 0) → (¬ (3 : Int32) ≤ ((gI S 13 5) - (gI S 13 4))) → vp_in (gI S 13 5) 600) ∧ ((¬ (gI S 13 2) ≤ (gI S 13 5)) → (¬ (f_X4_isFigure S 13 (gI S 13 5)) = 0) → ∀ S1006 : HSt, (if (3 : Int32) ≤ ((gI S 13 5) - (gI S 13 4)) then S else (bd ((sI S 13 6 ((((gI S 13 6) * (10 : Int32)) + (gI S 14 (gI S 13 5).toNatClampNeg)) - (48 : Int32)))) fun S1005 => S1005)) = S1006 → ∀ S1007 : HSt, (sI S1006 13 5 ((gI S1006 13 5) + (1 : Int32))) = S1007 → T_X4_takeNumber_5 n S1007 )
theorem qL_X4_takeNumber_5 : ∀ (n : Nat) (S : HSt) , shp (L_X4_takeNumber_5 n S ) = shp S := by
  intro n
  induction n with
  | zero => intros; rfl
  | succ n ih =>
    intro S 
    unfold L_X4_takeNumber_5
    repeat' (first | with_reducible rfl | with_reducible refine (ih _).trans ?_ | with_reducible refine (shp_sI _ _ _ _).trans ?_ | with_reducible refine (shp_sJ _ _ _ _).trans ?_ | with_reducible refine shi ?_ ?_ | with_reducible refine shb (fun _ _ => ?_) | (subst_vars; with_reducible rfl) | (subst_vars; with_reducible refine (ih _).trans ?_) | (subst_vars; with_reducible refine (shp_sI _ _ _ _).trans ?_) | (subst_vars; with_reducible refine (shp_sJ _ _ _ _).trans ?_) | (subst_vars; with_reducible refine shi ?_ ?_) | (subst_vars; with_reducible refine shb (fun _ _ => ?_)))
set_option maxRecDepth 100000 in
theorem l_X4_takeNumber_5 {p : Program} {l : Launch} {e : Env} {s : State} {m : MethodId} {args : Array Value} {below : List Frame} {meth : Method} {c : Code} {G : GG} {Q : State → Prop} (hC : ACx p s m args meth c cX4_takeNumber RX4 1 none) (hSt : St G s)   : ∀ (n : Nat) (S : HSt) , CS S → T_X4_takeNumber_5 n S  → AW p l e (rmD 1 0 0) s m args below meth c G 1 Q (L_X4_takeNumber_5 n S ) 0 0 77 [(0, .ref 13)] [] → AW p l e (rmD 1 0 0) s m args below meth c G 1 Q S 0 0 5 [(0, .ref 13)] [] := by
  intro n
  induction n with
  | zero => intro S  _ hT; exact hT.elim
  | succ n ih =>
    intro S  hM hT hk
    unfold T_X4_takeNumber_5 at hT
    obtain ⟨h0, h1, h2⟩ := hT
    refine aw_aload_n hC 0 dX4_takeNumber_5 rfl rfl ?_
    refine aw_getI hC hSt 5 (cs_lt 13 4 0 (by decide) hM) (cs_k 13 4 0 (by decide) hM) rfl (by decide) w_345 rfl dX4_takeNumber_6 ?_
    refine aw_aload_n hC 0 dX4_takeNumber_9 rfl rfl ?_
    refine aw_getI hC hSt 2 (cs_lt 13 4 0 (by decide) hM) (cs_k 13 4 0 (by decide) hM) rfl (by decide) w_328 rfl dX4_takeNumber_10 ?_
    refine aw_icmp_ge hC 77 dX4_takeNumber_13 (by decide) (fun c1002 => ?_) (fun c1002 => ?_)
    · refine aw_sub [0] rfl ?_
      have E : L_X4_takeNumber_5 (n + 1) S  = _ := (if_pos c1002).trans (rfl)
      rw [E] at hk
      exact hk
    · refine aw_aload_n hC 0 dX4_takeNumber_16 rfl rfl ?_
      refine aw_aload_n hC 0 dX4_takeNumber_17 rfl rfl ?_
      refine aw_getI hC hSt 5 (cs_lt 13 4 0 (by decide) hM) (cs_k 13 4 0 (by decide) hM) rfl (by decide) w_345 rfl dX4_takeNumber_18 ?_
      refine aw_cV1r hC hSt (t_X4_isFigure G l hM _ (h0 c1002)) w_342 w_348 w_349 w_350 w_351 rfl rfl (by decide +kernel) ⟨Nat.le_of_ble_eq_true rfl, Nat.le_of_ble_eq_true rfl⟩ (cs_lt 13 4 0 (by decide) hM) (cs_k 13 4 0 (by decide) hM) rfl (Nat.le_of_ble_eq_true rfl) dX4_takeNumber_21 ⟨Nat.zero_le _, Nat.zero_le _⟩ ?_
      refine aw_if_eq hC 77 dX4_takeNumber_24 (by decide) (fun c1003 => ?_) (fun c1003 => ?_)
      · refine aw_sub [0] rfl ?_
        have E : L_X4_takeNumber_5 (n + 1) S  = _ := (if_neg c1002).trans ((if_pos c1003).trans (rfl))
        rw [E] at hk
        exact hk
      · refine aw_aload_n hC 0 dX4_takeNumber_27 rfl rfl ?_
        refine aw_getI hC hSt 5 (cs_lt 13 4 0 (by decide) hM) (cs_k 13 4 0 (by decide) hM) rfl (by decide) w_345 rfl dX4_takeNumber_28 ?_
        refine aw_aload_n hC 0 dX4_takeNumber_31 rfl rfl ?_
        refine aw_getI hC hSt 4 (cs_lt 13 4 0 (by decide) hM) (cs_k 13 4 0 (by decide) hM) rfl (by decide) w_346 rfl dX4_takeNumber_32 ?_
        refine aw_isub hC dX4_takeNumber_35 ?_
        refine aw_iconst (v := 3) hC dX4_takeNumber_36 (by decide) ?_
        refine aw_cut (S' := (if (3 : Int32) ≤ ((gI S 13 5) - (gI S 13 4)) then S else (bd ((sI S 13 6 ((((gI S 13 6) * (10 : Int32)) + (gI S 14 (gI S 13 5).toNatClampNeg)) - (48 : Int32)))) fun S1005 => S1005))) (pc' := 64) (lv' := [(0, .ref 13)]) (st' := []) ?_ (fun Jc1004 => ?_)
        · generalize eS1006 : (if (3 : Int32) ≤ ((gI S 13 5) - (gI S 13 4)) then S else (bd ((sI S 13 6 ((((gI S 13 6) * (10 : Int32)) + (gI S 14 (gI S 13 5).toNatClampNeg)) - (48 : Int32)))) fun S1005 => S1005)) = S1006
          have hM : CS S1006 := CS.of (by rw [← eS1006]; repeat' (first | with_reducible rfl | with_reducible refine (shp_sI _ _ _ _).trans ?_ | with_reducible refine (shp_sJ _ _ _ _).trans ?_ | with_reducible refine shi ?_ ?_ | with_reducible refine shb (fun _ _ => ?_) | (subst_vars; with_reducible rfl) | (subst_vars; with_reducible refine (shp_sI _ _ _ _).trans ?_) | (subst_vars; with_reducible refine (shp_sJ _ _ _ _).trans ?_) | (subst_vars; with_reducible refine shi ?_ ?_) | (subst_vars; with_reducible refine shb (fun _ _ => ?_)))) hM
          refine aw_aload_n hC 0 dX4_takeNumber_64 rfl rfl ?_
          refine aw_dup hC dX4_takeNumber_65 rfl ?_
          refine aw_getI hC hSt 5 (cs_lt 13 4 0 (by decide) hM) (cs_k 13 4 0 (by decide) hM) rfl (by decide) w_345 rfl dX4_takeNumber_66 ?_
          refine aw_iconst (v := 1) hC dX4_takeNumber_69 (by decide) ?_
          refine aw_iadd hC dX4_takeNumber_70 ?_
          refine aw_putI hC hSt 5 (cs_lt 13 4 0 (by decide) hM) (cs_k 13 4 0 (by decide) hM) rfl (by decide) w_345 rfl rfl rfl rfl dX4_takeNumber_71 ?_
          generalize eS1007 : (sI S1006 13 5 ((gI S1006 13 5) + (1 : Int32))) = S1007
          have hM : CS S1007 := CS.of (by rw [← eS1007]; exact shp_sI _ _ _ _) hM
          refine aw_goto hC 5 dX4_takeNumber_74 (by decide) ?_
          refine aw_sub [0] rfl ?_
          have hTn := (h2 c1002 c1003 S1006 eS1006 S1007 eS1007)
          have hMn : CS S1007 := hM
          have E : L_X4_takeNumber_5 (n + 1) S  = _ := (if_neg c1002).trans ((if_neg c1003).trans ((bd_eq eS1006).trans ((bd_eq eS1007).trans (rfl))))
          rw [E] at hk
          exact ih _ hMn hTn hk
        · refine aw_icmp_ge hC 64 dX4_takeNumber_37 (by decide) (fun c1004 => ?_) (fun c1004 => ?_)
          · simp only [bd_def, if_pos c1004] at Jc1004 ⊢
            exact Jc1004
          · refine aw_aload_n hC 0 dX4_takeNumber_40 rfl rfl ?_
            refine aw_aload_n hC 0 dX4_takeNumber_41 rfl rfl ?_
            refine aw_getI hC hSt 6 (cs_lt 13 4 0 (by decide) hM) (cs_k 13 4 0 (by decide) hM) rfl (by decide) w_344 rfl dX4_takeNumber_42 ?_
            refine aw_bipush (v := 10) hC dX4_takeNumber_45 (by decide) ?_
            refine aw_imul hC dX4_takeNumber_47 ?_
            refine aw_aload_n hC 0 dX4_takeNumber_48 rfl rfl ?_
            refine aw_getP (b := 14) hC hSt 0 (cs_lt 13 4 0 (by decide) hM) (cs_k 13 4 0 (by decide) hM) rfl (by decide) w_322 rfl (cs_p 13 0 14 (by decide) hM) dX4_takeNumber_49 ?_
            refine aw_aload_n hC 0 dX4_takeNumber_52 rfl rfl ?_
            refine aw_getI hC hSt 5 (cs_lt 13 4 0 (by decide) hM) (cs_k 13 4 0 (by decide) hM) rfl (by decide) w_345 rfl dX4_takeNumber_53 ?_
            refine aw_bald hC hSt (cs_lt 14 13 600 (by decide) hM) (cs_k 14 13 600 (by decide) hM) (vp_len (n := 600) (cs_l 14 13 600 (by decide) hM) (h1 c1002 c1003 c1004)) dX4_takeNumber_56 ?_
            refine aw_iadd hC dX4_takeNumber_57 ?_
            refine aw_bipush (v := 48) hC dX4_takeNumber_58 (by decide) ?_
            refine aw_isub hC dX4_takeNumber_60 ?_
            refine aw_putI hC hSt 6 (cs_lt 13 4 0 (by decide) hM) (cs_k 13 4 0 (by decide) hM) rfl (by decide) w_344 rfl rfl rfl rfl dX4_takeNumber_61 ?_
            generalize eS1005 : (sI S 13 6 ((((gI S 13 6) * (10 : Int32)) + (gI S 14 (gI S 13 5).toNatClampNeg)) - (48 : Int32))) = S1005
            have hM : CS S1005 := CS.of (by rw [← eS1005]; exact shp_sI _ _ _ _) hM
            subst eS1005
            simp only [bd_def, if_neg c1004] at Jc1004 ⊢
            exact Jc1004
def f_X4_takeNumber (S : HSt) (_o0 : Nat) : HSt := bd ((sI S 13 6 (0 : Int32))) fun S1 => bd (L_X4_takeNumber_5 1000 S1 ) fun r2 => bd ((if (3 : Int32) < ((gI r2 13 5) - (gI r2 13 4)) then (4 : Int32) else (2 : Int32))) fun x4 => bd ((sI r2 13 3 x4)) fun S5 => S5
def p_X4_takeNumber (S : HSt) (_o0 : Nat) : Prop := (∀ S1 : HSt, (sI S 13 6 (0 : Int32)) = S1 → T_X4_takeNumber_5 1000 S1 )
set_option maxRecDepth 100000 in
theorem t_X4_takeNumber (G : GG) (l : Launch) {S : HSt} (hM : CS S)   (hp : p_X4_takeNumber S 13) : AM G l yX4_takeNumber cX4_takeNumber 1 none (rmD 1 0 0) 0 0 [.ref 13] S (FP none (f_X4_takeNumber S 13)) := by
  have h0 := hp
  unfold p_X4_takeNumber at h0
  refine AM.mk (by decide) (Nat.le_of_ble_eq_true rfl) ?_
  intro p e s m below meth c hC hSt _
  refine aw_aload_n hC 0 dX4_takeNumber_0 rfl rfl ?_
  refine aw_iconst (v := 0) hC dX4_takeNumber_1 (by decide) ?_
  refine aw_putI hC hSt 6 (cs_lt 13 4 0 (by decide) hM) (cs_k 13 4 0 (by decide) hM) rfl (by decide) w_344 rfl rfl rfl rfl dX4_takeNumber_2 ?_
  generalize eS1 : (sI S 13 6 (0 : Int32)) = S1
  have hM : CS S1 := CS.of (by rw [← eS1]; exact shp_sI _ _ _ _) hM
  refine aw_sub [0] rfl ?_
  refine l_X4_takeNumber_5 hC hSt 1000 _ hM (h0 S1 eS1) ?_
  generalize er2 : L_X4_takeNumber_5 1000 S1  = r2
  have hM : CS r2 := CS.of (by rw [← er2]; exact qL_X4_takeNumber_5 _ _) hM
  refine aw_aload_n hC 0 dX4_takeNumber_77 rfl rfl ?_
  refine aw_aload_n hC 0 dX4_takeNumber_78 rfl rfl ?_
  refine aw_getI hC hSt 5 (cs_lt 13 4 0 (by decide) hM) (cs_k 13 4 0 (by decide) hM) rfl (by decide) w_345 rfl dX4_takeNumber_79 ?_
  refine aw_aload_n hC 0 dX4_takeNumber_82 rfl rfl ?_
  refine aw_getI hC hSt 4 (cs_lt 13 4 0 (by decide) hM) (cs_k 13 4 0 (by decide) hM) rfl (by decide) w_346 rfl dX4_takeNumber_83 ?_
  refine aw_isub hC dX4_takeNumber_86 ?_
  refine aw_iconst (v := 3) hC dX4_takeNumber_87 (by decide) ?_
  refine aw_cut (S' := r2) (pc' := 96) (lv' := [(0, .ref 13)]) (st' := [.int (if (3 : Int32) < ((gI r2 13 5) - (gI r2 13 4)) then (4 : Int32) else (2 : Int32)), .ref 13]) ?_ (fun Jc3 => ?_)
  · generalize ex4 : (if (3 : Int32) < ((gI r2 13 5) - (gI r2 13 4)) then (4 : Int32) else (2 : Int32)) = x4
    refine aw_putI hC hSt 3 (cs_lt 13 4 0 (by decide) hM) (cs_k 13 4 0 (by decide) hM) rfl (by decide) w_347 rfl rfl rfl rfl dX4_takeNumber_96 ?_
    generalize eS5 : (sI r2 13 3 x4) = S5
    have hM : CS S5 := CS.of (by rw [← eS5]; exact shp_sI _ _ _ _) hM
    refine aw_vret hC dX4_takeNumber_99 (Nat.le_refl _) (Nat.le_refl _) ?_
    exact FP.qV ((bd_eq eS1).trans ((bd_eq er2).trans ((bd_eq ex4).trans ((bd_eq eS5).trans (rfl)))))
  · refine aw_icmp_gt hC 95 dX4_takeNumber_88 (by decide) (fun c3 => ?_) (fun c3 => ?_)
    · refine aw_iconst (v := 4) hC dX4_takeNumber_95 (by decide) ?_
      simp only [bd_def, if_pos c3] at Jc3 ⊢
      exact Jc3
    · refine aw_iconst (v := 2) hC dX4_takeNumber_91 (by decide) ?_
      refine aw_goto hC 96 dX4_takeNumber_92 (by decide) ?_
      simp only [bd_def, if_neg c3] at Jc3 ⊢
      exact Jc3
theorem q_X4_takeNumber (S : HSt) (_o0 : Nat) : shp (f_X4_takeNumber S _o0) = shp S := by
  unfold f_X4_takeNumber
  repeat' (first | with_reducible rfl | with_reducible refine (qL_X4_takeNumber_5 _ _).trans ?_ | with_reducible refine (shp_sI _ _ _ _).trans ?_ | with_reducible refine (shp_sJ _ _ _ _).trans ?_ | with_reducible refine shi ?_ ?_ | with_reducible refine shb (fun _ _ => ?_) | (subst_vars; with_reducible rfl) | (subst_vars; with_reducible refine (qL_X4_takeNumber_5 _ _).trans ?_) | (subst_vars; with_reducible refine (shp_sI _ _ _ _).trans ?_) | (subst_vars; with_reducible refine (shp_sJ _ _ _ _).trans ?_) | (subst_vars; with_reducible refine shi ?_ ?_) | (subst_vars; with_reducible refine shb (fun _ _ => ?_)))
def L_X4_next_8 : Nat → HSt → HSt
  | 0, S => (S)
  | n + 1, S =>
    if (gI S 13 2) ≤ (gI S 13 4) then (S) else (if (gI S 14 (gI S 13 4).toNatClampNeg) = (32 : Int32) then (bd ((sI S 13 4 ((gI S 13 4) + (1 : Int32)))) fun S1004 => L_X4_next_8 n S1004 ) else (if (gI S 14 (gI S 13 4).toNatClampNeg) = (10 : Int32) then (bd ((sI S 13 4 ((gI S 13 4) + (1 : Int32)))) fun S1006 => L_X4_next_8 n S1006 ) else (S)))
def T_X4_next_8 : Nat → HSt → Prop
  | 0, _ => False
  | n + 1, S => ((¬ (gI S 13 2) ≤ (gI S 13 4)) → vp_in (gI S 13 4) 600) ∧ ((¬ (gI S 13 2) ≤ (gI S 13 4)) → ((gI S 14 (gI S 13 4).toNatClampNeg) = (32 : Int32)) → ∀ S1004 : HSt, (sI S 13 4 ((gI S 13 4) + (1 : Int32))) = S1004 → T_X4_next_8 n S1004 ) ∧ ((¬ (gI S 13 2) ≤ (gI S 13 4)) → (¬ (gI S 14 (gI S 13 4).toNatClampNeg) = (32 : Int32)) → vp_in (gI S 13 4) 600) ∧ ((¬ (gI S 13 2) ≤ (gI S 13 4)) → (¬ (gI S 14 (gI S 13 4).toNatClampNeg) = (32 : Int32)) → ((gI S 14 (gI S 13 4).toNatClampNeg) = (10 : Int32)) → ∀ S1006 : HSt, (sI S 13 4 ((gI S 13 4) + (1 : Int32))) = S1006 → T_X4_next_8 n S1006 )
theorem qL_X4_next_8 : ∀ (n : Nat) (S : HSt) , shp (L_X4_next_8 n S ) = shp S := by
  intro n
  induction n with
  | zero => intros; rfl
  | succ n ih =>
    intro S 
    unfold L_X4_next_8
    repeat' (first | with_reducible rfl | with_reducible refine (ih _).trans ?_ | with_reducible refine (q_X4_takeNumber _ _).trans ?_ | with_reducible refine (shp_sI _ _ _ _).trans ?_ | with_reducible refine (shp_sJ _ _ _ _).trans ?_ | with_reducible refine shi ?_ ?_ | with_reducible refine shb (fun _ _ => ?_) | (subst_vars; with_reducible rfl) | (subst_vars; with_reducible refine (ih _).trans ?_) | (subst_vars; with_reducible refine (q_X4_takeNumber _ _).trans ?_) | (subst_vars; with_reducible refine (shp_sI _ _ _ _).trans ?_) | (subst_vars; with_reducible refine (shp_sJ _ _ _ _).trans ?_) | (subst_vars; with_reducible refine shi ?_ ?_) | (subst_vars; with_reducible refine shb (fun _ _ => ?_)))
set_option maxRecDepth 100000 in
theorem l_X4_next_8 {p : Program} {l : Launch} {e : Env} {s : State} {m : MethodId} {args : Array Value} {below : List Frame} {meth : Method} {c : Code} {G : GG} {Q : State → Prop} (hC : ACx p s m args meth c cX4_next RX4 1 none) (hSt : St G s)   : ∀ (n : Nat) (S : HSt) , CS S → T_X4_next_8 n S  → AW p l e (rmD 2 0 0) s m args below meth c G 1 Q (L_X4_next_8 n S ) 0 0 60 [(0, .ref 13)] [] → AW p l e (rmD 2 0 0) s m args below meth c G 1 Q S 0 0 8 [(0, .ref 13)] [] := by
  intro n
  induction n with
  | zero => intro S  _ hT; exact hT.elim
  | succ n ih =>
    intro S  hM hT hk
    unfold T_X4_next_8 at hT
    obtain ⟨h0, h1, h2, h3⟩ := hT
    refine aw_aload_n hC 0 dX4_next_8 rfl rfl ?_
    refine aw_getI hC hSt 4 (cs_lt 13 4 0 (by decide) hM) (cs_k 13 4 0 (by decide) hM) rfl (by decide) w_346 rfl dX4_next_9 ?_
    refine aw_aload_n hC 0 dX4_next_12 rfl rfl ?_
    refine aw_getI hC hSt 2 (cs_lt 13 4 0 (by decide) hM) (cs_k 13 4 0 (by decide) hM) rfl (by decide) w_328 rfl dX4_next_13 ?_
    refine aw_icmp_ge hC 60 dX4_next_16 (by decide) (fun c1002 => ?_) (fun c1002 => ?_)
    · refine aw_sub [0] rfl ?_
      have E : L_X4_next_8 (n + 1) S  = _ := (if_pos c1002).trans (rfl)
      rw [E] at hk
      exact hk
    · refine aw_aload_n hC 0 dX4_next_19 rfl rfl ?_
      refine aw_getP (b := 14) hC hSt 0 (cs_lt 13 4 0 (by decide) hM) (cs_k 13 4 0 (by decide) hM) rfl (by decide) w_322 rfl (cs_p 13 0 14 (by decide) hM) dX4_next_20 ?_
      refine aw_aload_n hC 0 dX4_next_23 rfl rfl ?_
      refine aw_getI hC hSt 4 (cs_lt 13 4 0 (by decide) hM) (cs_k 13 4 0 (by decide) hM) rfl (by decide) w_346 rfl dX4_next_24 ?_
      refine aw_bald hC hSt (cs_lt 14 13 600 (by decide) hM) (cs_k 14 13 600 (by decide) hM) (vp_len (n := 600) (cs_l 14 13 600 (by decide) hM) (h0 c1002)) dX4_next_27 ?_
      refine aw_bipush (v := 32) hC dX4_next_28 (by decide) ?_
      refine aw_icmp_eq hC 47 dX4_next_30 (by decide) (fun c1003 => ?_) (fun c1003 => ?_)
      · refine aw_aload_n hC 0 dX4_next_47 rfl rfl ?_
        refine aw_dup hC dX4_next_48 rfl ?_
        refine aw_getI hC hSt 4 (cs_lt 13 4 0 (by decide) hM) (cs_k 13 4 0 (by decide) hM) rfl (by decide) w_346 rfl dX4_next_49 ?_
        refine aw_iconst (v := 1) hC dX4_next_52 (by decide) ?_
        refine aw_iadd hC dX4_next_53 ?_
        refine aw_putI hC hSt 4 (cs_lt 13 4 0 (by decide) hM) (cs_k 13 4 0 (by decide) hM) rfl (by decide) w_346 rfl rfl rfl rfl dX4_next_54 ?_
        generalize eS1004 : (sI S 13 4 ((gI S 13 4) + (1 : Int32))) = S1004
        have hM : CS S1004 := CS.of (by rw [← eS1004]; exact shp_sI _ _ _ _) hM
        refine aw_goto hC 8 dX4_next_57 (by decide) ?_
        refine aw_sub [0] rfl ?_
        have hTn := (h1 c1002 c1003 S1004 eS1004)
        have hMn : CS S1004 := hM
        have E : L_X4_next_8 (n + 1) S  = _ := (if_neg c1002).trans ((if_pos c1003).trans ((bd_eq eS1004).trans (rfl)))
        rw [E] at hk
        exact ih _ hMn hTn hk
      · refine aw_aload_n hC 0 dX4_next_33 rfl rfl ?_
        refine aw_getP (b := 14) hC hSt 0 (cs_lt 13 4 0 (by decide) hM) (cs_k 13 4 0 (by decide) hM) rfl (by decide) w_322 rfl (cs_p 13 0 14 (by decide) hM) dX4_next_34 ?_
        refine aw_aload_n hC 0 dX4_next_37 rfl rfl ?_
        refine aw_getI hC hSt 4 (cs_lt 13 4 0 (by decide) hM) (cs_k 13 4 0 (by decide) hM) rfl (by decide) w_346 rfl dX4_next_38 ?_
        refine aw_bald hC hSt (cs_lt 14 13 600 (by decide) hM) (cs_k 14 13 600 (by decide) hM) (vp_len (n := 600) (cs_l 14 13 600 (by decide) hM) (h2 c1002 c1003)) dX4_next_41 ?_
        refine aw_bipush (v := 10) hC dX4_next_42 (by decide) ?_
        refine aw_icmp_ne hC 60 dX4_next_44 (by decide) (fun c1005 => ?_) (fun c1005 => ?_)
        · refine aw_sub [0] rfl ?_
          have E : L_X4_next_8 (n + 1) S  = _ := (if_neg c1002).trans ((if_neg c1003).trans ((if_neg c1005).trans (rfl)))
          rw [E] at hk
          exact hk
        · refine aw_aload_n hC 0 dX4_next_47 rfl rfl ?_
          refine aw_dup hC dX4_next_48 rfl ?_
          refine aw_getI hC hSt 4 (cs_lt 13 4 0 (by decide) hM) (cs_k 13 4 0 (by decide) hM) rfl (by decide) w_346 rfl dX4_next_49 ?_
          refine aw_iconst (v := 1) hC dX4_next_52 (by decide) ?_
          refine aw_iadd hC dX4_next_53 ?_
          refine aw_putI hC hSt 4 (cs_lt 13 4 0 (by decide) hM) (cs_k 13 4 0 (by decide) hM) rfl (by decide) w_346 rfl rfl rfl rfl dX4_next_54 ?_
          generalize eS1006 : (sI S 13 4 ((gI S 13 4) + (1 : Int32))) = S1006
          have hM : CS S1006 := CS.of (by rw [← eS1006]; exact shp_sI _ _ _ _) hM
          refine aw_goto hC 8 dX4_next_57 (by decide) ?_
          refine aw_sub [0] rfl ?_
          have hTn := (h3 c1002 c1003 c1005 S1006 eS1006)
          have hMn : CS S1006 := hM
          have E : L_X4_next_8 (n + 1) S  = _ := (if_neg c1002).trans ((if_neg c1003).trans ((if_pos c1005).trans ((bd_eq eS1006).trans (rfl))))
          rw [E] at hk
          exact ih _ hMn hTn hk
def L_X4_next_103 : Nat → HSt → HSt
  | 0, S => (S)
  | n + 1, S =>
    if (gI S 13 2) ≤ (gI S 13 5) then (S) else (if (f_X4_isLetter S 13 (gI S 13 5)) = 0 then (S) else (bd ((sI S 13 5 ((gI S 13 5) + (1 : Int32)))) fun S1015 => L_X4_next_103 n S1015 ))
def T_X4_next_103 : Nat → HSt → Prop
  | 0, _ => False
  | n + 1, S => ((¬ (gI S 13 2) ≤ (gI S 13 5)) → p_X4_isLetter S 13 (gI S 13 5)) ∧ ((¬ (gI S 13 2) ≤ (gI S 13 5)) → (¬ (f_X4_isLetter S 13 (gI S 13 5)) = 0) → ∀ S1015 : HSt, (sI S 13 5 ((gI S 13 5) + (1 : Int32))) = S1015 → T_X4_next_103 n S1015 )
theorem qL_X4_next_103 : ∀ (n : Nat) (S : HSt) , shp (L_X4_next_103 n S ) = shp S := by
  intro n
  induction n with
  | zero => intros; rfl
  | succ n ih =>
    intro S 
    unfold L_X4_next_103
    repeat' (first | with_reducible rfl | with_reducible refine (ih _).trans ?_ | with_reducible refine (q_X4_takeNumber _ _).trans ?_ | with_reducible refine (qL_X4_next_8 _ _).trans ?_ | with_reducible refine (shp_sI _ _ _ _).trans ?_ | with_reducible refine (shp_sJ _ _ _ _).trans ?_ | with_reducible refine shi ?_ ?_ | with_reducible refine shb (fun _ _ => ?_) | (subst_vars; with_reducible rfl) | (subst_vars; with_reducible refine (ih _).trans ?_) | (subst_vars; with_reducible refine (q_X4_takeNumber _ _).trans ?_) | (subst_vars; with_reducible refine (qL_X4_next_8 _ _).trans ?_) | (subst_vars; with_reducible refine (shp_sI _ _ _ _).trans ?_) | (subst_vars; with_reducible refine (shp_sJ _ _ _ _).trans ?_) | (subst_vars; with_reducible refine shi ?_ ?_) | (subst_vars; with_reducible refine shb (fun _ _ => ?_)))
set_option maxRecDepth 100000 in
theorem l_X4_next_103 {p : Program} {l : Launch} {e : Env} {s : State} {m : MethodId} {args : Array Value} {below : List Frame} {meth : Method} {c : Code} {G : GG} {Q : State → Prop} (hC : ACx p s m args meth c cX4_next RX4 1 none) (hSt : St G s)   : ∀ (n : Nat) (S : HSt) , CS S → T_X4_next_103 n S  → AW p l e (rmD 2 0 0) s m args below meth c G 1 Q (L_X4_next_103 n S ) 0 0 189 [(0, .ref 13)] [] → AW p l e (rmD 2 0 0) s m args below meth c G 1 Q S 0 0 103 [(0, .ref 13)] [] := by
  intro n
  induction n with
  | zero => intro S  _ hT; exact hT.elim
  | succ n ih =>
    intro S  hM hT hk
    unfold T_X4_next_103 at hT
    obtain ⟨h0, h1⟩ := hT
    refine aw_aload_n hC 0 dX4_next_103 rfl rfl ?_
    refine aw_getI hC hSt 5 (cs_lt 13 4 0 (by decide) hM) (cs_k 13 4 0 (by decide) hM) rfl (by decide) w_345 rfl dX4_next_104 ?_
    refine aw_aload_n hC 0 dX4_next_107 rfl rfl ?_
    refine aw_getI hC hSt 2 (cs_lt 13 4 0 (by decide) hM) (cs_k 13 4 0 (by decide) hM) rfl (by decide) w_328 rfl dX4_next_108 ?_
    refine aw_icmp_ge hC 189 dX4_next_111 (by decide) (fun c1013 => ?_) (fun c1013 => ?_)
    · refine aw_sub [0] rfl ?_
      have E : L_X4_next_103 (n + 1) S  = _ := (if_pos c1013).trans (rfl)
      rw [E] at hk
      exact hk
    · refine aw_aload_n hC 0 dX4_next_114 rfl rfl ?_
      refine aw_aload_n hC 0 dX4_next_115 rfl rfl ?_
      refine aw_getI hC hSt 5 (cs_lt 13 4 0 (by decide) hM) (cs_k 13 4 0 (by decide) hM) rfl (by decide) w_345 rfl dX4_next_116 ?_
      refine aw_cV1r hC hSt (t_X4_isLetter G l hM _ (h0 c1013)) w_341 w_353 w_354 w_355 w_351 rfl rfl (by decide +kernel) ⟨Nat.le_of_ble_eq_true rfl, Nat.le_of_ble_eq_true rfl⟩ (cs_lt 13 4 0 (by decide) hM) (cs_k 13 4 0 (by decide) hM) rfl (Nat.le_of_ble_eq_true rfl) dX4_next_119 ⟨Nat.zero_le _, Nat.zero_le _⟩ ?_
      refine aw_if_eq hC 189 dX4_next_122 (by decide) (fun c1014 => ?_) (fun c1014 => ?_)
      · refine aw_sub [0] rfl ?_
        have E : L_X4_next_103 (n + 1) S  = _ := (if_neg c1013).trans ((if_pos c1014).trans (rfl))
        rw [E] at hk
        exact hk
      · refine aw_aload_n hC 0 dX4_next_125 rfl rfl ?_
        refine aw_dup hC dX4_next_126 rfl ?_
        refine aw_getI hC hSt 5 (cs_lt 13 4 0 (by decide) hM) (cs_k 13 4 0 (by decide) hM) rfl (by decide) w_345 rfl dX4_next_127 ?_
        refine aw_iconst (v := 1) hC dX4_next_130 (by decide) ?_
        refine aw_iadd hC dX4_next_131 ?_
        refine aw_putI hC hSt 5 (cs_lt 13 4 0 (by decide) hM) (cs_k 13 4 0 (by decide) hM) rfl (by decide) w_345 rfl rfl rfl rfl dX4_next_132 ?_
        generalize eS1015 : (sI S 13 5 ((gI S 13 5) + (1 : Int32))) = S1015
        have hM : CS S1015 := CS.of (by rw [← eS1015]; exact shp_sI _ _ _ _) hM
        refine aw_goto hC 103 dX4_next_135 (by decide) ?_
        refine aw_sub [0] rfl ?_
        have hTn := (h1 c1013 c1014 S1015 eS1015)
        have hMn : CS S1015 := hM
        have E : L_X4_next_103 (n + 1) S  = _ := (if_neg c1013).trans ((if_neg c1014).trans ((bd_eq eS1015).trans (rfl)))
        rw [E] at hk
        exact ih _ hMn hTn hk
def f_X4_next (S : HSt) (_o0 : Nat) : HSt := bd ((sI S 13 4 (gI S 13 5))) fun S1 => bd (L_X4_next_8 1000 S1 ) fun r2 => bd ((sI r2 13 5 (gI r2 13 4))) fun S3 => bd ((if (gI S3 13 4) < (gI S3 13 2) then (if (f_X4_isLetter S3 13 (gI S3 13 4)) = 0 then (if (f_X4_isFigure S3 13 (gI S3 13 4)) = 0 then (bd ((if (gI S3 14 (gI S3 13 4).toNatClampNeg) = (59 : Int32) then (3 : Int32) else (4 : Int32))) fun x8 => bd ((sI S3 13 3 x8)) fun S9 => bd ((sI S9 13 5 ((gI S9 13 5) + (1 : Int32)))) fun S10 => S10) else (bd (f_X4_takeNumber S3 13) fun r11 => r11)) else (bd ((sI S3 13 3 (1 : Int32))) fun S12 => bd (L_X4_next_103 1000 S12 ) fun r13 => r13)) else (bd ((sI S3 13 3 (0 : Int32))) fun S14 => S14))) fun S15 => S15
def p_X4_next (S : HSt) (_o0 : Nat) : Prop := (∀ S1 : HSt, (sI S 13 4 (gI S 13 5)) = S1 → T_X4_next_8 1000 S1 ) ∧ (∀ S1 : HSt, (sI S 13 4 (gI S 13 5)) = S1 → ∀ r2, L_X4_next_8 1000 S1  = r2 → ∀ S3 : HSt, (sI r2 13 5 (gI r2 13 4)) = S3 → ((gI S3 13 4) < (gI S3 13 2)) → p_X4_isLetter S3 13 (gI S3 13 4)) ∧ (∀ S1 : HSt, (sI S 13 4 (gI S 13 5)) = S1 → ∀ r2, L_X4_next_8 1000 S1  = r2 → ∀ S3 : HSt, (sI r2 13 5 (gI r2 13 4)) = S3 → ((gI S3 13 4) < (gI S3 13 2)) → ((f_X4_isLetter S3 13 (gI S3 13 4)) = 0) → p_X4_isFigure S3 13 (gI S3 13 4)) ∧ (∀ S1 : HSt, (sI S 13 4 (gI S 13 5)) = S1 → ∀ r2, L_X4_next_8 1000 S1  = r2 → ∀ S3 : HSt, (sI r2 13 5 (gI r2 13 4)) = S3 → ((gI S3 13 4) < (gI S3 13 2)) → ((f_X4_isLetter S3 13 (gI S3 13 4)) = 0) → ((f_X4_isFigure S3 13 (gI S3 13 4)) = 0) → vp_in (gI S3 13 4) 600) ∧ (∀ S1 : HSt, (sI S 13 4 (gI S 13 5)) = S1 → ∀ r2, L_X4_next_8 1000 S1  = r2 → ∀ S3 : HSt, (sI r2 13 5 (gI r2 13 4)) = S3 → ((gI S3 13 4) < (gI S3 13 2)) → ((f_X4_isLetter S3 13 (gI S3 13 4)) = 0) → (¬ (f_X4_isFigure S3 13 (gI S3 13 4)) = 0) → p_X4_takeNumber S3 13) ∧ (∀ S1 : HSt, (sI S 13 4 (gI S 13 5)) = S1 → ∀ r2, L_X4_next_8 1000 S1  = r2 → ∀ S3 : HSt, (sI r2 13 5 (gI r2 13 4)) = S3 → ((gI S3 13 4) < (gI S3 13 2)) → (¬ (f_X4_isLetter S3 13 (gI S3 13 4)) = 0) → ∀ S12 : HSt, (sI S3 13 3 (1 : Int32)) = S12 → T_X4_next_103 1000 S12 )
set_option maxRecDepth 100000 in
theorem t_X4_next (G : GG) (l : Launch) {S : HSt} (hM : CS S)   (hp : p_X4_next S 13) : AM G l yX4_next cX4_next 1 none (rmD 2 0 0) 0 0 [.ref 13] S (FP none (f_X4_next S 13)) := by
  obtain ⟨h0, h1, h2, h3, h4, h5⟩ := hp
  refine AM.mk (by decide) (Nat.le_of_ble_eq_true rfl) ?_
  intro p e s m below meth c hC hSt _
  refine aw_aload_n hC 0 dX4_next_0 rfl rfl ?_
  refine aw_aload_n hC 0 dX4_next_1 rfl rfl ?_
  refine aw_getI hC hSt 5 (cs_lt 13 4 0 (by decide) hM) (cs_k 13 4 0 (by decide) hM) rfl (by decide) w_345 rfl dX4_next_2 ?_
  refine aw_putI hC hSt 4 (cs_lt 13 4 0 (by decide) hM) (cs_k 13 4 0 (by decide) hM) rfl (by decide) w_346 rfl rfl rfl rfl dX4_next_5 ?_
  generalize eS1 : (sI S 13 4 (gI S 13 5)) = S1
  have hM : CS S1 := CS.of (by rw [← eS1]; exact shp_sI _ _ _ _) hM
  refine aw_sub [0] rfl ?_
  refine l_X4_next_8 hC hSt 1000 _ hM (h0 S1 eS1) ?_
  generalize er2 : L_X4_next_8 1000 S1  = r2
  have hM : CS r2 := CS.of (by rw [← er2]; exact qL_X4_next_8 _ _) hM
  refine aw_aload_n hC 0 dX4_next_60 rfl rfl ?_
  refine aw_aload_n hC 0 dX4_next_61 rfl rfl ?_
  refine aw_getI hC hSt 4 (cs_lt 13 4 0 (by decide) hM) (cs_k 13 4 0 (by decide) hM) rfl (by decide) w_346 rfl dX4_next_62 ?_
  refine aw_putI hC hSt 5 (cs_lt 13 4 0 (by decide) hM) (cs_k 13 4 0 (by decide) hM) rfl (by decide) w_345 rfl rfl rfl rfl dX4_next_65 ?_
  generalize eS3 : (sI r2 13 5 (gI r2 13 4)) = S3
  have hM : CS S3 := CS.of (by rw [← eS3]; exact shp_sI _ _ _ _) hM
  refine aw_aload_n hC 0 dX4_next_68 rfl rfl ?_
  refine aw_getI hC hSt 4 (cs_lt 13 4 0 (by decide) hM) (cs_k 13 4 0 (by decide) hM) rfl (by decide) w_346 rfl dX4_next_69 ?_
  refine aw_aload_n hC 0 dX4_next_72 rfl rfl ?_
  refine aw_getI hC hSt 2 (cs_lt 13 4 0 (by decide) hM) (cs_k 13 4 0 (by decide) hM) rfl (by decide) w_328 rfl dX4_next_73 ?_
  refine aw_cut (S' := (if (gI S3 13 4) < (gI S3 13 2) then (if (f_X4_isLetter S3 13 (gI S3 13 4)) = 0 then (if (f_X4_isFigure S3 13 (gI S3 13 4)) = 0 then (bd ((if (gI S3 14 (gI S3 13 4).toNatClampNeg) = (59 : Int32) then (3 : Int32) else (4 : Int32))) fun x8 => bd ((sI S3 13 3 x8)) fun S9 => bd ((sI S9 13 5 ((gI S9 13 5) + (1 : Int32)))) fun S10 => S10) else (bd (f_X4_takeNumber S3 13) fun r11 => r11)) else (bd ((sI S3 13 3 (1 : Int32))) fun S12 => bd (L_X4_next_103 1000 S12 ) fun r13 => r13)) else (bd ((sI S3 13 3 (0 : Int32))) fun S14 => S14))) (pc' := 189) (lv' := [(0, .ref 13)]) (st' := []) ?_ (fun Jc4 => ?_)
  · generalize eS15 : (if (gI S3 13 4) < (gI S3 13 2) then (if (f_X4_isLetter S3 13 (gI S3 13 4)) = 0 then (if (f_X4_isFigure S3 13 (gI S3 13 4)) = 0 then (bd ((if (gI S3 14 (gI S3 13 4).toNatClampNeg) = (59 : Int32) then (3 : Int32) else (4 : Int32))) fun x8 => bd ((sI S3 13 3 x8)) fun S9 => bd ((sI S9 13 5 ((gI S9 13 5) + (1 : Int32)))) fun S10 => S10) else (bd (f_X4_takeNumber S3 13) fun r11 => r11)) else (bd ((sI S3 13 3 (1 : Int32))) fun S12 => bd (L_X4_next_103 1000 S12 ) fun r13 => r13)) else (bd ((sI S3 13 3 (0 : Int32))) fun S14 => S14)) = S15
    have hM : CS S15 := CS.of (by rw [← eS15]; repeat' (first | with_reducible rfl | with_reducible refine (qL_X4_next_103 _ _).trans ?_ | with_reducible refine (qL_X4_next_8 _ _).trans ?_ | with_reducible refine (q_X4_takeNumber _ _).trans ?_ | with_reducible refine (shp_sI _ _ _ _).trans ?_ | with_reducible refine (shp_sJ _ _ _ _).trans ?_ | with_reducible refine shi ?_ ?_ | with_reducible refine shb (fun _ _ => ?_) | (subst_vars; with_reducible rfl) | (subst_vars; with_reducible refine (qL_X4_next_103 _ _).trans ?_) | (subst_vars; with_reducible refine (qL_X4_next_8 _ _).trans ?_) | (subst_vars; with_reducible refine (q_X4_takeNumber _ _).trans ?_) | (subst_vars; with_reducible refine (shp_sI _ _ _ _).trans ?_) | (subst_vars; with_reducible refine (shp_sJ _ _ _ _).trans ?_) | (subst_vars; with_reducible refine shi ?_ ?_) | (subst_vars; with_reducible refine shb (fun _ _ => ?_)))) hM
    refine aw_vret hC dX4_next_189 (Nat.le_refl _) (Nat.le_refl _) ?_
    exact FP.qV ((bd_eq eS1).trans ((bd_eq er2).trans ((bd_eq eS3).trans ((bd_eq eS15).trans (rfl)))))
  · refine aw_icmp_lt hC 87 dX4_next_76 (by decide) (fun c4 => ?_) (fun c4 => ?_)
    · refine aw_aload_n hC 0 dX4_next_87 rfl rfl ?_
      refine aw_aload_n hC 0 dX4_next_88 rfl rfl ?_
      refine aw_getI hC hSt 4 (cs_lt 13 4 0 (by decide) hM) (cs_k 13 4 0 (by decide) hM) rfl (by decide) w_346 rfl dX4_next_89 ?_
      refine aw_cV1r hC hSt (t_X4_isLetter G l hM _ (h1 S1 eS1 r2 er2 S3 eS3 c4)) w_341 w_353 w_354 w_355 w_351 rfl rfl (by decide +kernel) ⟨Nat.le_of_ble_eq_true rfl, Nat.le_of_ble_eq_true rfl⟩ (cs_lt 13 4 0 (by decide) hM) (cs_k 13 4 0 (by decide) hM) rfl (Nat.le_of_ble_eq_true rfl) dX4_next_92 ⟨Nat.zero_le _, Nat.zero_le _⟩ ?_
      refine aw_if_eq hC 138 dX4_next_95 (by decide) (fun c5 => ?_) (fun c5 => ?_)
      · refine aw_aload_n hC 0 dX4_next_138 rfl rfl ?_
        refine aw_aload_n hC 0 dX4_next_139 rfl rfl ?_
        refine aw_getI hC hSt 4 (cs_lt 13 4 0 (by decide) hM) (cs_k 13 4 0 (by decide) hM) rfl (by decide) w_346 rfl dX4_next_140 ?_
        refine aw_cV1r hC hSt (t_X4_isFigure G l hM _ (h2 S1 eS1 r2 er2 S3 eS3 c4 c5)) w_342 w_348 w_349 w_350 w_351 rfl rfl (by decide +kernel) ⟨Nat.le_of_ble_eq_true rfl, Nat.le_of_ble_eq_true rfl⟩ (cs_lt 13 4 0 (by decide) hM) (cs_k 13 4 0 (by decide) hM) rfl (Nat.le_of_ble_eq_true rfl) dX4_next_143 ⟨Nat.zero_le _, Nat.zero_le _⟩ ?_
        refine aw_if_eq hC 156 dX4_next_146 (by decide) (fun c6 => ?_) (fun c6 => ?_)
        · refine aw_aload_n hC 0 dX4_next_156 rfl rfl ?_
          refine aw_aload_n hC 0 dX4_next_157 rfl rfl ?_
          refine aw_getP (b := 14) hC hSt 0 (cs_lt 13 4 0 (by decide) hM) (cs_k 13 4 0 (by decide) hM) rfl (by decide) w_322 rfl (cs_p 13 0 14 (by decide) hM) dX4_next_158 ?_
          refine aw_aload_n hC 0 dX4_next_161 rfl rfl ?_
          refine aw_getI hC hSt 4 (cs_lt 13 4 0 (by decide) hM) (cs_k 13 4 0 (by decide) hM) rfl (by decide) w_346 rfl dX4_next_162 ?_
          refine aw_bald hC hSt (cs_lt 14 13 600 (by decide) hM) (cs_k 14 13 600 (by decide) hM) (vp_len (n := 600) (cs_l 14 13 600 (by decide) hM) (h3 S1 eS1 r2 er2 S3 eS3 c4 c5 c6)) dX4_next_165 ?_
          refine aw_bipush (v := 59) hC dX4_next_166 (by decide) ?_
          refine aw_cut (S' := S3) (pc' := 176) (lv' := [(0, .ref 13)]) (st' := [.int (if (gI S3 14 (gI S3 13 4).toNatClampNeg) = (59 : Int32) then (3 : Int32) else (4 : Int32)), .ref 13]) ?_ (fun Jc7 => ?_)
          · generalize ex8 : (if (gI S3 14 (gI S3 13 4).toNatClampNeg) = (59 : Int32) then (3 : Int32) else (4 : Int32)) = x8
            refine aw_putI hC hSt 3 (cs_lt 13 4 0 (by decide) hM) (cs_k 13 4 0 (by decide) hM) rfl (by decide) w_347 rfl rfl rfl rfl dX4_next_176 ?_
            generalize eS9 : (sI S3 13 3 x8) = S9
            have hM : CS S9 := CS.of (by rw [← eS9]; exact shp_sI _ _ _ _) hM
            refine aw_aload_n hC 0 dX4_next_179 rfl rfl ?_
            refine aw_dup hC dX4_next_180 rfl ?_
            refine aw_getI hC hSt 5 (cs_lt 13 4 0 (by decide) hM) (cs_k 13 4 0 (by decide) hM) rfl (by decide) w_345 rfl dX4_next_181 ?_
            refine aw_iconst (v := 1) hC dX4_next_184 (by decide) ?_
            refine aw_iadd hC dX4_next_185 ?_
            refine aw_putI hC hSt 5 (cs_lt 13 4 0 (by decide) hM) (cs_k 13 4 0 (by decide) hM) rfl (by decide) w_345 rfl rfl rfl rfl dX4_next_186 ?_
            generalize eS10 : (sI S9 13 5 ((gI S9 13 5) + (1 : Int32))) = S10
            have hM : CS S10 := CS.of (by rw [← eS10]; exact shp_sI _ _ _ _) hM
            subst eS10
            subst eS9
            subst ex8
            simp only [bd_def, if_pos c4, if_pos c5, if_pos c6] at Jc4 ⊢
            exact Jc4
          · refine aw_icmp_ne hC 175 dX4_next_168 (by decide) (fun c7 => ?_) (fun c7 => ?_)
            · refine aw_iconst (v := 4) hC dX4_next_175 (by decide) ?_
              simp only [bd_def, if_neg c7] at Jc7 ⊢
              exact Jc7
            · refine aw_iconst (v := 3) hC dX4_next_171 (by decide) ?_
              refine aw_goto hC 176 dX4_next_172 (by decide) ?_
              simp only [bd_def, if_pos c7] at Jc7 ⊢
              exact Jc7
        · refine aw_aload_n hC 0 dX4_next_149 rfl rfl ?_
          refine aw_cV0v hC hSt (t_X4_takeNumber G l hM  (h4 S1 eS1 r2 er2 S3 eS3 c4 c5 c6)) w_343 w_356 w_357 w_358 w_351 rfl rfl (by decide +kernel) ⟨Nat.le_of_ble_eq_true rfl, Nat.le_of_ble_eq_true rfl⟩ (cs_lt 13 4 0 (by decide) hM) (cs_k 13 4 0 (by decide) hM) rfl (Nat.le_of_ble_eq_true rfl) dX4_next_150 ⟨Nat.zero_le _, Nat.zero_le _⟩ ?_
          generalize er11 : f_X4_takeNumber S3 13 = r11
          have hM : CS r11 := CS.of (by rw [← er11]; exact q_X4_takeNumber _ _) hM
          refine aw_goto hC 189 dX4_next_153 (by decide) ?_
          subst er11
          simp only [bd_def, if_pos c4, if_pos c5, if_neg c6] at Jc4 ⊢
          exact Jc4
      · refine aw_aload_n hC 0 dX4_next_98 rfl rfl ?_
        refine aw_iconst (v := 1) hC dX4_next_99 (by decide) ?_
        refine aw_putI hC hSt 3 (cs_lt 13 4 0 (by decide) hM) (cs_k 13 4 0 (by decide) hM) rfl (by decide) w_347 rfl rfl rfl rfl dX4_next_100 ?_
        generalize eS12 : (sI S3 13 3 (1 : Int32)) = S12
        have hM : CS S12 := CS.of (by rw [← eS12]; exact shp_sI _ _ _ _) hM
        refine aw_sub [0] rfl ?_
        refine l_X4_next_103 hC hSt 1000 _ hM (h5 S1 eS1 r2 er2 S3 eS3 c4 c5 S12 eS12) ?_
        generalize er13 : L_X4_next_103 1000 S12  = r13
        have hM : CS r13 := CS.of (by rw [← er13]; exact qL_X4_next_103 _ _) hM
        subst er13
        subst eS12
        simp only [bd_def, if_pos c4, if_neg c5] at Jc4 ⊢
        exact Jc4
    · refine aw_aload_n hC 0 dX4_next_79 rfl rfl ?_
      refine aw_iconst (v := 0) hC dX4_next_80 (by decide) ?_
      refine aw_putI hC hSt 3 (cs_lt 13 4 0 (by decide) hM) (cs_k 13 4 0 (by decide) hM) rfl (by decide) w_347 rfl rfl rfl rfl dX4_next_81 ?_
      generalize eS14 : (sI S3 13 3 (0 : Int32)) = S14
      have hM : CS S14 := CS.of (by rw [← eS14]; exact shp_sI _ _ _ _) hM
      refine aw_goto hC 189 dX4_next_84 (by decide) ?_
      subst eS14
      simp only [bd_def, if_neg c4] at Jc4 ⊢
      exact Jc4
theorem q_X4_next (S : HSt) (_o0 : Nat) : shp (f_X4_next S _o0) = shp S := by
  unfold f_X4_next
  repeat' (first | with_reducible rfl | with_reducible refine (q_X4_takeNumber _ _).trans ?_ | with_reducible refine (qL_X4_next_8 _ _).trans ?_ | with_reducible refine (qL_X4_next_103 _ _).trans ?_ | with_reducible refine (shp_sI _ _ _ _).trans ?_ | with_reducible refine (shp_sJ _ _ _ _).trans ?_ | with_reducible refine shi ?_ ?_ | with_reducible refine shb (fun _ _ => ?_) | (subst_vars; with_reducible rfl) | (subst_vars; with_reducible refine (q_X4_takeNumber _ _).trans ?_) | (subst_vars; with_reducible refine (qL_X4_next_8 _ _).trans ?_) | (subst_vars; with_reducible refine (qL_X4_next_103 _ _).trans ?_) | (subst_vars; with_reducible refine (shp_sI _ _ _ _).trans ?_) | (subst_vars; with_reducible refine (shp_sJ _ _ _ _).trans ?_) | (subst_vars; with_reducible refine shi ?_ ?_) | (subst_vars; with_reducible refine shb (fun _ _ => ?_)))
def f_X4_fail (S : HSt) (_o0 : Nat) (a1 : Int32) : Int32 × HSt := bd ((sI S 13 7 a1)) fun S1 => bd ((sI S1 13 8 (gI S1 13 4))) fun S2 => pr ((0 : Int32)) (S2)
set_option maxRecDepth 100000 in
theorem t_X4_fail (G : GG) (l : Launch) {S : HSt} (hM : CS S) (a1 : Int32)   : AM G l yX4_fail cX4_fail 2 (some .boolean) (rmD 0 0 0) 0 0 [.ref 13, .int a1] S (FP (some (.int (f_X4_fail S 13 a1).1)) ((f_X4_fail S 13 a1).2)) := by
  refine AM.mk (by decide) (Nat.le_of_ble_eq_true rfl) ?_
  intro p e s m below meth c hC hSt _
  refine aw_aload_n hC 0 dX4_fail_0 rfl rfl ?_
  refine aw_iload_n hC 1 dX4_fail_1 rfl rfl ?_
  refine aw_putI hC hSt 7 (cs_lt 13 4 0 (by decide) hM) (cs_k 13 4 0 (by decide) hM) rfl (by decide) w_331 rfl rfl rfl rfl dX4_fail_2 ?_
  generalize eS1 : (sI S 13 7 a1) = S1
  have hM : CS S1 := CS.of (by rw [← eS1]; exact shp_sI _ _ _ _) hM
  refine aw_aload_n hC 0 dX4_fail_5 rfl rfl ?_
  refine aw_aload_n hC 0 dX4_fail_6 rfl rfl ?_
  refine aw_getI hC hSt 4 (cs_lt 13 4 0 (by decide) hM) (cs_k 13 4 0 (by decide) hM) rfl (by decide) w_346 rfl dX4_fail_7 ?_
  refine aw_putI hC hSt 8 (cs_lt 13 4 0 (by decide) hM) (cs_k 13 4 0 (by decide) hM) rfl (by decide) w_333 rfl rfl rfl rfl dX4_fail_10 ?_
  generalize eS2 : (sI S1 13 8 (gI S1 13 4)) = S2
  have hM : CS S2 := CS.of (by rw [← eS2]; exact shp_sI _ _ _ _) hM
  refine aw_iconst (v := 0) hC dX4_fail_13 (by decide) ?_
  refine aw_zret hC dX4_fail_14 (Nat.le_refl _) (Nat.le_refl _) (by decide) ?_
  exact FP.qI ((bd_eq eS1).trans ((bd_eq eS2).trans (rfl)))
theorem q_X4_fail (S : HSt) (_o0 : Nat) (a1 : Int32) : shp ((f_X4_fail S _o0 a1).2) = shp S := by
  unfold f_X4_fail
  repeat' (first | with_reducible refine shpr1 ?_ | with_reducible rfl | with_reducible refine (shp_sI _ _ _ _).trans ?_ | with_reducible refine (shp_sJ _ _ _ _).trans ?_ | with_reducible refine shi ?_ ?_ | with_reducible refine shb (fun _ _ => ?_) | with_reducible refine shiP (fun q : Int32 × HSt => q.2) ?_ ?_ | with_reducible refine shbP (fun q : Int32 × HSt => q.2) (fun _ _ => ?_) | (subst_vars; with_reducible rfl) | (subst_vars; with_reducible refine (shp_sI _ _ _ _).trans ?_) | (subst_vars; with_reducible refine (shp_sJ _ _ _ _).trans ?_) | (subst_vars; with_reducible refine shi ?_ ?_) | (subst_vars; with_reducible refine shb (fun _ _ => ?_)))
def F_X4_lowOf (S : HSt) (_o0 : Nat) (a1 : Int32) (a2 : Int32) (a3 : Int32) : Int32 × HSt := bd ((if a1 = (3 : Int32) then (if (a2 - a2 / (2 : Int32) * (2 : Int32)) = (1 : Int32) then (1 : Int32) else (0 : Int32)) else (0 : Int32))) fun x3 => bd ((if x3 = 0 then ((tbF 4).getD ((a1 * (5 : Int32)) + a2).toNatClampNeg 0) else (f_X10_value S 15 (3 : Int32) a3 (a2 - (1 : Int32))))) fun x5 => pr (x5) (S)
def f_X4_lowOf (S : HSt) (_o0 : Nat) (a1 : Int32) (a2 : Int32) (a3 : Int32) : Int32 := (F_X4_lowOf S _o0 a1 a2 a3).1
def p_X4_lowOf (S : HSt) (_o0 : Nat) (a1 : Int32) (a2 : Int32) (a3 : Int32) : Prop := (∀ x3 : Int32, (if a1 = (3 : Int32) then (if (a2 - a2 / (2 : Int32) * (2 : Int32)) = (1 : Int32) then (1 : Int32) else (0 : Int32)) else (0 : Int32)) = x3 → (x3 = 0) → vp_in ((a1 * (5 : Int32)) + a2) (tbF 4).length) ∧ (∀ x3 : Int32, (if a1 = (3 : Int32) then (if (a2 - a2 / (2 : Int32) * (2 : Int32)) = (1 : Int32) then (1 : Int32) else (0 : Int32)) else (0 : Int32)) = x3 → (¬ x3 = 0) → p_X10_value S 15 (3 : Int32) a3 (a2 - (1 : Int32)))
set_option maxRecDepth 100000 in
theorem t_X4_lowOf (G : GG) (l : Launch) {S : HSt} (hM : CS S) (a1 : Int32) (a2 : Int32) (a3 : Int32)  (hp : p_X4_lowOf S 13 a1 a2 a3) : AM G l yX4_lowOf cX4_lowOf 5 (some .int) (rmD 1 0 0) 0 0 [.ref 13, .int a1, .int a2, .int a3] S (FP (some (.int (f_X4_lowOf S 13 a1 a2 a3))) (S)) := by
  obtain ⟨h0, h1⟩ := hp
  refine AM.mk (by decide) (Nat.le_of_ble_eq_true rfl) ?_
  intro p e s m below meth c hC hSt _
  refine aw_iload_n hC 1 dX4_lowOf_0 rfl rfl ?_
  refine aw_iconst (v := 3) hC dX4_lowOf_1 (by decide) ?_
  refine aw_cut (S' := S) (pc' := 17) (lv' := [(0, .ref 13), (1, .int a1), (2, .int a2), (3, .int a3)]) (st' := [.int (if a1 = (3 : Int32) then (if (a2 - a2 / (2 : Int32) * (2 : Int32)) = (1 : Int32) then (1 : Int32) else (0 : Int32)) else (0 : Int32))]) ?_ (fun Jc1 => ?_)
  · generalize ex3 : (if a1 = (3 : Int32) then (if (a2 - a2 / (2 : Int32) * (2 : Int32)) = (1 : Int32) then (1 : Int32) else (0 : Int32)) else (0 : Int32)) = x3
    refine aw_istore hC [(4, .int _), (0, .ref 13), (1, .int _), (2, .int _), (3, .int _)] dX4_lowOf_17 (by decide) rfl ?_
    refine aw_iload hC 0 dX4_lowOf_19 rfl ?_
    refine aw_cut (S' := S) (pc' := 48) (lv' := [(4, .int x3), (0, .ref 13), (1, .int a1), (2, .int a2), (3, .int a3)]) (st' := [.int (if x3 = 0 then ((tbF 4).getD ((a1 * (5 : Int32)) + a2).toNatClampNeg 0) else (f_X10_value S 15 (3 : Int32) a3 (a2 - (1 : Int32))))]) ?_ (fun Jc4 => ?_)
    · generalize ex5 : (if x3 = 0 then ((tbF 4).getD ((a1 * (5 : Int32)) + a2).toNatClampNeg 0) else (f_X10_value S 15 (3 : Int32) a3 (a2 - (1 : Int32)))) = x5
      refine aw_iret hC dX4_lowOf_48 (Nat.le_refl _) (Nat.le_refl _) ?_
      exact FP.pI ((bd_eq ex3).trans ((bd_eq ex5).trans (rfl)))
    · refine aw_if_eq hC 39 dX4_lowOf_21 (by decide) (fun c4 => ?_) (fun c4 => ?_)
      · refine aw_gets hC hSt 4 (by decide) w_419 dX4_lowOf_39 ?_
        refine aw_iload_n hC 2 dX4_lowOf_42 rfl rfl ?_
        refine aw_iconst (v := 5) hC dX4_lowOf_43 (by decide) ?_
        refine aw_imul hC dX4_lowOf_44 ?_
        refine aw_iload_n hC 3 dX4_lowOf_45 rfl rfl ?_
        refine aw_iadd hC dX4_lowOf_46 ?_
        refine aw_tld hC hSt 4 (by decide) ((h0 x3 ex3 c4)) dX4_lowOf_47 ?_
        simp only [bd_def, if_pos c4] at Jc4 ⊢
        exact Jc4
      · refine aw_aload_n hC 1 dX4_lowOf_24 rfl rfl ?_
        refine aw_getP (b := 15) hC hSt 1 (cs_lt 13 4 0 (by decide) hM) (cs_k 13 4 0 (by decide) hM) rfl (by decide) w_325 rfl (cs_p 13 1 15 (by decide) hM) dX4_lowOf_25 ?_
        refine aw_iconst (v := 3) hC dX4_lowOf_28 (by decide) ?_
        refine aw_iload_n hC 4 dX4_lowOf_29 rfl rfl ?_
        refine aw_iload_n hC 3 dX4_lowOf_30 rfl rfl ?_
        refine aw_iconst (v := 1) hC dX4_lowOf_31 (by decide) ?_
        refine aw_isub hC dX4_lowOf_32 ?_
        refine aw_cV3r hC hSt (t_X10_value G l hM _ _ _ _ (by decide) (h1 x3 ex3 c4)) w_10 w_420 w_16 w_17 w_18 rfl rfl (by decide +kernel) ⟨Nat.le_of_ble_eq_true rfl, Nat.le_of_ble_eq_true rfl⟩ (cs_lt 15 10 0 (by decide) hM) (cs_k 15 10 0 (by decide) hM) rfl (Nat.le_of_ble_eq_true rfl) dX4_lowOf_33 ⟨Nat.zero_le _, Nat.zero_le _⟩ ?_
        refine aw_goto hC 48 dX4_lowOf_36 (by decide) ?_
        simp only [bd_def, if_neg c4] at Jc4 ⊢
        exact Jc4
  · refine aw_icmp_ne hC 16 dX4_lowOf_2 (by decide) (fun c1 => ?_) (fun c1 => ?_)
    · refine aw_iconst (v := 0) hC dX4_lowOf_16 (by decide) ?_
      simp only [bd_def, if_neg c1] at Jc1 ⊢
      exact Jc1
    · refine aw_iload_n hC 2 dX4_lowOf_5 rfl rfl ?_
      refine aw_iconst (v := 2) hC dX4_lowOf_6 (by decide) ?_
      refine aw_irem hC dX4_lowOf_7 (by decide) ?_
      refine aw_iconst (v := 1) hC dX4_lowOf_8 (by decide) ?_
      refine aw_icmp_ne hC 16 dX4_lowOf_9 (by decide) (fun c2 => ?_) (fun c2 => ?_)
      · refine aw_iconst (v := 0) hC dX4_lowOf_16 (by decide) ?_
        simp only [bd_def, if_pos c1, if_neg c2] at Jc1 ⊢
        exact Jc1
      · refine aw_iconst (v := 1) hC dX4_lowOf_12 (by decide) ?_
        refine aw_goto hC 17 dX4_lowOf_13 (by decide) ?_
        simp only [bd_def, if_pos c1, if_pos c2] at Jc1 ⊢
        exact Jc1
def F_X4_highOf (S : HSt) (_o0 : Nat) (a1 : Int32) (a2 : Int32) : Int32 × HSt := bd ((if a1 = (7 : Int32) then (1 : Int32) else (if a1 = (8 : Int32) then (1 : Int32) else (0 : Int32)))) fun x3 => bd ((if x3 = 0 then ((tbF 5).getD ((a1 * (5 : Int32)) + a2).toNatClampNeg 0) else ((f_X10_howMany S 15 (2 : Int32)) - (1 : Int32)))) fun x5 => pr (x5) (S)
def f_X4_highOf (S : HSt) (_o0 : Nat) (a1 : Int32) (a2 : Int32) : Int32 := (F_X4_highOf S _o0 a1 a2).1
def p_X4_highOf (S : HSt) (_o0 : Nat) (a1 : Int32) (a2 : Int32) : Prop := (∀ x3 : Int32, (if a1 = (7 : Int32) then (1 : Int32) else (if a1 = (8 : Int32) then (1 : Int32) else (0 : Int32))) = x3 → (x3 = 0) → vp_in ((a1 * (5 : Int32)) + a2) (tbF 5).length) ∧ (∀ x3 : Int32, (if a1 = (7 : Int32) then (1 : Int32) else (if a1 = (8 : Int32) then (1 : Int32) else (0 : Int32))) = x3 → (¬ x3 = 0) → p_X10_howMany S 15 (2 : Int32))
set_option maxRecDepth 100000 in
theorem t_X4_highOf (G : GG) (l : Launch) {S : HSt} (hM : CS S) (a1 : Int32) (a2 : Int32)  (hp : p_X4_highOf S 13 a1 a2) : AM G l yX4_highOf cX4_highOf 4 (some .int) (rmD 1 0 0) 0 0 [.ref 13, .int a1, .int a2] S (FP (some (.int (f_X4_highOf S 13 a1 a2))) (S)) := by
  obtain ⟨h0, h1⟩ := hp
  refine AM.mk (by decide) (Nat.le_of_ble_eq_true rfl) ?_
  intro p e s m below meth c hC hSt _
  refine aw_iload_n hC 1 dX4_highOf_0 rfl rfl ?_
  refine aw_bipush (v := 7) hC dX4_highOf_1 (by decide) ?_
  refine aw_cut (S' := S) (pc' := 17) (lv' := [(0, .ref 13), (1, .int a1), (2, .int a2)]) (st' := [.int (if a1 = (7 : Int32) then (1 : Int32) else (if a1 = (8 : Int32) then (1 : Int32) else (0 : Int32)))]) ?_ (fun Jc1 => ?_)
  · generalize ex3 : (if a1 = (7 : Int32) then (1 : Int32) else (if a1 = (8 : Int32) then (1 : Int32) else (0 : Int32))) = x3
    refine aw_istore_n hC [(3, .int _), (0, .ref 13), (1, .int _), (2, .int _)] dX4_highOf_17 rfl (by decide) rfl ?_
    refine aw_iload_n hC 0 dX4_highOf_18 rfl rfl ?_
    refine aw_cut (S' := S) (pc' := 44) (lv' := [(3, .int x3), (0, .ref 13), (1, .int a1), (2, .int a2)]) (st' := [.int (if x3 = 0 then ((tbF 5).getD ((a1 * (5 : Int32)) + a2).toNatClampNeg 0) else ((f_X10_howMany S 15 (2 : Int32)) - (1 : Int32)))]) ?_ (fun Jc4 => ?_)
    · generalize ex5 : (if x3 = 0 then ((tbF 5).getD ((a1 * (5 : Int32)) + a2).toNatClampNeg 0) else ((f_X10_howMany S 15 (2 : Int32)) - (1 : Int32))) = x5
      refine aw_iret hC dX4_highOf_44 (Nat.le_refl _) (Nat.le_refl _) ?_
      exact FP.pI ((bd_eq ex3).trans ((bd_eq ex5).trans (rfl)))
    · refine aw_if_eq hC 35 dX4_highOf_19 (by decide) (fun c4 => ?_) (fun c4 => ?_)
      · refine aw_gets hC hSt 5 (by decide) w_422 dX4_highOf_35 ?_
        refine aw_iload_n hC 2 dX4_highOf_38 rfl rfl ?_
        refine aw_iconst (v := 5) hC dX4_highOf_39 (by decide) ?_
        refine aw_imul hC dX4_highOf_40 ?_
        refine aw_iload_n hC 3 dX4_highOf_41 rfl rfl ?_
        refine aw_iadd hC dX4_highOf_42 ?_
        refine aw_tld hC hSt 5 (by decide) ((h0 x3 ex3 c4)) dX4_highOf_43 ?_
        simp only [bd_def, if_pos c4] at Jc4 ⊢
        exact Jc4
      · refine aw_aload_n hC 1 dX4_highOf_22 rfl rfl ?_
        refine aw_getP (b := 15) hC hSt 1 (cs_lt 13 4 0 (by decide) hM) (cs_k 13 4 0 (by decide) hM) rfl (by decide) w_325 rfl (cs_p 13 1 15 (by decide) hM) dX4_highOf_23 ?_
        refine aw_iconst (v := 2) hC dX4_highOf_26 (by decide) ?_
        refine aw_cV1r hC hSt (t_X10_howMany G l hM _ _ (by decide) (h1 x3 ex3 c4)) w_152 w_423 w_237 w_238 w_18 rfl rfl (by decide +kernel) ⟨Nat.le_of_ble_eq_true rfl, Nat.le_of_ble_eq_true rfl⟩ (cs_lt 15 10 0 (by decide) hM) (cs_k 15 10 0 (by decide) hM) rfl (Nat.le_of_ble_eq_true rfl) dX4_highOf_27 ⟨Nat.zero_le _, Nat.zero_le _⟩ ?_
        refine aw_iconst (v := 1) hC dX4_highOf_30 (by decide) ?_
        refine aw_isub hC dX4_highOf_31 ?_
        refine aw_goto hC 44 dX4_highOf_32 (by decide) ?_
        simp only [bd_def, if_neg c4] at Jc4 ⊢
        exact Jc4
  · refine aw_icmp_eq hC 12 dX4_highOf_3 (by decide) (fun c1 => ?_) (fun c1 => ?_)
    · refine aw_iconst (v := 1) hC dX4_highOf_12 (by decide) ?_
      refine aw_goto hC 17 dX4_highOf_13 (by decide) ?_
      simp only [bd_def, if_pos c1] at Jc1 ⊢
      exact Jc1
    · refine aw_iload_n hC 1 dX4_highOf_6 rfl rfl ?_
      refine aw_bipush (v := 8) hC dX4_highOf_7 (by decide) ?_
      refine aw_icmp_ne hC 16 dX4_highOf_9 (by decide) (fun c2 => ?_) (fun c2 => ?_)
      · refine aw_iconst (v := 0) hC dX4_highOf_16 (by decide) ?_
        simp only [bd_def, if_neg c1, if_neg c2] at Jc1 ⊢
        exact Jc1
      · refine aw_iconst (v := 1) hC dX4_highOf_12 (by decide) ?_
        refine aw_goto hC 17 dX4_highOf_13 (by decide) ?_
        simp only [bd_def, if_neg c1, if_pos c2] at Jc1 ⊢
        exact Jc1
def L_X4_readThing_28 : Nat → HSt → Int32 → Int32 → Int32 → Int32 → Int32 → Int32 × Int32 × Int32 × Int32 × Int32 × Int32 × Int32 × HSt
  | 0, S, v1, v2, v3, v4, v5 => ((1 : Int32), 0, v1, v2, v3, v4, v5, S)
  | n + 1, S, v1, v2, v3, v4, v5 =>
    if ((tbF 3).getD v1.toNatClampNeg 0) ≤ v5 then ((pr ((0 : Int32)) (pr (0) (pr (v1) (pr (v2) (pr (v3) (pr (v4) (pr (v5) (S))))))))) else (if (gI S 13 3) = (2 : Int32) then (if (gI S 13 6) < (f_X4_lowOf S 13 v1 v5 v3) then (bd (f_X4_fail S 13 (2 : Int32)) fun r1008 => (pr ((1 : Int32)) (pr (r1008.1) (pr (v1) (pr (v2) (pr (v3) (pr (v4) (pr (v5) (r1008.2))))))))) else (if (gI S 13 6) ≤ (f_X4_highOf S 13 v1 v5) then (bd (f_X10_put S 15 v2 v3 (v4 + v5) (gI S 13 6)) fun r1010 => bd (f_X4_next r1010 13) fun r1011 => L_X4_readThing_28 n r1011 v1 v2 v3 v4 (v5 + (1 : Int32))) else (bd (f_X4_fail S 13 (2 : Int32)) fun r1012 => (pr ((1 : Int32)) (pr (r1012.1) (pr (v1) (pr (v2) (pr (v3) (pr (v4) (pr (v5) (r1012.2))))))))))) else (bd (f_X4_fail S 13 (1 : Int32)) fun r1013 => (pr ((1 : Int32)) (pr (r1013.1) (pr (v1) (pr (v2) (pr (v3) (pr (v4) (pr (v5) (r1013.2))))))))))
def T_X4_readThing_28 : Nat → HSt → Int32 → Int32 → Int32 → Int32 → Int32 → Prop
  | 0, _, _, _, _, _, _ => False
  | n + 1, S, v1, v2, v3, v4, v5 => (vp_in v1 (tbF 3).length) ∧ ((¬ ((tbF 3).getD v1.toNatClampNeg 0) ≤ v5) → ((gI S 13 3) = (2 : Int32)) → p_X4_lowOf S 13 v1 v5 v3) ∧ ((¬ ((tbF 3).getD v1.toNatClampNeg 0) ≤ v5) → ((gI S 13 3) = (2 : Int32)) → ((gI S 13 6) < (f_X4_lowOf S 13 v1 v5 v3)) → ∀ r1008, f_X4_fail S 13 (2 : Int32) = r1008 → Bz r1008.1) ∧ ((¬ ((tbF 3).getD v1.toNatClampNeg 0) ≤ v5) → ((gI S 13 3) = (2 : Int32)) → (¬ (gI S 13 6) < (f_X4_lowOf S 13 v1 v5 v3)) → p_X4_highOf S 13 v1 v5) ∧ ((¬ ((tbF 3).getD v1.toNatClampNeg 0) ≤ v5) → ((gI S 13 3) = (2 : Int32)) → (¬ (gI S 13 6) < (f_X4_lowOf S 13 v1 v5 v3)) → ((gI S 13 6) ≤ (f_X4_highOf S 13 v1 v5)) → p_X10_put S 15 v2 v3 (v4 + v5) (gI S 13 6)) ∧ ((¬ ((tbF 3).getD v1.toNatClampNeg 0) ≤ v5) → ((gI S 13 3) = (2 : Int32)) → (¬ (gI S 13 6) < (f_X4_lowOf S 13 v1 v5 v3)) → ((gI S 13 6) ≤ (f_X4_highOf S 13 v1 v5)) → ∀ r1010, f_X10_put S 15 v2 v3 (v4 + v5) (gI S 13 6) = r1010 → p_X4_next r1010 13) ∧ ((¬ ((tbF 3).getD v1.toNatClampNeg 0) ≤ v5) → ((gI S 13 3) = (2 : Int32)) → (¬ (gI S 13 6) < (f_X4_lowOf S 13 v1 v5 v3)) → ((gI S 13 6) ≤ (f_X4_highOf S 13 v1 v5)) → ∀ r1010, f_X10_put S 15 v2 v3 (v4 + v5) (gI S 13 6) = r1010 → ∀ r1011, f_X4_next r1010 13 = r1011 → T_X4_readThing_28 n r1011 v1 v2 v3 v4 (v5 + (1 : Int32))) ∧ ((¬ ((tbF 3).getD v1.toNatClampNeg 0) ≤ v5) → ((gI S 13 3) = (2 : Int32)) → (¬ (gI S 13 6) < (f_X4_lowOf S 13 v1 v5 v3)) → (¬ (gI S 13 6) ≤ (f_X4_highOf S 13 v1 v5)) → ∀ r1012, f_X4_fail S 13 (2 : Int32) = r1012 → Bz r1012.1) ∧ ((¬ ((tbF 3).getD v1.toNatClampNeg 0) ≤ v5) → (¬ (gI S 13 3) = (2 : Int32)) → ∀ r1013, f_X4_fail S 13 (1 : Int32) = r1013 → Bz r1013.1)
theorem qL_X4_readThing_28 : ∀ (n : Nat) (S : HSt) (v1 : Int32) (v2 : Int32) (v3 : Int32) (v4 : Int32) (v5 : Int32), shp (L_X4_readThing_28 n S v1 v2 v3 v4 v5).2.2.2.2.2.2.2 = shp S := by
  intro n
  induction n with
  | zero => intros; rfl
  | succ n ih =>
    intro S v1 v2 v3 v4 v5
    unfold L_X4_readThing_28
    repeat' (first | with_reducible refine shpr7 ?_ | with_reducible rfl | with_reducible refine (ih _ _ _ _ _ _).trans ?_ | with_reducible refine (q_X10_add _ _ _).trans ?_ | with_reducible refine (q_X10_put _ _ _ _ _ _).trans ?_ | with_reducible refine (q_X4_fail _ _ _).trans ?_ | with_reducible refine (q_X4_next _ _).trans ?_ | with_reducible refine (shp_sI _ _ _ _).trans ?_ | with_reducible refine (shp_sJ _ _ _ _).trans ?_ | with_reducible refine shi ?_ ?_ | with_reducible refine shb (fun _ _ => ?_) | with_reducible refine shiP (fun q : Int32 × Int32 × Int32 × Int32 × Int32 × Int32 × Int32 × HSt => q.2.2.2.2.2.2.2) ?_ ?_ | with_reducible refine shbP (fun q : Int32 × Int32 × Int32 × Int32 × Int32 × Int32 × Int32 × HSt => q.2.2.2.2.2.2.2) (fun _ _ => ?_) | (subst_vars; with_reducible rfl) | (subst_vars; with_reducible refine (ih _ _ _ _ _ _).trans ?_) | (subst_vars; with_reducible refine (q_X10_add _ _ _).trans ?_) | (subst_vars; with_reducible refine (q_X10_put _ _ _ _ _ _).trans ?_) | (subst_vars; with_reducible refine (q_X4_fail _ _ _).trans ?_) | (subst_vars; with_reducible refine (q_X4_next _ _).trans ?_) | (subst_vars; with_reducible refine (shp_sI _ _ _ _).trans ?_) | (subst_vars; with_reducible refine (shp_sJ _ _ _ _).trans ?_) | (subst_vars; with_reducible refine shi ?_ ?_) | (subst_vars; with_reducible refine shb (fun _ _ => ?_)))
set_option maxRecDepth 100000 in
theorem l_X4_readThing_28 {p : Program} {l : Launch} {e : Env} {s : State} {m : MethodId} {args : Array Value} {below : List Frame} {meth : Method} {c : Code} {G : GG} {Post : Option Value → HSt → Prop} (hC : ACx p s m args meth c cX4_readThing RX4 6 (some .boolean)) (hSt : St G s)   : ∀ (n : Nat) (S : HSt) (v1 : Int32) (v2 : Int32) (v3 : Int32) (v4 : Int32) (v5 : Int32), CS S → T_X4_readThing_28 n S v1 v2 v3 v4 v5 → ((L_X4_readThing_28 n S v1 v2 v3 v4 v5).1 = 1 → Post (some (.int (L_X4_readThing_28 n S v1 v2 v3 v4 v5).2.1)) (L_X4_readThing_28 n S v1 v2 v3 v4 v5).2.2.2.2.2.2.2) → ((L_X4_readThing_28 n S v1 v2 v3 v4 v5).1 ≠ 1 → AW p l e (rmD 3 0 0) s m args below meth c G 6 (AQ G below args s 0 0 Post) (L_X4_readThing_28 n S v1 v2 v3 v4 v5).2.2.2.2.2.2.2 0 0 115 [(0, .ref 13), (1, .int (L_X4_readThing_28 n S v1 v2 v3 v4 v5).2.2.1), (2, .int (L_X4_readThing_28 n S v1 v2 v3 v4 v5).2.2.2.1), (3, .int (L_X4_readThing_28 n S v1 v2 v3 v4 v5).2.2.2.2.1), (4, .int (L_X4_readThing_28 n S v1 v2 v3 v4 v5).2.2.2.2.2.1), (5, .int (L_X4_readThing_28 n S v1 v2 v3 v4 v5).2.2.2.2.2.2.1)] []) → AW p l e (rmD 3 0 0) s m args below meth c G 6 (AQ G below args s 0 0 Post) S 0 0 28 [(0, .ref 13), (1, .int v1), (2, .int v2), (3, .int v3), (4, .int v4), (5, .int v5)] [] := by
  intro n
  induction n with
  | zero => intro S v1 v2 v3 v4 v5 _ hT; exact hT.elim
  | succ n ih =>
    intro S v1 v2 v3 v4 v5 hM hT hr hk
    unfold T_X4_readThing_28 at hT
    obtain ⟨h0, h1, h2, h3, h4, h5, h6, h7, h8⟩ := hT
    refine aw_iload hC 5 dX4_readThing_28 rfl ?_
    refine aw_gets hC hSt 3 (by decide) w_428 dX4_readThing_30 ?_
    refine aw_iload_n hC 1 dX4_readThing_33 rfl rfl ?_
    refine aw_tld hC hSt 3 (by decide) ((h0)) dX4_readThing_34 ?_
    refine aw_icmp_ge hC 115 dX4_readThing_35 (by decide) (fun c1005 => ?_) (fun c1005 => ?_)
    · refine aw_sub [0, 1, 2, 3, 4, 5] rfl ?_
      have E : L_X4_readThing_28 (n + 1) S v1 v2 v3 v4 v5 = _ := (if_pos c1005).trans (rfl)
      rw [E] at hk hr
      exact hk (by show ¬ (0 : Int32) = 1; decide)
    · refine aw_aload_n hC 0 dX4_readThing_38 rfl rfl ?_
      refine aw_getI hC hSt 3 (cs_lt 13 4 0 (by decide) hM) (cs_k 13 4 0 (by decide) hM) rfl (by decide) w_347 rfl dX4_readThing_39 ?_
      refine aw_iconst (v := 2) hC dX4_readThing_42 (by decide) ?_
      refine aw_icmp_eq hC 52 dX4_readThing_43 (by decide) (fun c1006 => ?_) (fun c1006 => ?_)
      · refine aw_aload_n hC 0 dX4_readThing_52 rfl rfl ?_
        refine aw_getI hC hSt 6 (cs_lt 13 4 0 (by decide) hM) (cs_k 13 4 0 (by decide) hM) rfl (by decide) w_344 rfl dX4_readThing_53 ?_
        refine aw_aload_n hC 0 dX4_readThing_56 rfl rfl ?_
        refine aw_iload_n hC 1 dX4_readThing_57 rfl rfl ?_
        refine aw_iload hC 5 dX4_readThing_58 rfl ?_
        refine aw_iload_n hC 3 dX4_readThing_60 rfl rfl ?_
        refine aw_cV3r hC hSt (t_X4_lowOf G l hM _ _ _ (h1 c1005 c1006)) w_418 w_435 w_436 w_437 w_351 rfl rfl (by decide +kernel) ⟨Nat.le_of_ble_eq_true rfl, Nat.le_of_ble_eq_true rfl⟩ (cs_lt 13 4 0 (by decide) hM) (cs_k 13 4 0 (by decide) hM) rfl (Nat.le_of_ble_eq_true rfl) dX4_readThing_61 ⟨Nat.zero_le _, Nat.zero_le _⟩ ?_
        refine aw_icmp_lt hC 81 dX4_readThing_64 (by decide) (fun c1007 => ?_) (fun c1007 => ?_)
        · refine aw_aload_n hC 0 dX4_readThing_81 rfl rfl ?_
          refine aw_iconst (v := 2) hC dX4_readThing_82 (by decide) ?_
          refine aw_cV1r hC hSt (t_X4_fail G l hM _) w_417 w_432 w_433 w_434 w_351 rfl rfl (by decide +kernel) ⟨Nat.le_of_ble_eq_true rfl, Nat.le_of_ble_eq_true rfl⟩ (cs_lt 13 4 0 (by decide) hM) (cs_k 13 4 0 (by decide) hM) rfl (Nat.le_of_ble_eq_true rfl) dX4_readThing_83 ⟨Nat.zero_le _, Nat.zero_le _⟩ ?_
          generalize er1008 : f_X4_fail S 13 (2 : Int32) = r1008
          have hM : CS r1008.2 := CS.of (by rw [← er1008]; exact q_X4_fail _ _ _) hM
          refine aw_zret hC dX4_readThing_86 (Nat.le_refl _) (Nat.le_refl _) (Bz.n (h2 c1005 c1006 c1007 r1008 er1008)) ?_
          have E : L_X4_readThing_28 (n + 1) S v1 v2 v3 v4 v5 = _ := (if_neg c1005).trans ((if_pos c1006).trans ((if_pos c1007).trans ((bd_eq er1008).trans (rfl))))
          rw [E] at hr
          exact hr rfl
        · refine aw_aload_n hC 0 dX4_readThing_67 rfl rfl ?_
          refine aw_getI hC hSt 6 (cs_lt 13 4 0 (by decide) hM) (cs_k 13 4 0 (by decide) hM) rfl (by decide) w_344 rfl dX4_readThing_68 ?_
          refine aw_aload_n hC 0 dX4_readThing_71 rfl rfl ?_
          refine aw_iload_n hC 1 dX4_readThing_72 rfl rfl ?_
          refine aw_iload hC 5 dX4_readThing_73 rfl ?_
          refine aw_cV2r hC hSt (t_X4_highOf G l hM _ _ (h3 c1005 c1006 c1007)) w_421 w_438 w_439 w_440 w_351 rfl rfl (by decide +kernel) ⟨Nat.le_of_ble_eq_true rfl, Nat.le_of_ble_eq_true rfl⟩ (cs_lt 13 4 0 (by decide) hM) (cs_k 13 4 0 (by decide) hM) rfl (Nat.le_of_ble_eq_true rfl) dX4_readThing_75 ⟨Nat.zero_le _, Nat.zero_le _⟩ ?_
          refine aw_icmp_le hC 87 dX4_readThing_78 (by decide) (fun c1009 => ?_) (fun c1009 => ?_)
          · refine aw_aload_n hC 0 dX4_readThing_87 rfl rfl ?_
            refine aw_getP (b := 15) hC hSt 1 (cs_lt 13 4 0 (by decide) hM) (cs_k 13 4 0 (by decide) hM) rfl (by decide) w_325 rfl (cs_p 13 1 15 (by decide) hM) dX4_readThing_88 ?_
            refine aw_iload_n hC 2 dX4_readThing_91 rfl rfl ?_
            refine aw_iload_n hC 3 dX4_readThing_92 rfl rfl ?_
            refine aw_iload hC 4 dX4_readThing_93 rfl ?_
            refine aw_iload hC 5 dX4_readThing_95 rfl ?_
            refine aw_iadd hC dX4_readThing_97 ?_
            refine aw_aload_n hC 0 dX4_readThing_98 rfl rfl ?_
            refine aw_getI hC hSt 6 (cs_lt 13 4 0 (by decide) hM) (cs_k 13 4 0 (by decide) hM) rfl (by decide) w_344 rfl dX4_readThing_99 ?_
            refine aw_cV4v hC hSt (t_X10_put G l hM _ _ _ _ _ (by decide) (h4 c1005 c1006 c1007 c1009)) w_335 w_441 w_339 w_340 w_18 rfl rfl (by decide +kernel) ⟨Nat.le_of_ble_eq_true rfl, Nat.le_of_ble_eq_true rfl⟩ (cs_lt 15 10 0 (by decide) hM) (cs_k 15 10 0 (by decide) hM) rfl (Nat.le_of_ble_eq_true rfl) dX4_readThing_102 ⟨Nat.zero_le _, Nat.zero_le _⟩ ?_
            generalize er1010 : f_X10_put S 15 v2 v3 (v4 + v5) (gI S 13 6) = r1010
            have hM : CS r1010 := CS.of (by rw [← er1010]; exact q_X10_put _ _ _ _ _ _) hM
            refine aw_aload_n hC 0 dX4_readThing_105 rfl rfl ?_
            refine aw_cV0v hC hSt (t_X4_next G l hM  (h5 c1005 c1006 c1007 c1009 r1010 er1010)) w_352 w_429 w_430 w_431 w_351 rfl rfl (by decide +kernel) ⟨Nat.le_of_ble_eq_true rfl, Nat.le_of_ble_eq_true rfl⟩ (cs_lt 13 4 0 (by decide) hM) (cs_k 13 4 0 (by decide) hM) rfl (Nat.le_of_ble_eq_true rfl) dX4_readThing_106 ⟨Nat.zero_le _, Nat.zero_le _⟩ ?_
            generalize er1011 : f_X4_next r1010 13 = r1011
            have hM : CS r1011 := CS.of (by rw [← er1011]; exact q_X4_next _ _) hM
            refine aw_iinc (v := (v5 + (1 : Int32))) hC 5 [(5, .int _), (0, .ref 13), (1, .int _), (2, .int _), (3, .int _), (4, .int _)] dX4_readThing_109 rfl rfl (by decide) rfl ?_
            refine aw_goto hC 28 dX4_readThing_112 (by decide) ?_
            refine aw_sub [1, 2, 3, 4, 5, 0] rfl ?_
            have hTn := (h6 c1005 c1006 c1007 c1009 r1010 er1010 r1011 er1011)
            have hMn : CS r1011 := hM
            have E : L_X4_readThing_28 (n + 1) S v1 v2 v3 v4 v5 = _ := (if_neg c1005).trans ((if_pos c1006).trans ((if_neg c1007).trans ((if_pos c1009).trans ((bd_eq er1010).trans ((bd_eq er1011).trans (rfl))))))
            rw [E] at hk hr
            exact ih _ _ _ _ _ _ hMn hTn hr hk
          · refine aw_aload_n hC 0 dX4_readThing_81 rfl rfl ?_
            refine aw_iconst (v := 2) hC dX4_readThing_82 (by decide) ?_
            refine aw_cV1r hC hSt (t_X4_fail G l hM _) w_417 w_432 w_433 w_434 w_351 rfl rfl (by decide +kernel) ⟨Nat.le_of_ble_eq_true rfl, Nat.le_of_ble_eq_true rfl⟩ (cs_lt 13 4 0 (by decide) hM) (cs_k 13 4 0 (by decide) hM) rfl (Nat.le_of_ble_eq_true rfl) dX4_readThing_83 ⟨Nat.zero_le _, Nat.zero_le _⟩ ?_
            generalize er1012 : f_X4_fail S 13 (2 : Int32) = r1012
            have hM : CS r1012.2 := CS.of (by rw [← er1012]; exact q_X4_fail _ _ _) hM
            refine aw_zret hC dX4_readThing_86 (Nat.le_refl _) (Nat.le_refl _) (Bz.n (h7 c1005 c1006 c1007 c1009 r1012 er1012)) ?_
            have E : L_X4_readThing_28 (n + 1) S v1 v2 v3 v4 v5 = _ := (if_neg c1005).trans ((if_pos c1006).trans ((if_neg c1007).trans ((if_neg c1009).trans ((bd_eq er1012).trans (rfl)))))
            rw [E] at hr
            exact hr rfl
      · refine aw_aload_n hC 0 dX4_readThing_46 rfl rfl ?_
        refine aw_iconst (v := 1) hC dX4_readThing_47 (by decide) ?_
        refine aw_cV1r hC hSt (t_X4_fail G l hM _) w_417 w_432 w_433 w_434 w_351 rfl rfl (by decide +kernel) ⟨Nat.le_of_ble_eq_true rfl, Nat.le_of_ble_eq_true rfl⟩ (cs_lt 13 4 0 (by decide) hM) (cs_k 13 4 0 (by decide) hM) rfl (Nat.le_of_ble_eq_true rfl) dX4_readThing_48 ⟨Nat.zero_le _, Nat.zero_le _⟩ ?_
        generalize er1013 : f_X4_fail S 13 (1 : Int32) = r1013
        have hM : CS r1013.2 := CS.of (by rw [← er1013]; exact q_X4_fail _ _ _) hM
        refine aw_zret hC dX4_readThing_51 (Nat.le_refl _) (Nat.le_refl _) (Bz.n (h8 c1005 c1006 r1013 er1013)) ?_
        have E : L_X4_readThing_28 (n + 1) S v1 v2 v3 v4 v5 = _ := (if_neg c1005).trans ((if_neg c1006).trans ((bd_eq er1013).trans (rfl)))
        rw [E] at hr
        exact hr rfl
def f_X4_readThing (S : HSt) (_o0 : Nat) (a1 : Int32) (a2 : Int32) : Int32 × HSt := bd ((f_X10_howMany S 15 a2)) fun x1 => bd ((if a2 = (5 : Int32) then (1 : Int32) else (0 : Int32))) fun x3 => bd (f_X4_next S 13) fun r4 => bd (L_X4_readThing_28 1000 r4 a1 a2 x1 x3 (0 : Int32)) fun r5 => if r5.1 = 1 then (pr (r5.2.1) (r5.2.2.2.2.2.2.2)) else (if (gI r5.2.2.2.2.2.2.2 13 3) = (3 : Int32) then (bd ((if r5.2.2.2.1 = (5 : Int32) then (bd (f_X10_put r5.2.2.2.2.2.2.2 15 (5 : Int32) r5.2.2.2.2.1 (0 : Int32) ((r5.2.2.1 - (5 : Int32)) + (2 : Int32))) fun r9 => r9) else r5.2.2.2.2.2.2.2)) fun S10 => bd (f_X10_add S10 15 r5.2.2.2.1) fun r11 => bd (f_X4_next r11 13) fun r12 => pr ((1 : Int32)) (r12)) else (bd (f_X4_fail r5.2.2.2.2.2.2.2 13 (1 : Int32)) fun r13 => pr (r13.1) (r13.2)))
def p_X4_readThing (S : HSt) (_o0 : Nat) (a1 : Int32) (a2 : Int32) : Prop := (p_X10_howMany S 15 a2) ∧ (∀ x1 : Int32, (f_X10_howMany S 15 a2) = x1 → ∀ x3 : Int32, (if a2 = (5 : Int32) then (1 : Int32) else (0 : Int32)) = x3 → p_X4_next S 13) ∧ (∀ x1 : Int32, (f_X10_howMany S 15 a2) = x1 → ∀ x3 : Int32, (if a2 = (5 : Int32) then (1 : Int32) else (0 : Int32)) = x3 → ∀ r4, f_X4_next S 13 = r4 → T_X4_readThing_28 1000 r4 a1 a2 x1 x3 (0 : Int32)) ∧ (∀ x1 : Int32, (f_X10_howMany S 15 a2) = x1 → ∀ x3 : Int32, (if a2 = (5 : Int32) then (1 : Int32) else (0 : Int32)) = x3 → ∀ r4, f_X4_next S 13 = r4 → ∀ r5, L_X4_readThing_28 1000 r4 a1 a2 x1 x3 (0 : Int32) = r5 → (¬ r5.1 = 1) → ((gI r5.2.2.2.2.2.2.2 13 3) = (3 : Int32)) → (r5.2.2.2.1 = (5 : Int32)) → p_X10_put r5.2.2.2.2.2.2.2 15 (5 : Int32) r5.2.2.2.2.1 (0 : Int32) ((r5.2.2.1 - (5 : Int32)) + (2 : Int32))) ∧ (∀ x1 : Int32, (f_X10_howMany S 15 a2) = x1 → ∀ x3 : Int32, (if a2 = (5 : Int32) then (1 : Int32) else (0 : Int32)) = x3 → ∀ r4, f_X4_next S 13 = r4 → ∀ r5, L_X4_readThing_28 1000 r4 a1 a2 x1 x3 (0 : Int32) = r5 → (¬ r5.1 = 1) → ((gI r5.2.2.2.2.2.2.2 13 3) = (3 : Int32)) → ∀ S10 : HSt, (if r5.2.2.2.1 = (5 : Int32) then (bd (f_X10_put r5.2.2.2.2.2.2.2 15 (5 : Int32) r5.2.2.2.2.1 (0 : Int32) ((r5.2.2.1 - (5 : Int32)) + (2 : Int32))) fun r9 => r9) else r5.2.2.2.2.2.2.2) = S10 → p_X10_add S10 15 r5.2.2.2.1) ∧ (∀ x1 : Int32, (f_X10_howMany S 15 a2) = x1 → ∀ x3 : Int32, (if a2 = (5 : Int32) then (1 : Int32) else (0 : Int32)) = x3 → ∀ r4, f_X4_next S 13 = r4 → ∀ r5, L_X4_readThing_28 1000 r4 a1 a2 x1 x3 (0 : Int32) = r5 → (¬ r5.1 = 1) → ((gI r5.2.2.2.2.2.2.2 13 3) = (3 : Int32)) → ∀ S10 : HSt, (if r5.2.2.2.1 = (5 : Int32) then (bd (f_X10_put r5.2.2.2.2.2.2.2 15 (5 : Int32) r5.2.2.2.2.1 (0 : Int32) ((r5.2.2.1 - (5 : Int32)) + (2 : Int32))) fun r9 => r9) else r5.2.2.2.2.2.2.2) = S10 → ∀ r11, f_X10_add S10 15 r5.2.2.2.1 = r11 → p_X4_next r11 13) ∧ (∀ x1 : Int32, (f_X10_howMany S 15 a2) = x1 → ∀ x3 : Int32, (if a2 = (5 : Int32) then (1 : Int32) else (0 : Int32)) = x3 → ∀ r4, f_X4_next S 13 = r4 → ∀ r5, L_X4_readThing_28 1000 r4 a1 a2 x1 x3 (0 : Int32) = r5 → (¬ r5.1 = 1) → (¬ (gI r5.2.2.2.2.2.2.2 13 3) = (3 : Int32)) → ∀ r13, f_X4_fail r5.2.2.2.2.2.2.2 13 (1 : Int32) = r13 → Bz r13.1)
set_option maxRecDepth 100000 in
theorem t_X4_readThing (G : GG) (l : Launch) {S : HSt} (hM : CS S) (a1 : Int32) (a2 : Int32)  (hp : p_X4_readThing S 13 a1 a2) : AM G l yX4_readThing cX4_readThing 6 (some .boolean) (rmD 3 0 0) 0 0 [.ref 13, .int a1, .int a2] S (FP (some (.int (f_X4_readThing S 13 a1 a2).1)) ((f_X4_readThing S 13 a1 a2).2)) := by
  obtain ⟨h0, h1, h2, h3, h4, h5, h6⟩ := hp
  refine AM.mk (by decide) (Nat.le_of_ble_eq_true rfl) ?_
  intro p e s m below meth c hC hSt _
  refine aw_aload_n hC 0 dX4_readThing_0 rfl rfl ?_
  refine aw_getP (b := 15) hC hSt 1 (cs_lt 13 4 0 (by decide) hM) (cs_k 13 4 0 (by decide) hM) rfl (by decide) w_325 rfl (cs_p 13 1 15 (by decide) hM) dX4_readThing_1 ?_
  refine aw_iload_n hC 2 dX4_readThing_4 rfl rfl ?_
  refine aw_cV1r hC hSt (t_X10_howMany G l hM _ _ (by decide) (h0)) w_152 w_423 w_237 w_238 w_18 rfl rfl (by decide +kernel) ⟨Nat.le_of_ble_eq_true rfl, Nat.le_of_ble_eq_true rfl⟩ (cs_lt 15 10 0 (by decide) hM) (cs_k 15 10 0 (by decide) hM) rfl (Nat.le_of_ble_eq_true rfl) dX4_readThing_5 ⟨Nat.zero_le _, Nat.zero_le _⟩ ?_
  refine aw_istore_n hC [(3, .int _), (0, .ref 13), (1, .int _), (2, .int _)] dX4_readThing_8 rfl (by decide) rfl ?_
  generalize ex1 : (f_X10_howMany S 15 a2) = x1
  refine aw_iload_n hC 3 dX4_readThing_9 rfl rfl ?_
  refine aw_iconst (v := 5) hC dX4_readThing_10 (by decide) ?_
  refine aw_cut (S' := S) (pc' := 19) (lv' := [(3, .int x1), (0, .ref 13), (1, .int a1), (2, .int a2)]) (st' := [.int (if a2 = (5 : Int32) then (1 : Int32) else (0 : Int32))]) ?_ (fun Jc2 => ?_)
  · generalize ex3 : (if a2 = (5 : Int32) then (1 : Int32) else (0 : Int32)) = x3
    refine aw_istore hC [(4, .int _), (3, .int _), (0, .ref 13), (1, .int _), (2, .int _)] dX4_readThing_19 (by decide) rfl ?_
    refine aw_aload_n hC 2 dX4_readThing_21 rfl rfl ?_
    refine aw_cV0v hC hSt (t_X4_next G l hM  (h1 x1 ex1 x3 ex3)) w_352 w_429 w_430 w_431 w_351 rfl rfl (by decide +kernel) ⟨Nat.le_of_ble_eq_true rfl, Nat.le_of_ble_eq_true rfl⟩ (cs_lt 13 4 0 (by decide) hM) (cs_k 13 4 0 (by decide) hM) rfl (Nat.le_of_ble_eq_true rfl) dX4_readThing_22 ⟨Nat.zero_le _, Nat.zero_le _⟩ ?_
    generalize er4 : f_X4_next S 13 = r4
    have hM : CS r4 := CS.of (by rw [← er4]; exact q_X4_next _ _) hM
    refine aw_iconst (v := 0) hC dX4_readThing_25 (by decide) ?_
    refine aw_istore hC [(5, .int _), (4, .int _), (3, .int _), (0, .ref 13), (1, .int _), (2, .int _)] dX4_readThing_26 (by decide) rfl ?_
    refine aw_sub [3, 4, 5, 2, 1, 0] rfl ?_
    refine l_X4_readThing_28 hC hSt 1000 _ _ _ _ _ _ hM (h2 x1 ex1 x3 ex3 r4 er4) (fun c6 => ?_) (fun c6 => ?_)
    · revert c6
      generalize er5 : L_X4_readThing_28 1000 r4 a1 a2 x1 x3 (0 : Int32) = r5
      intro c6
      exact FP.qI ((bd_eq ex1).trans ((bd_eq ex3).trans ((bd_eq er4).trans ((bd_eq er5).trans ((if_pos c6).trans (rfl))))))
    · revert c6
      generalize er5 : L_X4_readThing_28 1000 r4 a1 a2 x1 x3 (0 : Int32) = r5
      have hM : CS r5.2.2.2.2.2.2.2 := CS.of (by rw [← er5]; exact qL_X4_readThing_28 _ _ _ _ _ _ _) hM
      intro c6
      refine aw_aload_n hC 0 dX4_readThing_115 rfl rfl ?_
      refine aw_getI hC hSt 3 (cs_lt 13 4 0 (by decide) hM) (cs_k 13 4 0 (by decide) hM) rfl (by decide) w_347 rfl dX4_readThing_116 ?_
      refine aw_iconst (v := 3) hC dX4_readThing_119 (by decide) ?_
      refine aw_icmp_eq hC 129 dX4_readThing_120 (by decide) (fun c7 => ?_) (fun c7 => ?_)
      · refine aw_iload_n hC 2 dX4_readThing_129 rfl rfl ?_
        refine aw_iconst (v := 5) hC dX4_readThing_130 (by decide) ?_
        refine aw_cut (S' := (if r5.2.2.2.1 = (5 : Int32) then (bd (f_X10_put r5.2.2.2.2.2.2.2 15 (5 : Int32) r5.2.2.2.2.1 (0 : Int32) ((r5.2.2.1 - (5 : Int32)) + (2 : Int32))) fun r9 => r9) else r5.2.2.2.2.2.2.2)) (pc' := 149) (lv' := [(0, .ref 13), (1, .int r5.2.2.1), (2, .int r5.2.2.2.1), (3, .int r5.2.2.2.2.1), (4, .int r5.2.2.2.2.2.1), (5, .int r5.2.2.2.2.2.2.1)]) (st' := []) ?_ (fun Jc8 => ?_)
        · generalize eS10 : (if r5.2.2.2.1 = (5 : Int32) then (bd (f_X10_put r5.2.2.2.2.2.2.2 15 (5 : Int32) r5.2.2.2.2.1 (0 : Int32) ((r5.2.2.1 - (5 : Int32)) + (2 : Int32))) fun r9 => r9) else r5.2.2.2.2.2.2.2) = S10
          have hM : CS S10 := CS.of (by rw [← eS10]; repeat' (first | with_reducible rfl | with_reducible refine (qL_X4_readThing_28 _ _ _ _ _ _ _).trans ?_ | with_reducible refine (q_X10_add _ _ _).trans ?_ | with_reducible refine (q_X10_put _ _ _ _ _ _).trans ?_ | with_reducible refine (q_X4_fail _ _ _).trans ?_ | with_reducible refine (q_X4_next _ _).trans ?_ | with_reducible refine (shp_sI _ _ _ _).trans ?_ | with_reducible refine (shp_sJ _ _ _ _).trans ?_ | with_reducible refine shi ?_ ?_ | with_reducible refine shb (fun _ _ => ?_) | (subst_vars; with_reducible rfl) | (subst_vars; with_reducible refine (qL_X4_readThing_28 _ _ _ _ _ _ _).trans ?_) | (subst_vars; with_reducible refine (q_X10_add _ _ _).trans ?_) | (subst_vars; with_reducible refine (q_X10_put _ _ _ _ _ _).trans ?_) | (subst_vars; with_reducible refine (q_X4_fail _ _ _).trans ?_) | (subst_vars; with_reducible refine (q_X4_next _ _).trans ?_) | (subst_vars; with_reducible refine (shp_sI _ _ _ _).trans ?_) | (subst_vars; with_reducible refine (shp_sJ _ _ _ _).trans ?_) | (subst_vars; with_reducible refine shi ?_ ?_) | (subst_vars; with_reducible refine shb (fun _ _ => ?_)))) hM
          refine aw_aload_n hC 0 dX4_readThing_149 rfl rfl ?_
          refine aw_getP (b := 15) hC hSt 1 (cs_lt 13 4 0 (by decide) hM) (cs_k 13 4 0 (by decide) hM) rfl (by decide) w_325 rfl (cs_p 13 1 15 (by decide) hM) dX4_readThing_150 ?_
          refine aw_iload_n hC 2 dX4_readThing_153 rfl rfl ?_
          refine aw_cV1v hC hSt (t_X10_add G l hM _ _ (by decide) (h4 x1 ex1 x3 ex3 r4 er4 r5 er5 c6 c7 S10 eS10)) w_424 w_442 w_443 w_444 w_18 rfl rfl (by decide +kernel) ⟨Nat.le_of_ble_eq_true rfl, Nat.le_of_ble_eq_true rfl⟩ (cs_lt 15 10 0 (by decide) hM) (cs_k 15 10 0 (by decide) hM) rfl (Nat.le_of_ble_eq_true rfl) dX4_readThing_154 ⟨Nat.zero_le _, Nat.zero_le _⟩ ?_
          generalize er11 : f_X10_add S10 15 r5.2.2.2.1 = r11
          have hM : CS r11 := CS.of (by rw [← er11]; exact q_X10_add _ _ _) hM
          refine aw_aload_n hC 0 dX4_readThing_157 rfl rfl ?_
          refine aw_cV0v hC hSt (t_X4_next G l hM  (h5 x1 ex1 x3 ex3 r4 er4 r5 er5 c6 c7 S10 eS10 r11 er11)) w_352 w_429 w_430 w_431 w_351 rfl rfl (by decide +kernel) ⟨Nat.le_of_ble_eq_true rfl, Nat.le_of_ble_eq_true rfl⟩ (cs_lt 13 4 0 (by decide) hM) (cs_k 13 4 0 (by decide) hM) rfl (Nat.le_of_ble_eq_true rfl) dX4_readThing_158 ⟨Nat.zero_le _, Nat.zero_le _⟩ ?_
          generalize er12 : f_X4_next r11 13 = r12
          have hM : CS r12 := CS.of (by rw [← er12]; exact q_X4_next _ _) hM
          refine aw_iconst (v := 1) hC dX4_readThing_161 (by decide) ?_
          refine aw_zret hC dX4_readThing_162 (Nat.le_refl _) (Nat.le_refl _) (by decide) ?_
          exact FP.qI ((bd_eq ex1).trans ((bd_eq ex3).trans ((bd_eq er4).trans ((bd_eq er5).trans ((if_neg c6).trans ((if_pos c7).trans ((bd_eq eS10).trans ((bd_eq er11).trans ((bd_eq er12).trans (rfl))))))))))
        · refine aw_icmp_ne hC 149 dX4_readThing_131 (by decide) (fun c8 => ?_) (fun c8 => ?_)
          · simp only [bd_def, if_neg c8] at Jc8 ⊢
            exact Jc8
          · refine aw_aload_n hC 0 dX4_readThing_134 rfl rfl ?_
            refine aw_getP (b := 15) hC hSt 1 (cs_lt 13 4 0 (by decide) hM) (cs_k 13 4 0 (by decide) hM) rfl (by decide) w_325 rfl (cs_p 13 1 15 (by decide) hM) dX4_readThing_135 ?_
            refine aw_iconst (v := 5) hC dX4_readThing_138 (by decide) ?_
            refine aw_iload_n hC 3 dX4_readThing_139 rfl rfl ?_
            refine aw_iconst (v := 0) hC dX4_readThing_140 (by decide) ?_
            refine aw_iload_n hC 1 dX4_readThing_141 rfl rfl ?_
            refine aw_iconst (v := 5) hC dX4_readThing_142 (by decide) ?_
            refine aw_isub hC dX4_readThing_143 ?_
            refine aw_iconst (v := 2) hC dX4_readThing_144 (by decide) ?_
            refine aw_iadd hC dX4_readThing_145 ?_
            refine aw_cV4v hC hSt (t_X10_put G l hM _ _ _ _ _ (by decide) (h3 x1 ex1 x3 ex3 r4 er4 r5 er5 c6 c7 c8)) w_335 w_441 w_339 w_340 w_18 rfl rfl (by decide +kernel) ⟨Nat.le_of_ble_eq_true rfl, Nat.le_of_ble_eq_true rfl⟩ (cs_lt 15 10 0 (by decide) hM) (cs_k 15 10 0 (by decide) hM) rfl (Nat.le_of_ble_eq_true rfl) dX4_readThing_146 ⟨Nat.zero_le _, Nat.zero_le _⟩ ?_
            generalize er9 : f_X10_put r5.2.2.2.2.2.2.2 15 (5 : Int32) r5.2.2.2.2.1 (0 : Int32) ((r5.2.2.1 - (5 : Int32)) + (2 : Int32)) = r9
            have hM : CS r9 := CS.of (by rw [← er9]; exact q_X10_put _ _ _ _ _ _) hM
            subst er9
            simp only [bd_def, if_pos c8] at Jc8 ⊢
            exact Jc8
      · refine aw_aload_n hC 0 dX4_readThing_123 rfl rfl ?_
        refine aw_iconst (v := 1) hC dX4_readThing_124 (by decide) ?_
        refine aw_cV1r hC hSt (t_X4_fail G l hM _) w_417 w_432 w_433 w_434 w_351 rfl rfl (by decide +kernel) ⟨Nat.le_of_ble_eq_true rfl, Nat.le_of_ble_eq_true rfl⟩ (cs_lt 13 4 0 (by decide) hM) (cs_k 13 4 0 (by decide) hM) rfl (Nat.le_of_ble_eq_true rfl) dX4_readThing_125 ⟨Nat.zero_le _, Nat.zero_le _⟩ ?_
        generalize er13 : f_X4_fail r5.2.2.2.2.2.2.2 13 (1 : Int32) = r13
        have hM : CS r13.2 := CS.of (by rw [← er13]; exact q_X4_fail _ _ _) hM
        refine aw_zret hC dX4_readThing_128 (Nat.le_refl _) (Nat.le_refl _) (Bz.n (h6 x1 ex1 x3 ex3 r4 er4 r5 er5 c6 c7 r13 er13)) ?_
        exact FP.qI ((bd_eq ex1).trans ((bd_eq ex3).trans ((bd_eq er4).trans ((bd_eq er5).trans ((if_neg c6).trans ((if_neg c7).trans ((bd_eq er13).trans (rfl))))))))
  · refine aw_icmp_ne hC 18 dX4_readThing_11 (by decide) (fun c2 => ?_) (fun c2 => ?_)
    · refine aw_iconst (v := 0) hC dX4_readThing_18 (by decide) ?_
      simp only [bd_def, if_neg c2] at Jc2 ⊢
      exact Jc2
    · refine aw_iconst (v := 1) hC dX4_readThing_14 (by decide) ?_
      refine aw_goto hC 19 dX4_readThing_15 (by decide) ?_
      simp only [bd_def, if_pos c2] at Jc2 ⊢
      exact Jc2
theorem q_X4_readThing (S : HSt) (_o0 : Nat) (a1 : Int32) (a2 : Int32) : shp ((f_X4_readThing S _o0 a1 a2).2) = shp S := by
  unfold f_X4_readThing
  repeat' (first | with_reducible refine shpr1 ?_ | with_reducible rfl | with_reducible refine (q_X10_add _ _ _).trans ?_ | with_reducible refine (q_X10_put _ _ _ _ _ _).trans ?_ | with_reducible refine (q_X4_fail _ _ _).trans ?_ | with_reducible refine (q_X4_next _ _).trans ?_ | with_reducible refine (qL_X4_readThing_28 _ _ _ _ _ _ _).trans ?_ | with_reducible refine (shp_sI _ _ _ _).trans ?_ | with_reducible refine (shp_sJ _ _ _ _).trans ?_ | with_reducible refine shi ?_ ?_ | with_reducible refine shb (fun _ _ => ?_) | with_reducible refine shiP (fun q : Int32 × HSt => q.2) ?_ ?_ | with_reducible refine shbP (fun q : Int32 × HSt => q.2) (fun _ _ => ?_) | (subst_vars; with_reducible rfl) | (subst_vars; with_reducible refine (q_X10_add _ _ _).trans ?_) | (subst_vars; with_reducible refine (q_X10_put _ _ _ _ _ _).trans ?_) | (subst_vars; with_reducible refine (q_X4_fail _ _ _).trans ?_) | (subst_vars; with_reducible refine (q_X4_next _ _).trans ?_) | (subst_vars; with_reducible refine (qL_X4_readThing_28 _ _ _ _ _ _ _).trans ?_) | (subst_vars; with_reducible refine (shp_sI _ _ _ _).trans ?_) | (subst_vars; with_reducible refine (shp_sJ _ _ _ _).trans ?_) | (subst_vars; with_reducible refine shi ?_ ?_) | (subst_vars; with_reducible refine shb (fun _ _ => ?_)))
def F_X8_placeOf (S : HSt) (a1 : Int32) (a2 : Int32) : Int32 × HSt := pr (((a1 * (6 : Int32)) + a2)) (S)
def f_X8_placeOf (S : HSt) (a1 : Int32) (a2 : Int32) : Int32 := (F_X8_placeOf S a1 a2).1
set_option maxRecDepth 100000 in
theorem t_X8_placeOf (G : GG) (l : Launch) {S : HSt} (a1 : Int32) (a2 : Int32)   : AM G l yX8_placeOf cX8_placeOf 2 (some .int) (rmD 0 0 0) 0 0 [.int a1, .int a2] S (FP (some (.int (f_X8_placeOf S a1 a2))) (S)) := by
  refine AM.mk (by decide) (Nat.le_of_ble_eq_true rfl) ?_
  intro p e s m below meth c hC hSt _
  refine aw_iload_n hC 0 dX8_placeOf_0 rfl rfl ?_
  refine aw_bipush (v := 6) hC dX8_placeOf_1 (by decide) ?_
  refine aw_imul hC dX8_placeOf_3 ?_
  refine aw_iload_n hC 1 dX8_placeOf_4 rfl rfl ?_
  refine aw_iadd hC dX8_placeOf_5 ?_
  refine aw_iret hC dX8_placeOf_6 (Nat.le_refl _) (Nat.le_refl _) ?_
  exact FP.pI (rfl)
def F_X8_showLength (S : HSt) (_o0 : Nat) : Int32 × HSt := pr ((gI S 38 4)) (S)
def f_X8_showLength (S : HSt) (_o0 : Nat) : Int32 := (F_X8_showLength S _o0).1
set_option maxRecDepth 100000 in
theorem t_X8_showLength (G : GG) (l : Launch) {S : HSt} (hM : CS S)    : AM G l yX8_showLength cX8_showLength 1 (some .int) (rmD 0 0 0) 0 0 [.ref 38] S (FP (some (.int (f_X8_showLength S 38))) (S)) := by
  refine AM.mk (by decide) (Nat.le_of_ble_eq_true rfl) ?_
  intro p e s m below meth c hC hSt _
  refine aw_aload_n hC 0 dX8_showLength_0 rfl rfl ?_
  refine aw_getI hC hSt 4 (cs_lt 38 8 0 (by decide) hM) (cs_k 38 8 0 (by decide) hM) rfl (by decide) w_633 rfl dX8_showLength_1 ?_
  refine aw_iret hC dX8_showLength_4 (Nat.le_refl _) (Nat.le_refl _) ?_
  exact FP.pI (rfl)
def F_X8_formAt (S : HSt) (_o0 : Nat) (a1 : Int32) : Int32 × HSt := bd ((if a1 < 0 then (-1000000 : Int32) else (if (gI S 38 4) ≤ a1 then (-1000000 : Int32) else (gI S 40 a1.toNatClampNeg)))) fun x3 => pr (x3) (S)
def f_X8_formAt (S : HSt) (_o0 : Nat) (a1 : Int32) : Int32 := (F_X8_formAt S _o0 a1).1
def p_X8_formAt (S : HSt) (_o0 : Nat) (a1 : Int32) : Prop := ((¬ a1 < 0) → (¬ (gI S 38 4) ≤ a1) → vp_in a1 6)
set_option maxRecDepth 100000 in
theorem t_X8_formAt (G : GG) (l : Launch) {S : HSt} (hM : CS S) (a1 : Int32)  (hp : p_X8_formAt S 38 a1) : AM G l yX8_formAt cX8_formAt 2 (some .int) (rmD 0 0 0) 0 0 [.ref 38, .int a1] S (FP (some (.int (f_X8_formAt S 38 a1))) (S)) := by
  have h0 := hp
  unfold p_X8_formAt at h0
  refine AM.mk (by decide) (Nat.le_of_ble_eq_true rfl) ?_
  intro p e s m below meth c hC hSt _
  refine aw_iload_n hC 1 dX8_formAt_0 rfl rfl ?_
  refine aw_cut (S' := S) (pc' := 23) (lv' := [(0, .ref 38), (1, .int a1)]) (st' := [.int (if a1 < 0 then (-1000000 : Int32) else (if (gI S 38 4) ≤ a1 then (-1000000 : Int32) else (gI S 40 a1.toNatClampNeg)))]) ?_ (fun Jc1 => ?_)
  · generalize ex3 : (if a1 < 0 then (-1000000 : Int32) else (if (gI S 38 4) ≤ a1 then (-1000000 : Int32) else (gI S 40 a1.toNatClampNeg))) = x3
    refine aw_iret hC dX8_formAt_23 (Nat.le_refl _) (Nat.le_refl _) ?_
    exact FP.pI ((bd_eq ex3).trans (rfl))
  · refine aw_if_lt hC 21 dX8_formAt_1 (by decide) (fun c1 => ?_) (fun c1 => ?_)
    · refine aw_ldc (v := -1000000) hC w_626 dX8_formAt_21 ?_
      simp only [bd_def, if_pos c1] at Jc1 ⊢
      exact Jc1
    · refine aw_iload_n hC 1 dX8_formAt_4 rfl rfl ?_
      refine aw_aload_n hC 0 dX8_formAt_5 rfl rfl ?_
      refine aw_getI hC hSt 4 (cs_lt 38 8 0 (by decide) hM) (cs_k 38 8 0 (by decide) hM) rfl (by decide) w_633 rfl dX8_formAt_6 ?_
      refine aw_icmp_ge hC 21 dX8_formAt_9 (by decide) (fun c2 => ?_) (fun c2 => ?_)
      · refine aw_ldc (v := -1000000) hC w_626 dX8_formAt_21 ?_
        simp only [bd_def, if_neg c1, if_pos c2] at Jc1 ⊢
        exact Jc1
      · refine aw_aload_n hC 0 dX8_formAt_12 rfl rfl ?_
        refine aw_getP (b := 40) hC hSt 1 (cs_lt 38 8 0 (by decide) hM) (cs_k 38 8 0 (by decide) hM) rfl (by decide) w_615 rfl (cs_p 38 1 40 (by decide) hM) dX8_formAt_13 ?_
        refine aw_iload_n hC 1 dX8_formAt_16 rfl rfl ?_
        refine aw_iald hC hSt (cs_lt 40 14 6 (by decide) hM) (cs_k 40 14 6 (by decide) hM) (vp_len (n := 6) (cs_l 40 14 6 (by decide) hM) (h0 c1 c2)) dX8_formAt_17 ?_
        refine aw_goto hC 23 dX8_formAt_18 (by decide) ?_
        simp only [bd_def, if_neg c1, if_neg c2] at Jc1 ⊢
        exact Jc1
def F_X8_areNear (S : HSt) (w1 : Nat) (a2 : Int32) (a3 : Int32) (a4 : Int32) (a5 : Int32) : Int32 × HSt := bd ((f_X10_value S w1 (3 : Int32) a2 a4)) fun x1 => bd ((f_X10_value S w1 (3 : Int32) a2 (a4 + (1 : Int32)))) fun x2 => bd ((f_X10_value S w1 (3 : Int32) a3 a4)) fun x3 => bd ((f_X10_value S w1 (3 : Int32) a3 (a4 + (1 : Int32)))) fun x4 => bd ((if a5 < (x3 - x2) then (0 : Int32) else (if a5 < (x1 - x4) then (0 : Int32) else (1 : Int32)))) fun x7 => pr (x7) (S)
def f_X8_areNear (S : HSt) (w1 : Nat) (a2 : Int32) (a3 : Int32) (a4 : Int32) (a5 : Int32) : Int32 := (F_X8_areNear S w1 a2 a3 a4 a5).1
def p_X8_areNear (S : HSt) (w1 : Nat) (a2 : Int32) (a3 : Int32) (a4 : Int32) (a5 : Int32) : Prop := (p_X10_value S w1 (3 : Int32) a2 a4) ∧ (∀ x1 : Int32, (f_X10_value S w1 (3 : Int32) a2 a4) = x1 → p_X10_value S w1 (3 : Int32) a2 (a4 + (1 : Int32))) ∧ (∀ x1 : Int32, (f_X10_value S w1 (3 : Int32) a2 a4) = x1 → ∀ x2 : Int32, (f_X10_value S w1 (3 : Int32) a2 (a4 + (1 : Int32))) = x2 → p_X10_value S w1 (3 : Int32) a3 a4) ∧ (∀ x1 : Int32, (f_X10_value S w1 (3 : Int32) a2 a4) = x1 → ∀ x2 : Int32, (f_X10_value S w1 (3 : Int32) a2 (a4 + (1 : Int32))) = x2 → ∀ x3 : Int32, (f_X10_value S w1 (3 : Int32) a3 a4) = x3 → p_X10_value S w1 (3 : Int32) a3 (a4 + (1 : Int32)))
set_option maxRecDepth 100000 in
theorem t_X8_areNear (G : GG) (l : Launch) {S : HSt} (hM : CS S) (w1 : Nat) (a2 : Int32) (a3 : Int32) (a4 : Int32) (a5 : Int32) (hw1 : (w1, 10, 0) ∈ cKT) (hp : p_X8_areNear S w1 a2 a3 a4 a5) : AM G l yX8_areNear cX8_areNear 9 (some .boolean) (rmD 1 0 0) 0 0 [.ref w1, .int a2, .int a3, .int a4, .int a5] S (FP (some (.int (f_X8_areNear S w1 a2 a3 a4 a5))) (S)) := by
  obtain ⟨h0, h1, h2, h3⟩ := hp
  refine AM.mk (by decide) (Nat.le_of_ble_eq_true rfl) ?_
  intro p e s m below meth c hC hSt _
  refine aw_aload_n hC 0 dX8_areNear_0 rfl rfl ?_
  refine aw_iconst (v := 3) hC dX8_areNear_1 (by decide) ?_
  refine aw_iload_n hC 1 dX8_areNear_2 rfl rfl ?_
  refine aw_iload_n hC 3 dX8_areNear_3 rfl rfl ?_
  refine aw_cV3r hC hSt (t_X10_value G l hM _ _ _ _ hw1 (h0)) w_10 w_621 w_16 w_17 w_18 rfl rfl (by decide +kernel) ⟨Nat.le_of_ble_eq_true rfl, Nat.le_of_ble_eq_true rfl⟩ (cs_lt w1 10 0 hw1 hM) (cs_k w1 10 0 hw1 hM) rfl (Nat.le_of_ble_eq_true rfl) dX8_areNear_4 ⟨Nat.zero_le _, Nat.zero_le _⟩ ?_
  refine aw_istore hC [(5, .int _), (0, .ref w1), (1, .int _), (2, .int _), (3, .int _), (4, .int _)] dX8_areNear_7 (by decide) rfl ?_
  generalize ex1 : (f_X10_value S w1 (3 : Int32) a2 a4) = x1
  refine aw_aload_n hC 1 dX8_areNear_9 rfl rfl ?_
  refine aw_iconst (v := 3) hC dX8_areNear_10 (by decide) ?_
  refine aw_iload_n hC 2 dX8_areNear_11 rfl rfl ?_
  refine aw_iload_n hC 4 dX8_areNear_12 rfl rfl ?_
  refine aw_iconst (v := 1) hC dX8_areNear_13 (by decide) ?_
  refine aw_iadd hC dX8_areNear_14 ?_
  refine aw_cV3r hC hSt (t_X10_value G l hM _ _ _ _ hw1 (h1 x1 ex1)) w_10 w_621 w_16 w_17 w_18 rfl rfl (by decide +kernel) ⟨Nat.le_of_ble_eq_true rfl, Nat.le_of_ble_eq_true rfl⟩ (cs_lt w1 10 0 hw1 hM) (cs_k w1 10 0 hw1 hM) rfl (Nat.le_of_ble_eq_true rfl) dX8_areNear_15 ⟨Nat.zero_le _, Nat.zero_le _⟩ ?_
  refine aw_istore hC [(6, .int _), (5, .int _), (0, .ref w1), (1, .int _), (2, .int _), (3, .int _), (4, .int _)] dX8_areNear_18 (by decide) rfl ?_
  generalize ex2 : (f_X10_value S w1 (3 : Int32) a2 (a4 + (1 : Int32))) = x2
  refine aw_aload_n hC 2 dX8_areNear_20 rfl rfl ?_
  refine aw_iconst (v := 3) hC dX8_areNear_21 (by decide) ?_
  refine aw_iload_n hC 4 dX8_areNear_22 rfl rfl ?_
  refine aw_iload_n hC 5 dX8_areNear_23 rfl rfl ?_
  refine aw_cV3r hC hSt (t_X10_value G l hM _ _ _ _ hw1 (h2 x1 ex1 x2 ex2)) w_10 w_621 w_16 w_17 w_18 rfl rfl (by decide +kernel) ⟨Nat.le_of_ble_eq_true rfl, Nat.le_of_ble_eq_true rfl⟩ (cs_lt w1 10 0 hw1 hM) (cs_k w1 10 0 hw1 hM) rfl (Nat.le_of_ble_eq_true rfl) dX8_areNear_24 ⟨Nat.zero_le _, Nat.zero_le _⟩ ?_
  refine aw_istore hC [(7, .int _), (6, .int _), (5, .int _), (0, .ref w1), (1, .int _), (2, .int _), (3, .int _), (4, .int _)] dX8_areNear_27 (by decide) rfl ?_
  generalize ex3 : (f_X10_value S w1 (3 : Int32) a3 a4) = x3
  refine aw_aload_n hC 3 dX8_areNear_29 rfl rfl ?_
  refine aw_iconst (v := 3) hC dX8_areNear_30 (by decide) ?_
  refine aw_iload_n hC 5 dX8_areNear_31 rfl rfl ?_
  refine aw_iload_n hC 6 dX8_areNear_32 rfl rfl ?_
  refine aw_iconst (v := 1) hC dX8_areNear_33 (by decide) ?_
  refine aw_iadd hC dX8_areNear_34 ?_
  refine aw_cV3r hC hSt (t_X10_value G l hM _ _ _ _ hw1 (h3 x1 ex1 x2 ex2 x3 ex3)) w_10 w_621 w_16 w_17 w_18 rfl rfl (by decide +kernel) ⟨Nat.le_of_ble_eq_true rfl, Nat.le_of_ble_eq_true rfl⟩ (cs_lt w1 10 0 hw1 hM) (cs_k w1 10 0 hw1 hM) rfl (Nat.le_of_ble_eq_true rfl) dX8_areNear_35 ⟨Nat.zero_le _, Nat.zero_le _⟩ ?_
  refine aw_istore hC [(8, .int _), (7, .int _), (6, .int _), (5, .int _), (0, .ref w1), (1, .int _), (2, .int _), (3, .int _), (4, .int _)] dX8_areNear_38 (by decide) rfl ?_
  generalize ex4 : (f_X10_value S w1 (3 : Int32) a3 (a4 + (1 : Int32))) = x4
  refine aw_iload hC 1 dX8_areNear_40 rfl ?_
  refine aw_iload hC 2 dX8_areNear_42 rfl ?_
  refine aw_isub hC dX8_areNear_44 ?_
  refine aw_iload hC 8 dX8_areNear_45 rfl ?_
  refine aw_cut (S' := S) (pc' := 65) (lv' := [(8, .int x4), (7, .int x3), (6, .int x2), (5, .int x1), (0, .ref w1), (1, .int a2), (2, .int a3), (3, .int a4), (4, .int a5)]) (st' := [.int (if a5 < (x3 - x2) then (0 : Int32) else (if a5 < (x1 - x4) then (0 : Int32) else (1 : Int32)))]) ?_ (fun Jc5 => ?_)
  · generalize ex7 : (if a5 < (x3 - x2) then (0 : Int32) else (if a5 < (x1 - x4) then (0 : Int32) else (1 : Int32))) = x7
    refine aw_zret hC dX8_areNear_65 (Nat.le_refl _) (Nat.le_refl _) (Bz.n (ex7 ▸ (Bz.ite (Or.inl rfl) (Bz.ite (Or.inl rfl) (Or.inr rfl))))) ?_
    exact FP.pI ((bd_eq ex1).trans ((bd_eq ex2).trans ((bd_eq ex3).trans ((bd_eq ex4).trans ((bd_eq ex7).trans (rfl))))))
  · refine aw_icmp_gt hC 64 dX8_areNear_47 (by decide) (fun c5 => ?_) (fun c5 => ?_)
    · refine aw_iconst (v := 0) hC dX8_areNear_64 (by decide) ?_
      simp only [bd_def, if_pos c5] at Jc5 ⊢
      exact Jc5
    · refine aw_iload hC 3 dX8_areNear_50 rfl ?_
      refine aw_iload hC 0 dX8_areNear_52 rfl ?_
      refine aw_isub hC dX8_areNear_54 ?_
      refine aw_iload hC 8 dX8_areNear_55 rfl ?_
      refine aw_icmp_gt hC 64 dX8_areNear_57 (by decide) (fun c6 => ?_) (fun c6 => ?_)
      · refine aw_iconst (v := 0) hC dX8_areNear_64 (by decide) ?_
        simp only [bd_def, if_neg c5, if_pos c6] at Jc5 ⊢
        exact Jc5
      · refine aw_iconst (v := 1) hC dX8_areNear_60 (by decide) ?_
        refine aw_goto hC 65 dX8_areNear_61 (by decide) ?_
        simp only [bd_def, if_neg c5, if_neg c6] at Jc5 ⊢
        exact Jc5
theorem b_X8_areNear (S : HSt) (w1 : Nat) (a2 : Int32) (a3 : Int32) (a4 : Int32) (a5 : Int32) : Bz (f_X8_areNear S w1 a2 a3 a4 a5) := by
  unfold f_X8_areNear F_X8_areNear
  (try dsimp only [bd])
  (repeat' split) <;> first | exact Or.inl rfl | exact Or.inr rfl
def F_X8_goes (S : HSt) (w1 : Nat) (a2 : Int32) (a3 : Int32) : Int32 × HSt := bd ((if (f_X8_areNear S w1 a2 a3 (0 : Int32) (2 : Int32)) = 0 then (0 : Int32) else (if (f_X8_areNear S w1 a2 a3 (2 : Int32) (20 : Int32)) = 0 then (0 : Int32) else (1 : Int32)))) fun x3 => pr (x3) (S)
def f_X8_goes (S : HSt) (w1 : Nat) (a2 : Int32) (a3 : Int32) : Int32 := (F_X8_goes S w1 a2 a3).1
def p_X8_goes (S : HSt) (w1 : Nat) (a2 : Int32) (a3 : Int32) : Prop := (p_X8_areNear S w1 a2 a3 (0 : Int32) (2 : Int32)) ∧ ((¬ (f_X8_areNear S w1 a2 a3 (0 : Int32) (2 : Int32)) = 0) → p_X8_areNear S w1 a2 a3 (2 : Int32) (20 : Int32))
set_option maxRecDepth 100000 in
theorem t_X8_goes (G : GG) (l : Launch) {S : HSt} (hM : CS S) (w1 : Nat) (a2 : Int32) (a3 : Int32) (hw1 : (w1, 10, 0) ∈ cKT) (hp : p_X8_goes S w1 a2 a3) : AM G l yX8_goes cX8_goes 3 (some .boolean) (rmD 2 0 0) 0 0 [.ref w1, .int a2, .int a3] S (FP (some (.int (f_X8_goes S w1 a2 a3))) (S)) := by
  obtain ⟨h0, h1⟩ := hp
  refine AM.mk (by decide) (Nat.le_of_ble_eq_true rfl) ?_
  intro p e s m below meth c hC hSt _
  refine aw_aload_n hC 0 dX8_goes_0 rfl rfl ?_
  refine aw_iload_n hC 1 dX8_goes_1 rfl rfl ?_
  refine aw_iload_n hC 2 dX8_goes_2 rfl rfl ?_
  refine aw_iconst (v := 0) hC dX8_goes_3 (by decide) ?_
  refine aw_iconst (v := 2) hC dX8_goes_4 (by decide) ?_
  refine aw_cS5r hC hSt (t_X8_areNear G l hM _ _ _ _ _ hw1 (h0)) w_620 w_623 w_624 w_625 rfl rfl (by decide +kernel) ⟨Nat.le_of_ble_eq_true rfl, Nat.le_of_ble_eq_true rfl⟩ (Nat.le_of_ble_eq_true rfl) dX8_goes_5 ⟨Nat.zero_le _, Nat.zero_le _⟩ ?_
  refine aw_cut (S' := S) (pc' := 28) (lv' := [(0, .ref w1), (1, .int a2), (2, .int a3)]) (st' := [.int (if (f_X8_areNear S w1 a2 a3 (0 : Int32) (2 : Int32)) = 0 then (0 : Int32) else (if (f_X8_areNear S w1 a2 a3 (2 : Int32) (20 : Int32)) = 0 then (0 : Int32) else (1 : Int32)))]) ?_ (fun Jc1 => ?_)
  · generalize ex3 : (if (f_X8_areNear S w1 a2 a3 (0 : Int32) (2 : Int32)) = 0 then (0 : Int32) else (if (f_X8_areNear S w1 a2 a3 (2 : Int32) (20 : Int32)) = 0 then (0 : Int32) else (1 : Int32))) = x3
    refine aw_zret hC dX8_goes_28 (Nat.le_refl _) (Nat.le_refl _) (Bz.n (ex3 ▸ (Bz.ite (Or.inl rfl) (Bz.ite (Or.inl rfl) (Or.inr rfl))))) ?_
    exact FP.pI ((bd_eq ex3).trans (rfl))
  · refine aw_if_eq hC 27 dX8_goes_8 (by decide) (fun c1 => ?_) (fun c1 => ?_)
    · refine aw_iconst (v := 0) hC dX8_goes_27 (by decide) ?_
      simp only [bd_def, if_pos c1] at Jc1 ⊢
      exact Jc1
    · refine aw_aload_n hC 0 dX8_goes_11 rfl rfl ?_
      refine aw_iload_n hC 1 dX8_goes_12 rfl rfl ?_
      refine aw_iload_n hC 2 dX8_goes_13 rfl rfl ?_
      refine aw_iconst (v := 2) hC dX8_goes_14 (by decide) ?_
      refine aw_bipush (v := 20) hC dX8_goes_15 (by decide) ?_
      refine aw_cS5r hC hSt (t_X8_areNear G l hM _ _ _ _ _ hw1 (h1 c1)) w_620 w_623 w_624 w_625 rfl rfl (by decide +kernel) ⟨Nat.le_of_ble_eq_true rfl, Nat.le_of_ble_eq_true rfl⟩ (Nat.le_of_ble_eq_true rfl) dX8_goes_17 ⟨Nat.zero_le _, Nat.zero_le _⟩ ?_
      refine aw_if_eq hC 27 dX8_goes_20 (by decide) (fun c2 => ?_) (fun c2 => ?_)
      · refine aw_iconst (v := 0) hC dX8_goes_27 (by decide) ?_
        simp only [bd_def, if_neg c1, if_pos c2] at Jc1 ⊢
        exact Jc1
      · refine aw_iconst (v := 1) hC dX8_goes_23 (by decide) ?_
        refine aw_goto hC 28 dX8_goes_24 (by decide) ?_
        simp only [bd_def, if_neg c1, if_neg c2] at Jc1 ⊢
        exact Jc1
theorem b_X8_goes (S : HSt) (w1 : Nat) (a2 : Int32) (a3 : Int32) : Bz (f_X8_goes S w1 a2 a3) := by
  unfold f_X8_goes F_X8_goes
  (try dsimp only [bd])
  (repeat' split) <;> first | exact Or.inl rfl | exact Or.inr rfl | exact b_X8_areNear _ _ _ _ _ _
def L_X8_nextForm_17 (w1 : Nat) : Nat → HSt → Int32 → Int32 → Int32 → Int32 → Int32 → Int32 → Int32 × Int32 × Int32 × Int32 × Int32 × Int32
  | 0, S, v2, v3, v4, v5, v6, v7 => (v2, v3, v4, v5, v6, v7)
  | n + 1, S, v2, v3, v4, v5, v6, v7 =>
    if v4 ≤ v7 then ((pr (v2) (pr (v3) (pr (v4) (pr (v5) (pr (v6) (v7))))))) else (bd ((if (v2 &&& ((1 : Int32) <<< (v7 &&& 31))) = 0 then (1 : Int32) else (0 : Int32))) fun x1004 => bd ((if x1004 = 0 then (0 : Int32) else (gI S 39 (f_X8_placeOf S (v2 ||| ((1 : Int32) <<< (v7 &&& 31))) v7).toNatClampNeg))) fun x1006 => bd ((if x1006 ≤ v5 then v5 else (if v3 = (-1000000 : Int32) then x1006 else (if (f_X8_goes S w1 v3 v7) = 0 then v5 else x1006)))) fun x1010 => bd ((if x1006 ≤ v5 then v6 else (if v3 = (-1000000 : Int32) then v7 else (if (f_X8_goes S w1 v3 v7) = 0 then v6 else v7)))) fun x1011 => L_X8_nextForm_17 w1 n S v2 v3 v4 x1010 x1011 (v7 + (1 : Int32)))
def T_X8_nextForm_17 (w1 : Nat) : Nat → HSt → Int32 → Int32 → Int32 → Int32 → Int32 → Int32 → Prop
  | 0, _, _, _, _, _, _, _ => False
  | n + 1, S, v2, v3, v4, v5, v6, v7 => ((¬ v4 ≤ v7) → ∀ x1004 : Int32, (if (v2 &&& ((1 : Int32) <<< (v7 &&& 31))) = 0 then (1 : Int32) else (0 : Int32)) = x1004 → (¬ x1004 = 0) → vp_in (f_X8_placeOf S (v2 ||| ((1 : Int32) <<< (v7 &&& 31))) v7) 384) ∧ ((¬ v4 ≤ v7) → ∀ x1004 : Int32, (if (v2 &&& ((1 : Int32) <<< (v7 &&& 31))) = 0 then (1 : Int32) else (0 : Int32)) = x1004 → ∀ x1006 : Int32, (if x1004 = 0 then (0 : Int32) else (gI S 39 (f_X8_placeOf S (v2 ||| ((1 : Int32) <<< (v7 &&& 31))) v7).toNatClampNeg)) = x1006 → (¬ x1006 ≤ v5) → (¬ v3 = (-1000000 : Int32)) → p_X8_goes S w1 v3 v7) ∧ ((¬ v4 ≤ v7) → ∀ x1004 : Int32, (if (v2 &&& ((1 : Int32) <<< (v7 &&& 31))) = 0 then (1 : Int32) else (0 : Int32)) = x1004 → ∀ x1006 : Int32, (if x1004 = 0 then (0 : Int32) else (gI S 39 (f_X8_placeOf S (v2 ||| ((1 : Int32) <<< (v7 &&& 31))) v7).toNatClampNeg)) = x1006 → ∀ x1010 : Int32, (if x1006 ≤ v5 then v5 else (if v3 = (-1000000 : Int32) then x1006 else (if (f_X8_goes S w1 v3 v7) = 0 then v5 else x1006))) = x1010 → ∀ x1011 : Int32, (if x1006 ≤ v5 then v6 else (if v3 = (-1000000 : Int32) then v7 else (if (f_X8_goes S w1 v3 v7) = 0 then v6 else v7))) = x1011 → T_X8_nextForm_17 w1 n S v2 v3 v4 x1010 x1011 (v7 + (1 : Int32)))
set_option maxRecDepth 100000 in
theorem l_X8_nextForm_17 {p : Program} {l : Launch} {e : Env} {s : State} {m : MethodId} {args : Array Value} {below : List Frame} {meth : Method} {c : Code} {G : GG} {Q : State → Prop} (hC : ACx p s m args meth c cX8_nextForm RX8 10 (some .int)) (hSt : St G s) {w1 : Nat} (hw1 : (w1, 10, 0) ∈ cKT) : ∀ (n : Nat) (S : HSt) (v2 : Int32) (v3 : Int32) (v4 : Int32) (v5 : Int32) (v6 : Int32) (v7 : Int32), CS S → T_X8_nextForm_17 w1 n S v2 v3 v4 v5 v6 v7 → AW p l e (rmD 3 0 0) s m args below meth c G 10 Q S 0 0 104 [(0, .ref 38), (1, .ref w1), (2, .int (L_X8_nextForm_17 w1 n S v2 v3 v4 v5 v6 v7).1), (3, .int (L_X8_nextForm_17 w1 n S v2 v3 v4 v5 v6 v7).2.1), (4, .int (L_X8_nextForm_17 w1 n S v2 v3 v4 v5 v6 v7).2.2.1), (5, .int (L_X8_nextForm_17 w1 n S v2 v3 v4 v5 v6 v7).2.2.2.1), (6, .int (L_X8_nextForm_17 w1 n S v2 v3 v4 v5 v6 v7).2.2.2.2.1), (7, .int (L_X8_nextForm_17 w1 n S v2 v3 v4 v5 v6 v7).2.2.2.2.2)] [] → AW p l e (rmD 3 0 0) s m args below meth c G 10 Q S 0 0 17 [(0, .ref 38), (1, .ref w1), (2, .int v2), (3, .int v3), (4, .int v4), (5, .int v5), (6, .int v6), (7, .int v7)] [] := by
  intro n
  induction n with
  | zero => intro S v2 v3 v4 v5 v6 v7 _ hT; exact hT.elim
  | succ n ih =>
    intro S v2 v3 v4 v5 v6 v7 hM hT hk
    unfold T_X8_nextForm_17 at hT
    obtain ⟨h0, h1, h2⟩ := hT
    refine aw_iload hC 7 dX8_nextForm_17 rfl ?_
    refine aw_iload hC 4 dX8_nextForm_19 rfl ?_
    refine aw_icmp_ge hC 104 dX8_nextForm_21 (by decide) (fun c1002 => ?_) (fun c1002 => ?_)
    · refine aw_sub [0, 1, 2, 3, 4, 5, 6, 7] rfl ?_
      have E : L_X8_nextForm_17 w1 (n + 1) S v2 v3 v4 v5 v6 v7 = _ := (if_pos c1002).trans (rfl)
      rw [E] at hk
      exact hk
    · refine aw_iload_n hC 2 dX8_nextForm_24 rfl rfl ?_
      refine aw_iconst (v := 1) hC dX8_nextForm_25 (by decide) ?_
      refine aw_iload hC 7 dX8_nextForm_26 rfl ?_
      refine aw_ishl hC dX8_nextForm_28 ?_
      refine aw_iand hC dX8_nextForm_29 ?_
      refine aw_cut (S' := S) (pc' := 38) (lv' := [(0, .ref 38), (1, .ref w1), (2, .int v2), (3, .int v3), (4, .int v4), (5, .int v5), (6, .int v6), (7, .int v7)]) (st' := [.int (if (v2 &&& ((1 : Int32) <<< (v7 &&& 31))) = 0 then (1 : Int32) else (0 : Int32))]) ?_ (fun Jc1003 => ?_)
      · generalize ex1004 : (if (v2 &&& ((1 : Int32) <<< (v7 &&& 31))) = 0 then (1 : Int32) else (0 : Int32)) = x1004
        refine aw_istore hC [(8, .int _), (0, .ref 38), (1, .ref w1), (2, .int _), (3, .int _), (4, .int _), (5, .int _), (6, .int _), (7, .int _)] dX8_nextForm_38 (by decide) rfl ?_
        refine aw_iload hC 0 dX8_nextForm_40 rfl ?_
        refine aw_cut (S' := S) (pc' := 65) (lv' := [(8, .int x1004), (0, .ref 38), (1, .ref w1), (2, .int v2), (3, .int v3), (4, .int v4), (5, .int v5), (6, .int v6), (7, .int v7)]) (st' := [.int (if x1004 = 0 then (0 : Int32) else (gI S 39 (f_X8_placeOf S (v2 ||| ((1 : Int32) <<< (v7 &&& 31))) v7).toNatClampNeg))]) ?_ (fun Jc1005 => ?_)
        · generalize ex1006 : (if x1004 = 0 then (0 : Int32) else (gI S 39 (f_X8_placeOf S (v2 ||| ((1 : Int32) <<< (v7 &&& 31))) v7).toNatClampNeg)) = x1006
          refine aw_istore hC [(9, .int _), (8, .int _), (0, .ref 38), (1, .ref w1), (2, .int _), (3, .int _), (4, .int _), (5, .int _), (6, .int _), (7, .int _)] dX8_nextForm_65 (by decide) rfl ?_
          refine aw_iload hC 0 dX8_nextForm_67 rfl ?_
          refine aw_iload hC 7 dX8_nextForm_69 rfl ?_
          refine aw_cut (S' := S) (pc' := 98) (lv' := [(9, .int x1006), (8, .int x1004), (0, .ref 38), (1, .ref w1), (2, .int v2), (3, .int v3), (4, .int v4), (5, .int (if x1006 ≤ v5 then v5 else (if v3 = (-1000000 : Int32) then x1006 else (if (f_X8_goes S w1 v3 v7) = 0 then v5 else x1006)))), (6, .int (if x1006 ≤ v5 then v6 else (if v3 = (-1000000 : Int32) then v7 else (if (f_X8_goes S w1 v3 v7) = 0 then v6 else v7)))), (7, .int v7)]) (st' := []) ?_ (fun Jc1007 => ?_)
          · generalize ex1010 : (if x1006 ≤ v5 then v5 else (if v3 = (-1000000 : Int32) then x1006 else (if (f_X8_goes S w1 v3 v7) = 0 then v5 else x1006))) = x1010
            generalize ex1011 : (if x1006 ≤ v5 then v6 else (if v3 = (-1000000 : Int32) then v7 else (if (f_X8_goes S w1 v3 v7) = 0 then v6 else v7))) = x1011
            refine aw_iinc (v := (v7 + (1 : Int32))) hC 9 [(7, .int _), (9, .int _), (8, .int _), (0, .ref 38), (1, .ref w1), (2, .int _), (3, .int _), (4, .int _), (5, .int _), (6, .int _)] dX8_nextForm_98 rfl rfl (by decide) rfl ?_
            refine aw_goto hC 17 dX8_nextForm_101 (by decide) ?_
            refine aw_sub [3, 4, 5, 6, 7, 8, 9, 0] rfl ?_
            have hTn := (h2 c1002 x1004 ex1004 x1006 ex1006 x1010 ex1010 x1011 ex1011)
            have hMn : CS S := hM
            have E : L_X8_nextForm_17 w1 (n + 1) S v2 v3 v4 v5 v6 v7 = _ := (if_neg c1002).trans ((bd_eq ex1004).trans ((bd_eq ex1006).trans ((bd_eq ex1010).trans ((bd_eq ex1011).trans (rfl)))))
            rw [E] at hk
            exact ih _ _ _ _ _ _ _ hMn hTn hk
          · refine aw_icmp_le hC 98 dX8_nextForm_71 (by decide) (fun c1007 => ?_) (fun c1007 => ?_)
            · simp only [bd_def, if_pos c1007] at Jc1007 ⊢
              exact Jc1007
            · refine aw_iload_n hC 5 dX8_nextForm_74 rfl rfl ?_
              refine aw_ldc (v := -1000000) hC w_626 dX8_nextForm_75 ?_
              refine aw_icmp_eq hC 90 dX8_nextForm_77 (by decide) (fun c1008 => ?_) (fun c1008 => ?_)
              · refine aw_iload hC 0 dX8_nextForm_90 rfl ?_
                refine aw_istore hC [(5, .int _), (9, .int _), (8, .int _), (0, .ref 38), (1, .ref w1), (2, .int _), (3, .int _), (4, .int _), (6, .int _), (7, .int _)] dX8_nextForm_92 (by decide) rfl ?_
                refine aw_iload hC 9 dX8_nextForm_94 rfl ?_
                refine aw_istore hC [(6, .int _), (5, .int _), (9, .int _), (8, .int _), (0, .ref 38), (1, .ref w1), (2, .int _), (3, .int _), (4, .int _), (7, .int _)] dX8_nextForm_96 (by decide) rfl ?_
                refine aw_sub [2, 3, 4, 5, 6, 7, 8, 1, 0, 9] rfl ?_
                simp only [bd_def, if_neg c1007, if_pos c1008] at Jc1007 ⊢
                exact Jc1007
              · refine aw_aload_n hC 3 dX8_nextForm_80 rfl rfl ?_
                refine aw_iload_n hC 5 dX8_nextForm_81 rfl rfl ?_
                refine aw_iload hC 9 dX8_nextForm_82 rfl ?_
                refine aw_cS3r hC hSt (t_X8_goes G l hM _ _ _ hw1 (h1 c1002 x1004 ex1004 x1006 ex1006 c1007 c1008)) w_622 w_630 w_631 w_625 rfl rfl (by decide +kernel) ⟨Nat.le_of_ble_eq_true rfl, Nat.le_of_ble_eq_true rfl⟩ (Nat.le_of_ble_eq_true rfl) dX8_nextForm_84 ⟨Nat.zero_le _, Nat.zero_le _⟩ ?_
                refine aw_if_eq hC 98 dX8_nextForm_87 (by decide) (fun c1009 => ?_) (fun c1009 => ?_)
                · simp only [bd_def, if_neg c1007, if_neg c1008, if_pos c1009] at Jc1007 ⊢
                  exact Jc1007
                · refine aw_iload hC 0 dX8_nextForm_90 rfl ?_
                  refine aw_istore hC [(5, .int _), (9, .int _), (8, .int _), (0, .ref 38), (1, .ref w1), (2, .int _), (3, .int _), (4, .int _), (6, .int _), (7, .int _)] dX8_nextForm_92 (by decide) rfl ?_
                  refine aw_iload hC 9 dX8_nextForm_94 rfl ?_
                  refine aw_istore hC [(6, .int _), (5, .int _), (9, .int _), (8, .int _), (0, .ref 38), (1, .ref w1), (2, .int _), (3, .int _), (4, .int _), (7, .int _)] dX8_nextForm_96 (by decide) rfl ?_
                  refine aw_sub [2, 3, 4, 5, 6, 7, 8, 1, 0, 9] rfl ?_
                  simp only [bd_def, if_neg c1007, if_neg c1008, if_neg c1009] at Jc1007 ⊢
                  exact Jc1007
        · refine aw_if_eq hC 64 dX8_nextForm_42 (by decide) (fun c1005 => ?_) (fun c1005 => ?_)
          · refine aw_iconst (v := 0) hC dX8_nextForm_64 (by decide) ?_
            simp only [bd_def, if_pos c1005] at Jc1005 ⊢
            exact Jc1005
          · refine aw_aload_n hC 1 dX8_nextForm_45 rfl rfl ?_
            refine aw_getP (b := 39) hC hSt 0 (cs_lt 38 8 0 (by decide) hM) (cs_k 38 8 0 (by decide) hM) rfl (by decide) w_614 rfl (cs_p 38 0 39 (by decide) hM) dX8_nextForm_46 ?_
            refine aw_iload_n hC 3 dX8_nextForm_49 rfl rfl ?_
            refine aw_iconst (v := 1) hC dX8_nextForm_50 (by decide) ?_
            refine aw_iload hC 8 dX8_nextForm_51 rfl ?_
            refine aw_ishl hC dX8_nextForm_53 ?_
            refine aw_ior hC dX8_nextForm_54 ?_
            refine aw_iload hC 8 dX8_nextForm_55 rfl ?_
            refine aw_cS2r hC hSt (t_X8_placeOf G l  _ _) w_619 w_628 w_629 w_625 rfl rfl (by decide +kernel) ⟨Nat.le_of_ble_eq_true rfl, Nat.le_of_ble_eq_true rfl⟩ (Nat.le_of_ble_eq_true rfl) dX8_nextForm_57 ⟨Nat.zero_le _, Nat.zero_le _⟩ ?_
            refine aw_iald hC hSt (cs_lt 39 14 384 (by decide) hM) (cs_k 39 14 384 (by decide) hM) (vp_len (n := 384) (cs_l 39 14 384 (by decide) hM) (h0 c1002 x1004 ex1004 c1005)) dX8_nextForm_60 ?_
            refine aw_goto hC 65 dX8_nextForm_61 (by decide) ?_
            simp only [bd_def, if_neg c1005] at Jc1005 ⊢
            exact Jc1005
      · refine aw_if_ne hC 37 dX8_nextForm_30 (by decide) (fun c1003 => ?_) (fun c1003 => ?_)
        · refine aw_iconst (v := 0) hC dX8_nextForm_37 (by decide) ?_
          simp only [bd_def, if_neg c1003] at Jc1003 ⊢
          exact Jc1003
        · refine aw_iconst (v := 1) hC dX8_nextForm_33 (by decide) ?_
          refine aw_goto hC 38 dX8_nextForm_34 (by decide) ?_
          simp only [bd_def, if_pos c1003] at Jc1003 ⊢
          exact Jc1003
def F_X8_nextForm (S : HSt) (_o0 : Nat) (w1 : Nat) (a2 : Int32) (a3 : Int32) : Int32 × HSt := bd ((f_X10_howMany S w1 (3 : Int32))) fun x1 => bd (L_X8_nextForm_17 w1 1000 S a2 a3 x1 (0 : Int32) (-1000000 : Int32) (0 : Int32)) fun r2 => pr (r2.2.2.2.2.1) (S)
def f_X8_nextForm (S : HSt) (_o0 : Nat) (w1 : Nat) (a2 : Int32) (a3 : Int32) : Int32 := (F_X8_nextForm S _o0 w1 a2 a3).1
def p_X8_nextForm (S : HSt) (_o0 : Nat) (w1 : Nat) (a2 : Int32) (a3 : Int32) : Prop := (p_X10_howMany S w1 (3 : Int32)) ∧ (∀ x1 : Int32, (f_X10_howMany S w1 (3 : Int32)) = x1 → T_X8_nextForm_17 w1 1000 S a2 a3 x1 (0 : Int32) (-1000000 : Int32) (0 : Int32))
set_option maxRecDepth 100000 in
theorem t_X8_nextForm (G : GG) (l : Launch) {S : HSt} (hM : CS S) (w1 : Nat) (a2 : Int32) (a3 : Int32) (hw1 : (w1, 10, 0) ∈ cKT) (hp : p_X8_nextForm S 38 w1 a2 a3) : AM G l yX8_nextForm cX8_nextForm 10 (some .int) (rmD 3 0 0) 0 0 [.ref 38, .ref w1, .int a2, .int a3] S (FP (some (.int (f_X8_nextForm S 38 w1 a2 a3))) (S)) := by
  obtain ⟨h0, h1⟩ := hp
  refine AM.mk (by decide) (Nat.le_of_ble_eq_true rfl) ?_
  intro p e s m below meth c hC hSt _
  refine aw_aload_n hC 1 dX8_nextForm_0 rfl rfl ?_
  refine aw_iconst (v := 3) hC dX8_nextForm_1 (by decide) ?_
  refine aw_cV1r hC hSt (t_X10_howMany G l hM _ _ hw1 (h0)) w_152 w_627 w_237 w_238 w_18 rfl rfl (by decide +kernel) ⟨Nat.le_of_ble_eq_true rfl, Nat.le_of_ble_eq_true rfl⟩ (cs_lt w1 10 0 hw1 hM) (cs_k w1 10 0 hw1 hM) rfl (Nat.le_of_ble_eq_true rfl) dX8_nextForm_2 ⟨Nat.zero_le _, Nat.zero_le _⟩ ?_
  refine aw_istore hC [(4, .int _), (0, .ref 38), (1, .ref w1), (2, .int _), (3, .int _)] dX8_nextForm_5 (by decide) rfl ?_
  generalize ex1 : (f_X10_howMany S w1 (3 : Int32)) = x1
  refine aw_iconst (v := 0) hC dX8_nextForm_7 (by decide) ?_
  refine aw_istore hC [(5, .int _), (4, .int _), (0, .ref 38), (1, .ref w1), (2, .int _), (3, .int _)] dX8_nextForm_8 (by decide) rfl ?_
  refine aw_ldc (v := -1000000) hC w_626 dX8_nextForm_10 ?_
  refine aw_istore hC [(6, .int _), (5, .int _), (4, .int _), (0, .ref 38), (1, .ref w1), (2, .int _), (3, .int _)] dX8_nextForm_12 (by decide) rfl ?_
  refine aw_iconst (v := 0) hC dX8_nextForm_14 (by decide) ?_
  refine aw_istore hC [(7, .int _), (6, .int _), (5, .int _), (4, .int _), (0, .ref 38), (1, .ref w1), (2, .int _), (3, .int _)] dX8_nextForm_15 (by decide) rfl ?_
  refine aw_sub [4, 5, 6, 7, 3, 2, 1, 0] rfl ?_
  refine l_X8_nextForm_17 hC hSt hw1 1000 _ _ _ _ _ _ _ hM (h1 x1 ex1) ?_
  generalize er2 : L_X8_nextForm_17 w1 1000 S a2 a3 x1 (0 : Int32) (-1000000 : Int32) (0 : Int32) = r2
  refine aw_iload hC 6 dX8_nextForm_104 rfl ?_
  refine aw_iret hC dX8_nextForm_106 (Nat.le_refl _) (Nat.le_refl _) ?_
  exact FP.pI ((bd_eq ex1).trans ((bd_eq er2).trans (rfl)))
def L_X8_seekShow_19 (w1 : Nat) : Nat → HSt → Int32 → Int32 → Int32 → Int32 × Int32 × Int32 × HSt
  | 0, S, v2, v3, v4 => (v2, v3, v4, S)
  | n + 1, S, v2, v3, v4 =>
    if v2 ≤ v4 then ((pr (v2) (pr (v3) (pr (v4) (S))))) else (bd ((f_X8_nextForm S 38 w1 v3 v4)) fun x2005 => bd ((if x2005 = (-1000000 : Int32) then (1 : Int32) else ((1 : Int32) + (gI S 39 (f_X8_placeOf S (v3 ||| ((1 : Int32) <<< (x2005 &&& 31))) x2005).toNatClampNeg)))) fun x2007 => bd ((sI S 39 (f_X8_placeOf S v3 v4).toNatClampNeg x2007)) fun S2008 => L_X8_seekShow_19 w1 n S2008 v2 v3 (v4 + (1 : Int32)))
def T_X8_seekShow_19 (w1 : Nat) : Nat → HSt → Int32 → Int32 → Int32 → Prop
  | 0, _, _, _, _ => False
  | n + 1, S, v2, v3, v4 => ((¬ v2 ≤ v4) → p_X8_nextForm S 38 w1 v3 v4) ∧ ((¬ v2 ≤ v4) → ∀ x2005 : Int32, (f_X8_nextForm S 38 w1 v3 v4) = x2005 → (¬ x2005 = (-1000000 : Int32)) → vp_in (f_X8_placeOf S (v3 ||| ((1 : Int32) <<< (x2005 &&& 31))) x2005) 384) ∧ ((¬ v2 ≤ v4) → ∀ x2005 : Int32, (f_X8_nextForm S 38 w1 v3 v4) = x2005 → ∀ x2007 : Int32, (if x2005 = (-1000000 : Int32) then (1 : Int32) else ((1 : Int32) + (gI S 39 (f_X8_placeOf S (v3 ||| ((1 : Int32) <<< (x2005 &&& 31))) x2005).toNatClampNeg))) = x2007 → vp_in (f_X8_placeOf S v3 v4) 384) ∧ ((¬ v2 ≤ v4) → ∀ x2005 : Int32, (f_X8_nextForm S 38 w1 v3 v4) = x2005 → ∀ x2007 : Int32, (if x2005 = (-1000000 : Int32) then (1 : Int32) else ((1 : Int32) + (gI S 39 (f_X8_placeOf S (v3 ||| ((1 : Int32) <<< (x2005 &&& 31))) x2005).toNatClampNeg))) = x2007 → ∀ S2008 : HSt, (sI S 39 (f_X8_placeOf S v3 v4).toNatClampNeg x2007) = S2008 → T_X8_seekShow_19 w1 n S2008 v2 v3 (v4 + (1 : Int32)))
theorem qL_X8_seekShow_19 (w1 : Nat) : ∀ (n : Nat) (S : HSt) (v2 : Int32) (v3 : Int32) (v4 : Int32), shp (L_X8_seekShow_19 w1 n S v2 v3 v4).2.2.2 = shp S := by
  intro n
  induction n with
  | zero => intros; rfl
  | succ n ih =>
    intro S v2 v3 v4
    unfold L_X8_seekShow_19
    repeat' (first | with_reducible refine shpr3 ?_ | with_reducible rfl | with_reducible refine (ih _ _ _ _).trans ?_ | with_reducible refine (shp_sI _ _ _ _).trans ?_ | with_reducible refine (shp_sJ _ _ _ _).trans ?_ | with_reducible refine shi ?_ ?_ | with_reducible refine shb (fun _ _ => ?_) | with_reducible refine shiP (fun q : Int32 × Int32 × Int32 × HSt => q.2.2.2) ?_ ?_ | with_reducible refine shbP (fun q : Int32 × Int32 × Int32 × HSt => q.2.2.2) (fun _ _ => ?_) | (subst_vars; with_reducible rfl) | (subst_vars; with_reducible refine (ih _ _ _ _).trans ?_) | (subst_vars; with_reducible refine (shp_sI _ _ _ _).trans ?_) | (subst_vars; with_reducible refine (shp_sJ _ _ _ _).trans ?_) | (subst_vars; with_reducible refine shi ?_ ?_) | (subst_vars; with_reducible refine shb (fun _ _ => ?_)))
set_option maxRecDepth 100000 in
theorem l_X8_seekShow_19 {p : Program} {l : Launch} {e : Env} {s : State} {m : MethodId} {args : Array Value} {below : List Frame} {meth : Method} {c : Code} {G : GG} {Q : State → Prop} (hC : ACx p s m args meth c cX8_seekShow RX8 6 none) (hSt : St G s) {w1 : Nat} (hw1 : (w1, 10, 0) ∈ cKT) : ∀ (n : Nat) (S : HSt) (v2 : Int32) (v3 : Int32) (v4 : Int32), CS S → T_X8_seekShow_19 w1 n S v2 v3 v4 → AW p l e (rmD 4 0 0) s m args below meth c G 6 Q (L_X8_seekShow_19 w1 n S v2 v3 v4).2.2.2 0 0 81 [(0, .ref 38), (1, .ref w1), (2, .int (L_X8_seekShow_19 w1 n S v2 v3 v4).1), (3, .int (L_X8_seekShow_19 w1 n S v2 v3 v4).2.1), (4, .int (L_X8_seekShow_19 w1 n S v2 v3 v4).2.2.1)] [] → AW p l e (rmD 4 0 0) s m args below meth c G 6 Q S 0 0 19 [(0, .ref 38), (1, .ref w1), (2, .int v2), (3, .int v3), (4, .int v4)] [] := by
  intro n
  induction n with
  | zero => intro S v2 v3 v4 _ hT; exact hT.elim
  | succ n ih =>
    intro S v2 v3 v4 hM hT hk
    unfold T_X8_seekShow_19 at hT
    obtain ⟨h0, h1, h2, h3⟩ := hT
    refine aw_iload hC 4 dX8_seekShow_19 rfl ?_
    refine aw_iload_n hC 2 dX8_seekShow_21 rfl rfl ?_
    refine aw_icmp_ge hC 81 dX8_seekShow_22 (by decide) (fun c2004 => ?_) (fun c2004 => ?_)
    · refine aw_sub [0, 1, 2, 3, 4] rfl ?_
      have E : L_X8_seekShow_19 w1 (n + 1) S v2 v3 v4 = _ := (if_pos c2004).trans (rfl)
      rw [E] at hk
      exact hk
    · refine aw_aload_n hC 0 dX8_seekShow_25 rfl rfl ?_
      refine aw_aload_n hC 1 dX8_seekShow_26 rfl rfl ?_
      refine aw_iload_n hC 3 dX8_seekShow_27 rfl rfl ?_
      refine aw_iload hC 4 dX8_seekShow_28 rfl ?_
      refine aw_cV3r hC hSt (t_X8_nextForm G l hM _ _ _ hw1 (h0 c2004)) w_632 w_634 w_635 w_636 w_625 rfl rfl (by decide +kernel) ⟨Nat.le_of_ble_eq_true rfl, Nat.le_of_ble_eq_true rfl⟩ (cs_lt 38 8 0 (by decide) hM) (cs_k 38 8 0 (by decide) hM) rfl (Nat.le_of_ble_eq_true rfl) dX8_seekShow_30 ⟨Nat.zero_le _, Nat.zero_le _⟩ ?_
      refine aw_istore hC [(5, .int _), (0, .ref 38), (1, .ref w1), (2, .int _), (3, .int _), (4, .int _)] dX8_seekShow_33 (by decide) rfl ?_
      generalize ex2005 : (f_X8_nextForm S 38 w1 v3 v4) = x2005
      refine aw_aload_n hC 1 dX8_seekShow_35 rfl rfl ?_
      refine aw_getP (b := 39) hC hSt 0 (cs_lt 38 8 0 (by decide) hM) (cs_k 38 8 0 (by decide) hM) rfl (by decide) w_614 rfl (cs_p 38 0 39 (by decide) hM) dX8_seekShow_36 ?_
      refine aw_iload_n hC 4 dX8_seekShow_39 rfl rfl ?_
      refine aw_iload hC 5 dX8_seekShow_40 rfl ?_
      refine aw_cS2r hC hSt (t_X8_placeOf G l  _ _) w_619 w_628 w_629 w_625 rfl rfl (by decide +kernel) ⟨Nat.le_of_ble_eq_true rfl, Nat.le_of_ble_eq_true rfl⟩ (Nat.le_of_ble_eq_true rfl) dX8_seekShow_42 ⟨Nat.zero_le _, Nat.zero_le _⟩ ?_
      refine aw_iload hC 0 dX8_seekShow_45 rfl ?_
      refine aw_ldc (v := -1000000) hC w_626 dX8_seekShow_47 ?_
      refine aw_cut (S' := S) (pc' := 74) (lv' := [(5, .int x2005), (0, .ref 38), (1, .ref w1), (2, .int v2), (3, .int v3), (4, .int v4)]) (st' := [.int (if x2005 = (-1000000 : Int32) then (1 : Int32) else ((1 : Int32) + (gI S 39 (f_X8_placeOf S (v3 ||| ((1 : Int32) <<< (x2005 &&& 31))) x2005).toNatClampNeg))), .int (f_X8_placeOf S v3 v4), .ref 39]) ?_ (fun Jc2006 => ?_)
      · generalize ex2007 : (if x2005 = (-1000000 : Int32) then (1 : Int32) else ((1 : Int32) + (gI S 39 (f_X8_placeOf S (v3 ||| ((1 : Int32) <<< (x2005 &&& 31))) x2005).toNatClampNeg))) = x2007
        refine aw_iast hC hSt (cs_lt 39 14 384 (by decide) hM) (cs_k 39 14 384 (by decide) hM) (vp_len (n := 384) (cs_l 39 14 384 (by decide) hM) (h2 c2004 x2005 ex2005 x2007 ex2007)) dX8_seekShow_74 ?_
        generalize eS2008 : (sI S 39 (f_X8_placeOf S v3 v4).toNatClampNeg x2007) = S2008
        have hM : CS S2008 := CS.of (by rw [← eS2008]; exact shp_sI _ _ _ _) hM
        refine aw_iinc (v := (v4 + (1 : Int32))) hC 5 [(4, .int _), (5, .int _), (0, .ref 38), (1, .ref w1), (2, .int _), (3, .int _)] dX8_seekShow_75 rfl rfl (by decide) rfl ?_
        refine aw_goto hC 19 dX8_seekShow_78 (by decide) ?_
        refine aw_sub [2, 3, 4, 5, 0] rfl ?_
        have hTn := (h3 c2004 x2005 ex2005 x2007 ex2007 S2008 eS2008)
        have hMn : CS S2008 := hM
        have E : L_X8_seekShow_19 w1 (n + 1) S v2 v3 v4 = _ := (if_neg c2004).trans ((bd_eq ex2005).trans ((bd_eq ex2007).trans ((bd_eq eS2008).trans (rfl))))
        rw [E] at hk
        exact ih _ _ _ _ hMn hTn hk
      · refine aw_icmp_ne hC 56 dX8_seekShow_49 (by decide) (fun c2006 => ?_) (fun c2006 => ?_)
        · refine aw_iconst (v := 1) hC dX8_seekShow_56 (by decide) ?_
          refine aw_aload_n hC 1 dX8_seekShow_57 rfl rfl ?_
          refine aw_getP (b := 39) hC hSt 0 (cs_lt 38 8 0 (by decide) hM) (cs_k 38 8 0 (by decide) hM) rfl (by decide) w_614 rfl (cs_p 38 0 39 (by decide) hM) dX8_seekShow_58 ?_
          refine aw_iload_n hC 4 dX8_seekShow_61 rfl rfl ?_
          refine aw_iconst (v := 1) hC dX8_seekShow_62 (by decide) ?_
          refine aw_iload hC 0 dX8_seekShow_63 rfl ?_
          refine aw_ishl hC dX8_seekShow_65 ?_
          refine aw_ior hC dX8_seekShow_66 ?_
          refine aw_iload hC 0 dX8_seekShow_67 rfl ?_
          refine aw_cS2r hC hSt (t_X8_placeOf G l  _ _) w_619 w_628 w_629 w_625 rfl rfl (by decide +kernel) ⟨Nat.le_of_ble_eq_true rfl, Nat.le_of_ble_eq_true rfl⟩ (Nat.le_of_ble_eq_true rfl) dX8_seekShow_69 ⟨Nat.zero_le _, Nat.zero_le _⟩ ?_
          refine aw_iald hC hSt (cs_lt 39 14 384 (by decide) hM) (cs_k 39 14 384 (by decide) hM) (vp_len (n := 384) (cs_l 39 14 384 (by decide) hM) (h1 c2004 x2005 ex2005 c2006)) dX8_seekShow_72 ?_
          refine aw_iadd hC dX8_seekShow_73 ?_
          simp only [bd_def, if_neg c2006] at Jc2006 ⊢
          exact Jc2006
        · refine aw_iconst (v := 1) hC dX8_seekShow_52 (by decide) ?_
          refine aw_goto hC 74 dX8_seekShow_53 (by decide) ?_
          simp only [bd_def, if_pos c2006] at Jc2006 ⊢
          exact Jc2006
def L_X8_seekShow_12 (w1 : Nat) : Nat → HSt → Int32 → Int32 → Int32 × Int32 × HSt
  | 0, S, v2, v3 => (v2, v3, S)
  | n + 1, S, v2, v3 =>
    if v3 ≤ 0 then ((pr (v2) (pr (v3) (S)))) else (bd (L_X8_seekShow_19 w1 1000 S v2 v3 (0 : Int32)) fun r1004 => L_X8_seekShow_12 w1 n r1004.2.2.2 r1004.1 (r1004.2.1 + (-1 : Int32)))
def T_X8_seekShow_12 (w1 : Nat) : Nat → HSt → Int32 → Int32 → Prop
  | 0, _, _, _ => False
  | n + 1, S, v2, v3 => ((¬ v3 ≤ 0) → T_X8_seekShow_19 w1 1000 S v2 v3 (0 : Int32)) ∧ ((¬ v3 ≤ 0) → ∀ r1004, L_X8_seekShow_19 w1 1000 S v2 v3 (0 : Int32) = r1004 → T_X8_seekShow_12 w1 n r1004.2.2.2 r1004.1 (r1004.2.1 + (-1 : Int32)))
theorem qL_X8_seekShow_12 (w1 : Nat) : ∀ (n : Nat) (S : HSt) (v2 : Int32) (v3 : Int32), shp (L_X8_seekShow_12 w1 n S v2 v3).2.2 = shp S := by
  intro n
  induction n with
  | zero => intros; rfl
  | succ n ih =>
    intro S v2 v3
    unfold L_X8_seekShow_12
    repeat' (first | with_reducible refine shpr2 ?_ | with_reducible rfl | with_reducible refine (ih _ _ _).trans ?_ | with_reducible refine (qL_X8_seekShow_19 w1 _ _ _ _ _).trans ?_ | with_reducible refine (shp_sI _ _ _ _).trans ?_ | with_reducible refine (shp_sJ _ _ _ _).trans ?_ | with_reducible refine shi ?_ ?_ | with_reducible refine shb (fun _ _ => ?_) | with_reducible refine shiP (fun q : Int32 × Int32 × HSt => q.2.2) ?_ ?_ | with_reducible refine shbP (fun q : Int32 × Int32 × HSt => q.2.2) (fun _ _ => ?_) | (subst_vars; with_reducible rfl) | (subst_vars; with_reducible refine (ih _ _ _).trans ?_) | (subst_vars; with_reducible refine (qL_X8_seekShow_19 w1 _ _ _ _ _).trans ?_) | (subst_vars; with_reducible refine (shp_sI _ _ _ _).trans ?_) | (subst_vars; with_reducible refine (shp_sJ _ _ _ _).trans ?_) | (subst_vars; with_reducible refine shi ?_ ?_) | (subst_vars; with_reducible refine shb (fun _ _ => ?_)))
set_option maxRecDepth 100000 in
theorem l_X8_seekShow_12 {p : Program} {l : Launch} {e : Env} {s : State} {m : MethodId} {args : Array Value} {below : List Frame} {meth : Method} {c : Code} {G : GG} {Q : State → Prop} (hC : ACx p s m args meth c cX8_seekShow RX8 6 none) (hSt : St G s) {w1 : Nat} (hw1 : (w1, 10, 0) ∈ cKT) : ∀ (n : Nat) (S : HSt) (v2 : Int32) (v3 : Int32), CS S → T_X8_seekShow_12 w1 n S v2 v3 → AW p l e (rmD 4 0 0) s m args below meth c G 6 Q (L_X8_seekShow_12 w1 n S v2 v3).2.2 0 0 87 [(0, .ref 38), (1, .ref w1), (2, .int (L_X8_seekShow_12 w1 n S v2 v3).1), (3, .int (L_X8_seekShow_12 w1 n S v2 v3).2.1)] [] → AW p l e (rmD 4 0 0) s m args below meth c G 6 Q S 0 0 12 [(0, .ref 38), (1, .ref w1), (2, .int v2), (3, .int v3)] [] := by
  intro n
  induction n with
  | zero => intro S v2 v3 _ hT; exact hT.elim
  | succ n ih =>
    intro S v2 v3 hM hT hk
    unfold T_X8_seekShow_12 at hT
    obtain ⟨h0, h1⟩ := hT
    refine aw_iload_n hC 3 dX8_seekShow_12 rfl rfl ?_
    refine aw_if_le hC 87 dX8_seekShow_13 (by decide) (fun c1003 => ?_) (fun c1003 => ?_)
    · refine aw_sub [0, 1, 2, 3] rfl ?_
      have E : L_X8_seekShow_12 w1 (n + 1) S v2 v3 = _ := (if_pos c1003).trans (rfl)
      rw [E] at hk
      exact hk
    · refine aw_iconst (v := 0) hC dX8_seekShow_16 (by decide) ?_
      refine aw_istore hC [(4, .int _), (0, .ref 38), (1, .ref w1), (2, .int _), (3, .int _)] dX8_seekShow_17 (by decide) rfl ?_
      refine aw_sub [1, 2, 3, 4, 0] rfl ?_
      refine l_X8_seekShow_19 hC hSt hw1 1000 _ _ _ _ hM (h0 c1003) ?_
      generalize er1004 : L_X8_seekShow_19 w1 1000 S v2 v3 (0 : Int32) = r1004
      have hM : CS r1004.2.2.2 := CS.of (by rw [← er1004]; exact qL_X8_seekShow_19 w1 _ _ _ _ _) hM
      refine aw_iinc (v := (r1004.2.1 + (-1 : Int32))) hC 3 [(3, .int _), (0, .ref 38), (1, .ref w1), (2, .int _), (4, .int _)] dX8_seekShow_81 rfl rfl (by decide) rfl ?_
      refine aw_goto hC 12 dX8_seekShow_84 (by decide) ?_
      refine aw_sub [1, 2, 3, 0] rfl ?_
      have hTn := (h1 c1003 r1004 er1004)
      have hMn : CS r1004.2.2.2 := hM
      have E : L_X8_seekShow_12 w1 (n + 1) S v2 v3 = _ := (if_neg c1003).trans ((bd_eq er1004).trans (rfl))
      rw [E] at hk
      exact ih _ _ _ hMn hTn hk
def L_X8_seekShow_104 (w1 : Nat) : Nat → HSt → Int32 → Int32 → Int32 → Int32 × Int32 × Int32 × HSt
  | 0, S, v2, v3, v4 => (v2, v3, v4, S)
  | n + 1, S, v2, v3, v4 =>
    if v4 = (-1000000 : Int32) then ((pr (v2) (pr (v3) (pr (v4) (S))))) else (if v2 ≤ (gI S 38 4) then ((pr (v2) (pr (v3) (pr (v4) (S))))) else (bd ((sI S 40 (gI S 38 4).toNatClampNeg v4)) fun S1008 => bd ((sI S1008 38 4 ((gI S1008 38 4) + (1 : Int32)))) fun S1009 => bd ((v3 ||| ((1 : Int32) <<< (v4 &&& 31)))) fun x1010 => bd ((f_X8_nextForm S1009 38 w1 x1010 v4)) fun x1011 => L_X8_seekShow_104 w1 n S1009 v2 x1010 x1011))
def T_X8_seekShow_104 (w1 : Nat) : Nat → HSt → Int32 → Int32 → Int32 → Prop
  | 0, _, _, _, _ => False
  | n + 1, S, v2, v3, v4 => ((¬ v4 = (-1000000 : Int32)) → (¬ v2 ≤ (gI S 38 4)) → vp_in (gI S 38 4) 6) ∧ ((¬ v4 = (-1000000 : Int32)) → (¬ v2 ≤ (gI S 38 4)) → ∀ S1008 : HSt, (sI S 40 (gI S 38 4).toNatClampNeg v4) = S1008 → ∀ S1009 : HSt, (sI S1008 38 4 ((gI S1008 38 4) + (1 : Int32))) = S1009 → ∀ x1010 : Int32, (v3 ||| ((1 : Int32) <<< (v4 &&& 31))) = x1010 → p_X8_nextForm S1009 38 w1 x1010 v4) ∧ ((¬ v4 = (-1000000 : Int32)) → (¬ v2 ≤ (gI S 38 4)) → ∀ S1008 : HSt, (sI S 40 (gI S 38 4).toNatClampNeg v4) = S1008 → ∀ S1009 : HSt, (sI S1008 38 4 ((gI S1008 38 4) + (1 : Int32))) = S1009 → ∀ x1010 : Int32, (v3 ||| ((1 : Int32) <<< (v4 &&& 31))) = x1010 → ∀ x1011 : Int32, (f_X8_nextForm S1009 38 w1 x1010 v4) = x1011 → T_X8_seekShow_104 w1 n S1009 v2 x1010 x1011)
theorem qL_X8_seekShow_104 (w1 : Nat) : ∀ (n : Nat) (S : HSt) (v2 : Int32) (v3 : Int32) (v4 : Int32), shp (L_X8_seekShow_104 w1 n S v2 v3 v4).2.2.2 = shp S := by
  intro n
  induction n with
  | zero => intros; rfl
  | succ n ih =>
    intro S v2 v3 v4
    unfold L_X8_seekShow_104
    repeat' (first | with_reducible refine shpr3 ?_ | with_reducible rfl | with_reducible refine (ih _ _ _ _).trans ?_ | with_reducible refine (qL_X8_seekShow_12 w1 _ _ _ _).trans ?_ | with_reducible refine (qL_X8_seekShow_19 w1 _ _ _ _ _).trans ?_ | with_reducible refine (shp_sI _ _ _ _).trans ?_ | with_reducible refine (shp_sJ _ _ _ _).trans ?_ | with_reducible refine shi ?_ ?_ | with_reducible refine shb (fun _ _ => ?_) | with_reducible refine shiP (fun q : Int32 × Int32 × Int32 × HSt => q.2.2.2) ?_ ?_ | with_reducible refine shbP (fun q : Int32 × Int32 × Int32 × HSt => q.2.2.2) (fun _ _ => ?_) | (subst_vars; with_reducible rfl) | (subst_vars; with_reducible refine (ih _ _ _ _).trans ?_) | (subst_vars; with_reducible refine (qL_X8_seekShow_12 w1 _ _ _ _).trans ?_) | (subst_vars; with_reducible refine (qL_X8_seekShow_19 w1 _ _ _ _ _).trans ?_) | (subst_vars; with_reducible refine (shp_sI _ _ _ _).trans ?_) | (subst_vars; with_reducible refine (shp_sJ _ _ _ _).trans ?_) | (subst_vars; with_reducible refine shi ?_ ?_) | (subst_vars; with_reducible refine shb (fun _ _ => ?_)))
set_option maxRecDepth 100000 in
theorem l_X8_seekShow_104 {p : Program} {l : Launch} {e : Env} {s : State} {m : MethodId} {args : Array Value} {below : List Frame} {meth : Method} {c : Code} {G : GG} {Q : State → Prop} (hC : ACx p s m args meth c cX8_seekShow RX8 6 none) (hSt : St G s) {w1 : Nat} (hw1 : (w1, 10, 0) ∈ cKT) : ∀ (n : Nat) (S : HSt) (v2 : Int32) (v3 : Int32) (v4 : Int32), CS S → T_X8_seekShow_104 w1 n S v2 v3 v4 → AW p l e (rmD 4 0 0) s m args below meth c G 6 Q (L_X8_seekShow_104 w1 n S v2 v3 v4).2.2.2 0 0 160 [(0, .ref 38), (1, .ref w1), (2, .int (L_X8_seekShow_104 w1 n S v2 v3 v4).1), (3, .int (L_X8_seekShow_104 w1 n S v2 v3 v4).2.1), (4, .int (L_X8_seekShow_104 w1 n S v2 v3 v4).2.2.1)] [] → AW p l e (rmD 4 0 0) s m args below meth c G 6 Q S 0 0 104 [(0, .ref 38), (1, .ref w1), (2, .int v2), (3, .int v3), (4, .int v4)] [] := by
  intro n
  induction n with
  | zero => intro S v2 v3 v4 _ hT; exact hT.elim
  | succ n ih =>
    intro S v2 v3 v4 hM hT hk
    unfold T_X8_seekShow_104 at hT
    obtain ⟨h0, h1, h2⟩ := hT
    refine aw_iload hC 4 dX8_seekShow_104 rfl ?_
    refine aw_ldc (v := -1000000) hC w_626 dX8_seekShow_106 ?_
    refine aw_icmp_eq hC 160 dX8_seekShow_108 (by decide) (fun c1006 => ?_) (fun c1006 => ?_)
    · refine aw_sub [0, 1, 2, 3, 4] rfl ?_
      have E : L_X8_seekShow_104 w1 (n + 1) S v2 v3 v4 = _ := (if_pos c1006).trans (rfl)
      rw [E] at hk
      exact hk
    · refine aw_aload_n hC 0 dX8_seekShow_111 rfl rfl ?_
      refine aw_getI hC hSt 4 (cs_lt 38 8 0 (by decide) hM) (cs_k 38 8 0 (by decide) hM) rfl (by decide) w_633 rfl dX8_seekShow_112 ?_
      refine aw_iload_n hC 2 dX8_seekShow_115 rfl rfl ?_
      refine aw_icmp_ge hC 160 dX8_seekShow_116 (by decide) (fun c1007 => ?_) (fun c1007 => ?_)
      · refine aw_sub [0, 1, 2, 3, 4] rfl ?_
        have E : L_X8_seekShow_104 w1 (n + 1) S v2 v3 v4 = _ := (if_neg c1006).trans ((if_pos c1007).trans (rfl))
        rw [E] at hk
        exact hk
      · refine aw_aload_n hC 0 dX8_seekShow_119 rfl rfl ?_
        refine aw_getP (b := 40) hC hSt 1 (cs_lt 38 8 0 (by decide) hM) (cs_k 38 8 0 (by decide) hM) rfl (by decide) w_615 rfl (cs_p 38 1 40 (by decide) hM) dX8_seekShow_120 ?_
        refine aw_aload_n hC 0 dX8_seekShow_123 rfl rfl ?_
        refine aw_getI hC hSt 4 (cs_lt 38 8 0 (by decide) hM) (cs_k 38 8 0 (by decide) hM) rfl (by decide) w_633 rfl dX8_seekShow_124 ?_
        refine aw_iload hC 4 dX8_seekShow_127 rfl ?_
        refine aw_iast hC hSt (cs_lt 40 14 6 (by decide) hM) (cs_k 40 14 6 (by decide) hM) (vp_len (n := 6) (cs_l 40 14 6 (by decide) hM) (h0 c1006 c1007)) dX8_seekShow_129 ?_
        generalize eS1008 : (sI S 40 (gI S 38 4).toNatClampNeg v4) = S1008
        have hM : CS S1008 := CS.of (by rw [← eS1008]; exact shp_sI _ _ _ _) hM
        refine aw_aload_n hC 0 dX8_seekShow_130 rfl rfl ?_
        refine aw_dup hC dX8_seekShow_131 rfl ?_
        refine aw_getI hC hSt 4 (cs_lt 38 8 0 (by decide) hM) (cs_k 38 8 0 (by decide) hM) rfl (by decide) w_633 rfl dX8_seekShow_132 ?_
        refine aw_iconst (v := 1) hC dX8_seekShow_135 (by decide) ?_
        refine aw_iadd hC dX8_seekShow_136 ?_
        refine aw_putI hC hSt 4 (cs_lt 38 8 0 (by decide) hM) (cs_k 38 8 0 (by decide) hM) rfl (by decide) w_633 rfl rfl rfl rfl dX8_seekShow_137 ?_
        generalize eS1009 : (sI S1008 38 4 ((gI S1008 38 4) + (1 : Int32))) = S1009
        have hM : CS S1009 := CS.of (by rw [← eS1009]; exact shp_sI _ _ _ _) hM
        refine aw_iload_n hC 3 dX8_seekShow_140 rfl rfl ?_
        refine aw_iconst (v := 1) hC dX8_seekShow_141 (by decide) ?_
        refine aw_iload hC 4 dX8_seekShow_142 rfl ?_
        refine aw_ishl hC dX8_seekShow_144 ?_
        refine aw_ior hC dX8_seekShow_145 ?_
        refine aw_istore_n hC [(3, .int _), (0, .ref 38), (1, .ref w1), (2, .int _), (4, .int _)] dX8_seekShow_146 rfl (by decide) rfl ?_
        generalize ex1010 : (v3 ||| ((1 : Int32) <<< (v4 &&& 31))) = x1010
        refine aw_aload_n hC 1 dX8_seekShow_147 rfl rfl ?_
        refine aw_aload_n hC 2 dX8_seekShow_148 rfl rfl ?_
        refine aw_iload_n hC 0 dX8_seekShow_149 rfl rfl ?_
        refine aw_iload hC 4 dX8_seekShow_150 rfl ?_
        refine aw_cV3r hC hSt (t_X8_nextForm G l hM _ _ _ hw1 (h1 c1006 c1007 S1008 eS1008 S1009 eS1009 x1010 ex1010)) w_632 w_634 w_635 w_636 w_625 rfl rfl (by decide +kernel) ⟨Nat.le_of_ble_eq_true rfl, Nat.le_of_ble_eq_true rfl⟩ (cs_lt 38 8 0 (by decide) hM) (cs_k 38 8 0 (by decide) hM) rfl (Nat.le_of_ble_eq_true rfl) dX8_seekShow_152 ⟨Nat.zero_le _, Nat.zero_le _⟩ ?_
        refine aw_istore hC [(4, .int _), (3, .int _), (0, .ref 38), (1, .ref w1), (2, .int _)] dX8_seekShow_155 (by decide) rfl ?_
        generalize ex1011 : (f_X8_nextForm S1009 38 w1 x1010 v4) = x1011
        refine aw_goto hC 104 dX8_seekShow_157 (by decide) ?_
        refine aw_sub [2, 3, 4, 1, 0] rfl ?_
        have hTn := (h2 c1006 c1007 S1008 eS1008 S1009 eS1009 x1010 ex1010 x1011 ex1011)
        have hMn : CS S1009 := hM
        have E : L_X8_seekShow_104 w1 (n + 1) S v2 v3 v4 = _ := (if_neg c1006).trans ((if_neg c1007).trans ((bd_eq eS1008).trans ((bd_eq eS1009).trans ((bd_eq ex1010).trans ((bd_eq ex1011).trans (rfl))))))
        rw [E] at hk
        exact ih _ _ _ _ hMn hTn hk
def f_X8_seekShow (S : HSt) (_o0 : Nat) (w1 : Nat) : HSt := bd ((f_X10_howMany S w1 (3 : Int32))) fun x1 => bd ((((1 : Int32) <<< (x1 &&& 31)) - (1 : Int32))) fun x2 => bd (L_X8_seekShow_12 w1 1000 S x1 x2) fun r3 => bd ((sI r3.2.2 38 4 (0 : Int32))) fun S4 => bd ((f_X8_nextForm S4 38 w1 (0 : Int32) (-1000000 : Int32))) fun x5 => bd (L_X8_seekShow_104 w1 1000 S4 r3.1 (0 : Int32) x5) fun r6 => r6.2.2.2
def p_X8_seekShow (S : HSt) (_o0 : Nat) (w1 : Nat) : Prop := (p_X10_howMany S w1 (3 : Int32)) ∧ (∀ x1 : Int32, (f_X10_howMany S w1 (3 : Int32)) = x1 → ∀ x2 : Int32, (((1 : Int32) <<< (x1 &&& 31)) - (1 : Int32)) = x2 → T_X8_seekShow_12 w1 1000 S x1 x2) ∧ (∀ x1 : Int32, (f_X10_howMany S w1 (3 : Int32)) = x1 → ∀ x2 : Int32, (((1 : Int32) <<< (x1 &&& 31)) - (1 : Int32)) = x2 → ∀ r3, L_X8_seekShow_12 w1 1000 S x1 x2 = r3 → ∀ S4 : HSt, (sI r3.2.2 38 4 (0 : Int32)) = S4 → p_X8_nextForm S4 38 w1 (0 : Int32) (-1000000 : Int32)) ∧ (∀ x1 : Int32, (f_X10_howMany S w1 (3 : Int32)) = x1 → ∀ x2 : Int32, (((1 : Int32) <<< (x1 &&& 31)) - (1 : Int32)) = x2 → ∀ r3, L_X8_seekShow_12 w1 1000 S x1 x2 = r3 → ∀ S4 : HSt, (sI r3.2.2 38 4 (0 : Int32)) = S4 → ∀ x5 : Int32, (f_X8_nextForm S4 38 w1 (0 : Int32) (-1000000 : Int32)) = x5 → T_X8_seekShow_104 w1 1000 S4 r3.1 (0 : Int32) x5)
set_option maxRecDepth 100000 in
theorem t_X8_seekShow (G : GG) (l : Launch) {S : HSt} (hM : CS S) (w1 : Nat) (hw1 : (w1, 10, 0) ∈ cKT) (hp : p_X8_seekShow S 38 w1) : AM G l yX8_seekShow cX8_seekShow 6 none (rmD 4 0 0) 0 0 [.ref 38, .ref w1] S (FP none (f_X8_seekShow S 38 w1)) := by
  obtain ⟨h0, h1, h2, h3⟩ := hp
  refine AM.mk (by decide) (Nat.le_of_ble_eq_true rfl) ?_
  intro p e s m below meth c hC hSt _
  refine aw_aload_n hC 1 dX8_seekShow_0 rfl rfl ?_
  refine aw_iconst (v := 3) hC dX8_seekShow_1 (by decide) ?_
  refine aw_cV1r hC hSt (t_X10_howMany G l hM _ _ hw1 (h0)) w_152 w_627 w_237 w_238 w_18 rfl rfl (by decide +kernel) ⟨Nat.le_of_ble_eq_true rfl, Nat.le_of_ble_eq_true rfl⟩ (cs_lt w1 10 0 hw1 hM) (cs_k w1 10 0 hw1 hM) rfl (Nat.le_of_ble_eq_true rfl) dX8_seekShow_2 ⟨Nat.zero_le _, Nat.zero_le _⟩ ?_
  refine aw_istore_n hC [(2, .int _), (0, .ref 38), (1, .ref w1)] dX8_seekShow_5 rfl (by decide) rfl ?_
  generalize ex1 : (f_X10_howMany S w1 (3 : Int32)) = x1
  refine aw_iconst (v := 1) hC dX8_seekShow_6 (by decide) ?_
  refine aw_iload_n hC 0 dX8_seekShow_7 rfl rfl ?_
  refine aw_ishl hC dX8_seekShow_8 ?_
  refine aw_iconst (v := 1) hC dX8_seekShow_9 (by decide) ?_
  refine aw_isub hC dX8_seekShow_10 ?_
  refine aw_istore_n hC [(3, .int _), (2, .int _), (0, .ref 38), (1, .ref w1)] dX8_seekShow_11 rfl (by decide) rfl ?_
  generalize ex2 : (((1 : Int32) <<< (x1 &&& 31)) - (1 : Int32)) = x2
  refine aw_sub [2, 3, 1, 0] rfl ?_
  refine l_X8_seekShow_12 hC hSt hw1 1000 _ _ _ hM (h1 x1 ex1 x2 ex2) ?_
  generalize er3 : L_X8_seekShow_12 w1 1000 S x1 x2 = r3
  have hM : CS r3.2.2 := CS.of (by rw [← er3]; exact qL_X8_seekShow_12 w1 _ _ _ _) hM
  refine aw_aload_n hC 0 dX8_seekShow_87 rfl rfl ?_
  refine aw_iconst (v := 0) hC dX8_seekShow_88 (by decide) ?_
  refine aw_putI hC hSt 4 (cs_lt 38 8 0 (by decide) hM) (cs_k 38 8 0 (by decide) hM) rfl (by decide) w_633 rfl rfl rfl rfl dX8_seekShow_89 ?_
  generalize eS4 : (sI r3.2.2 38 4 (0 : Int32)) = S4
  have hM : CS S4 := CS.of (by rw [← eS4]; exact shp_sI _ _ _ _) hM
  refine aw_iconst (v := 0) hC dX8_seekShow_92 (by decide) ?_
  refine aw_istore_n hC [(3, .int _), (0, .ref 38), (1, .ref w1), (2, .int _)] dX8_seekShow_93 rfl (by decide) rfl ?_
  refine aw_aload_n hC 1 dX8_seekShow_94 rfl rfl ?_
  refine aw_aload_n hC 2 dX8_seekShow_95 rfl rfl ?_
  refine aw_iconst (v := 0) hC dX8_seekShow_96 (by decide) ?_
  refine aw_ldc (v := -1000000) hC w_626 dX8_seekShow_97 ?_
  refine aw_cV3r hC hSt (t_X8_nextForm G l hM _ _ _ hw1 (h2 x1 ex1 x2 ex2 r3 er3 S4 eS4)) w_632 w_634 w_635 w_636 w_625 rfl rfl (by decide +kernel) ⟨Nat.le_of_ble_eq_true rfl, Nat.le_of_ble_eq_true rfl⟩ (cs_lt 38 8 0 (by decide) hM) (cs_k 38 8 0 (by decide) hM) rfl (Nat.le_of_ble_eq_true rfl) dX8_seekShow_99 ⟨Nat.zero_le _, Nat.zero_le _⟩ ?_
  refine aw_istore hC [(4, .int _), (3, .int _), (0, .ref 38), (1, .ref w1), (2, .int _)] dX8_seekShow_102 (by decide) rfl ?_
  generalize ex5 : (f_X8_nextForm S4 38 w1 (0 : Int32) (-1000000 : Int32)) = x5
  refine aw_sub [2, 3, 4, 1, 0] rfl ?_
  refine l_X8_seekShow_104 hC hSt hw1 1000 _ _ _ _ hM (h3 x1 ex1 x2 ex2 r3 er3 S4 eS4 x5 ex5) ?_
  generalize er6 : L_X8_seekShow_104 w1 1000 S4 r3.1 (0 : Int32) x5 = r6
  have hM : CS r6.2.2.2 := CS.of (by rw [← er6]; exact qL_X8_seekShow_104 w1 _ _ _ _ _) hM
  refine aw_vret hC dX8_seekShow_160 (Nat.le_refl _) (Nat.le_refl _) ?_
  exact FP.qV ((bd_eq ex1).trans ((bd_eq ex2).trans ((bd_eq er3).trans ((bd_eq eS4).trans ((bd_eq ex5).trans ((bd_eq er6).trans (rfl)))))))
theorem q_X8_seekShow (S : HSt) (_o0 : Nat) (w1 : Nat) : shp (f_X8_seekShow S _o0 w1) = shp S := by
  unfold f_X8_seekShow
  repeat' (first | with_reducible rfl | with_reducible refine (qL_X8_seekShow_12 w1 _ _ _ _).trans ?_ | with_reducible refine (qL_X8_seekShow_19 w1 _ _ _ _ _).trans ?_ | with_reducible refine (qL_X8_seekShow_104 w1 _ _ _ _ _).trans ?_ | with_reducible refine (shp_sI _ _ _ _).trans ?_ | with_reducible refine (shp_sJ _ _ _ _).trans ?_ | with_reducible refine shi ?_ ?_ | with_reducible refine shb (fun _ _ => ?_) | (subst_vars; with_reducible rfl) | (subst_vars; with_reducible refine (qL_X8_seekShow_12 w1 _ _ _ _).trans ?_) | (subst_vars; with_reducible refine (qL_X8_seekShow_19 w1 _ _ _ _ _).trans ?_) | (subst_vars; with_reducible refine (qL_X8_seekShow_104 w1 _ _ _ _ _).trans ?_) | (subst_vars; with_reducible refine (shp_sI _ _ _ _).trans ?_) | (subst_vars; with_reducible refine (shp_sJ _ _ _ _).trans ?_) | (subst_vars; with_reducible refine shi ?_ ?_) | (subst_vars; with_reducible refine shb (fun _ _ => ?_)))
def F_X8_skillBehind (S : HSt) (w1 : Nat) (a2 : Int32) (a3 : Int32) : Int32 × HSt := bd ((f_X10_value S w1 (0 : Int32) a2 (1 : Int32))) fun x1 => bd ((f_X10_value S w1 (0 : Int32) a2 (0 : Int32))) fun x2 => bd ((if 0 ≤ (((a3 / (10 : Int32)) - x1) - (x2 / (50 : Int32))) then (((a3 / (10 : Int32)) - x1) - (x2 / (50 : Int32))) else 0 - (((a3 / (10 : Int32)) - x1) - (x2 / (50 : Int32))))) fun x3 => pr ((if (a3 + (if (0 : Int32) < ((10 : Int32) - x3) then ((10 : Int32) - x3) else (0 : Int32))) < (100 : Int32) then (a3 + (if (0 : Int32) < ((10 : Int32) - x3) then ((10 : Int32) - x3) else (0 : Int32))) else (100 : Int32))) (S)
def f_X8_skillBehind (S : HSt) (w1 : Nat) (a2 : Int32) (a3 : Int32) : Int32 := (F_X8_skillBehind S w1 a2 a3).1
def p_X8_skillBehind (S : HSt) (w1 : Nat) (a2 : Int32) (a3 : Int32) : Prop := (p_X10_value S w1 (0 : Int32) a2 (1 : Int32)) ∧ (∀ x1 : Int32, (f_X10_value S w1 (0 : Int32) a2 (1 : Int32)) = x1 → p_X10_value S w1 (0 : Int32) a2 (0 : Int32))
set_option maxRecDepth 100000 in
theorem t_X8_skillBehind (G : GG) (l : Launch) {S : HSt} (hM : CS S) (w1 : Nat) (a2 : Int32) (a3 : Int32) (hw1 : (w1, 10, 0) ∈ cKT) (hp : p_X8_skillBehind S w1 a2 a3) : AM G l yX8_skillBehind cX8_skillBehind 6 (some .int) (rmD 1 0 0) 0 0 [.ref w1, .int a2, .int a3] S (FP (some (.int (f_X8_skillBehind S w1 a2 a3))) (S)) := by
  obtain ⟨h0, h1⟩ := hp
  refine AM.mk (by decide) (Nat.le_of_ble_eq_true rfl) ?_
  intro p e s m below meth c hC hSt _
  refine aw_aload_n hC 0 dX8_skillBehind_0 rfl rfl ?_
  refine aw_iconst (v := 0) hC dX8_skillBehind_1 (by decide) ?_
  refine aw_iload_n hC 1 dX8_skillBehind_2 rfl rfl ?_
  refine aw_iconst (v := 1) hC dX8_skillBehind_3 (by decide) ?_
  refine aw_cV3r hC hSt (t_X10_value G l hM _ _ _ _ hw1 (h0)) w_10 w_621 w_16 w_17 w_18 rfl rfl (by decide +kernel) ⟨Nat.le_of_ble_eq_true rfl, Nat.le_of_ble_eq_true rfl⟩ (cs_lt w1 10 0 hw1 hM) (cs_k w1 10 0 hw1 hM) rfl (Nat.le_of_ble_eq_true rfl) dX8_skillBehind_4 ⟨Nat.zero_le _, Nat.zero_le _⟩ ?_
  refine aw_istore_n hC [(3, .int _), (0, .ref w1), (1, .int _), (2, .int _)] dX8_skillBehind_7 rfl (by decide) rfl ?_
  generalize ex1 : (f_X10_value S w1 (0 : Int32) a2 (1 : Int32)) = x1
  refine aw_aload_n hC 1 dX8_skillBehind_8 rfl rfl ?_
  refine aw_iconst (v := 0) hC dX8_skillBehind_9 (by decide) ?_
  refine aw_iload_n hC 2 dX8_skillBehind_10 rfl rfl ?_
  refine aw_iconst (v := 0) hC dX8_skillBehind_11 (by decide) ?_
  refine aw_cV3r hC hSt (t_X10_value G l hM _ _ _ _ hw1 (h1 x1 ex1)) w_10 w_621 w_16 w_17 w_18 rfl rfl (by decide +kernel) ⟨Nat.le_of_ble_eq_true rfl, Nat.le_of_ble_eq_true rfl⟩ (cs_lt w1 10 0 hw1 hM) (cs_k w1 10 0 hw1 hM) rfl (Nat.le_of_ble_eq_true rfl) dX8_skillBehind_12 ⟨Nat.zero_le _, Nat.zero_le _⟩ ?_
  refine aw_istore hC [(4, .int _), (3, .int _), (0, .ref w1), (1, .int _), (2, .int _)] dX8_skillBehind_15 (by decide) rfl ?_
  generalize ex2 : (f_X10_value S w1 (0 : Int32) a2 (0 : Int32)) = x2
  refine aw_iload_n hC 4 dX8_skillBehind_17 rfl rfl ?_
  refine aw_bipush (v := 10) hC dX8_skillBehind_18 (by decide) ?_
  refine aw_idiv hC dX8_skillBehind_20 (by decide) ?_
  refine aw_iload_n hC 1 dX8_skillBehind_21 rfl rfl ?_
  refine aw_isub hC dX8_skillBehind_22 ?_
  refine aw_iload hC 0 dX8_skillBehind_23 rfl ?_
  refine aw_bipush (v := 50) hC dX8_skillBehind_25 (by decide) ?_
  refine aw_idiv hC dX8_skillBehind_27 (by decide) ?_
  refine aw_isub hC dX8_skillBehind_28 ?_
  refine aw_abs hC w_641 w_109 w_92 w_110 (by decide) (Nat.le_of_ble_eq_true rfl) (by decide) (by decide) dX8_skillBehind_29 ?_
  refine aw_istore hC [(5, .int _), (4, .int _), (3, .int _), (0, .ref w1), (1, .int _), (2, .int _)] dX8_skillBehind_32 (by decide) rfl ?_
  generalize ex3 : (if 0 ≤ (((a3 / (10 : Int32)) - x1) - (x2 / (50 : Int32))) then (((a3 / (10 : Int32)) - x1) - (x2 / (50 : Int32))) else 0 - (((a3 / (10 : Int32)) - x1) - (x2 / (50 : Int32)))) = x3
  refine aw_bipush (v := 100) hC dX8_skillBehind_34 (by decide) ?_
  refine aw_iload_n hC 5 dX8_skillBehind_36 rfl rfl ?_
  refine aw_iconst (v := 0) hC dX8_skillBehind_37 (by decide) ?_
  refine aw_bipush (v := 10) hC dX8_skillBehind_38 (by decide) ?_
  refine aw_iload hC 0 dX8_skillBehind_40 rfl ?_
  refine aw_isub hC dX8_skillBehind_42 ?_
  refine aw_max hC w_642 w_91 w_92 w_93 (by decide) (Nat.le_of_ble_eq_true rfl) (by decide) (by decide) dX8_skillBehind_43 ?_
  refine aw_iadd hC dX8_skillBehind_46 ?_
  refine aw_min hC w_643 w_95 w_92 w_96 (by decide) (Nat.le_of_ble_eq_true rfl) (by decide) (by decide) dX8_skillBehind_47 ?_
  refine aw_iret hC dX8_skillBehind_50 (Nat.le_refl _) (Nat.le_refl _) ?_
  exact FP.pI ((bd_eq ex1).trans ((bd_eq ex2).trans ((bd_eq ex3).trans (rfl))))
def F_X8_triesBy (S : HSt) (_o0 : Nat) (w1 : Nat) (a2 : Int32) (a3 : Int32) : Int32 × HSt := bd ((f_X8_skillBehind S w1 a2 a3)) fun x1 => bd ((if x1 ≤ a3 then (31 : Int32) else (if (100 : Int32) < x1 then (31 : Int32) else ((1 : Int32) + (gI S 41 x1.toNatClampNeg))))) fun x4 => pr (x4) (S)
def f_X8_triesBy (S : HSt) (_o0 : Nat) (w1 : Nat) (a2 : Int32) (a3 : Int32) : Int32 := (F_X8_triesBy S _o0 w1 a2 a3).1
def p_X8_triesBy (S : HSt) (_o0 : Nat) (w1 : Nat) (a2 : Int32) (a3 : Int32) : Prop := (p_X8_skillBehind S w1 a2 a3) ∧ (∀ x1 : Int32, (f_X8_skillBehind S w1 a2 a3) = x1 → (¬ x1 ≤ a3) → (¬ (100 : Int32) < x1) → vp_in x1 101)
set_option maxRecDepth 100000 in
theorem t_X8_triesBy (G : GG) (l : Launch) {S : HSt} (hM : CS S) (w1 : Nat) (a2 : Int32) (a3 : Int32) (hw1 : (w1, 10, 0) ∈ cKT) (hp : p_X8_triesBy S 38 w1 a2 a3) : AM G l yX8_triesBy cX8_triesBy 5 (some .int) (rmD 2 0 0) 0 0 [.ref 38, .ref w1, .int a2, .int a3] S (FP (some (.int (f_X8_triesBy S 38 w1 a2 a3))) (S)) := by
  obtain ⟨h0, h1⟩ := hp
  refine AM.mk (by decide) (Nat.le_of_ble_eq_true rfl) ?_
  intro p e s m below meth c hC hSt _
  refine aw_aload_n hC 1 dX8_triesBy_0 rfl rfl ?_
  refine aw_iload_n hC 2 dX8_triesBy_1 rfl rfl ?_
  refine aw_iload_n hC 3 dX8_triesBy_2 rfl rfl ?_
  refine aw_cS3r hC hSt (t_X8_skillBehind G l hM _ _ _ hw1 (h0)) w_640 w_645 w_646 w_625 rfl rfl (by decide +kernel) ⟨Nat.le_of_ble_eq_true rfl, Nat.le_of_ble_eq_true rfl⟩ (Nat.le_of_ble_eq_true rfl) dX8_triesBy_3 ⟨Nat.zero_le _, Nat.zero_le _⟩ ?_
  refine aw_istore hC [(4, .int _), (0, .ref 38), (1, .ref w1), (2, .int _), (3, .int _)] dX8_triesBy_6 (by decide) rfl ?_
  generalize ex1 : (f_X8_skillBehind S w1 a2 a3) = x1
  refine aw_iload hC 0 dX8_triesBy_8 rfl ?_
  refine aw_iload_n hC 4 dX8_triesBy_10 rfl rfl ?_
  refine aw_cut (S' := S) (pc' := 35) (lv' := [(4, .int x1), (0, .ref 38), (1, .ref w1), (2, .int a2), (3, .int a3)]) (st' := [.int (if x1 ≤ a3 then (31 : Int32) else (if (100 : Int32) < x1 then (31 : Int32) else ((1 : Int32) + (gI S 41 x1.toNatClampNeg))))]) ?_ (fun Jc2 => ?_)
  · generalize ex4 : (if x1 ≤ a3 then (31 : Int32) else (if (100 : Int32) < x1 then (31 : Int32) else ((1 : Int32) + (gI S 41 x1.toNatClampNeg)))) = x4
    refine aw_iret hC dX8_triesBy_35 (Nat.le_refl _) (Nat.le_refl _) ?_
    exact FP.pI ((bd_eq ex1).trans ((bd_eq ex4).trans (rfl)))
  · refine aw_icmp_le hC 33 dX8_triesBy_11 (by decide) (fun c2 => ?_) (fun c2 => ?_)
    · refine aw_bipush (v := 31) hC dX8_triesBy_33 (by decide) ?_
      simp only [bd_def, if_pos c2] at Jc2 ⊢
      exact Jc2
    · refine aw_iload hC 0 dX8_triesBy_14 rfl ?_
      refine aw_bipush (v := 100) hC dX8_triesBy_16 (by decide) ?_
      refine aw_icmp_gt hC 33 dX8_triesBy_18 (by decide) (fun c3 => ?_) (fun c3 => ?_)
      · refine aw_bipush (v := 31) hC dX8_triesBy_33 (by decide) ?_
        simp only [bd_def, if_neg c2, if_pos c3] at Jc2 ⊢
        exact Jc2
      · refine aw_iconst (v := 1) hC dX8_triesBy_21 (by decide) ?_
        refine aw_aload_n hC 1 dX8_triesBy_22 rfl rfl ?_
        refine aw_getP (b := 41) hC hSt 2 (cs_lt 38 8 0 (by decide) hM) (cs_k 38 8 0 (by decide) hM) rfl (by decide) w_616 rfl (cs_p 38 2 41 (by decide) hM) dX8_triesBy_23 ?_
        refine aw_iload hC 0 dX8_triesBy_26 rfl ?_
        refine aw_iald hC hSt (cs_lt 41 14 101 (by decide) hM) (cs_k 41 14 101 (by decide) hM) (vp_len (n := 101) (cs_l 41 14 101 (by decide) hM) (h1 x1 ex1 c2 c3)) dX8_triesBy_28 ?_
        refine aw_iadd hC dX8_triesBy_29 ?_
        refine aw_goto hC 35 dX8_triesBy_30 (by decide) ?_
        simp only [bd_def, if_neg c2, if_neg c3] at Jc2 ⊢
        exact Jc2
def L_X8_seekTries_14 (w1 : Nat) : Nat → HSt → Int32 → Int32 → Int32 → Int32 → Int32 × Int32 × Int32 × Int32
  | 0, S, v2, v3, v4, v5 => (v2, v3, v4, v5)
  | n + 1, S, v2, v3, v4, v5 =>
    if v2 ≤ v3 then ((pr (v2) (pr (v3) (pr (v4) (v5))))) else (if (f_X10_howMany S w1 (0 : Int32)) ≤ v5 then ((pr (v2) (pr (v3) (pr (v4) (v5))))) else (bd ((if (f_X8_triesBy S 38 w1 v5 v3) < v4 then (f_X8_triesBy S 38 w1 v5 v3) else v4)) fun x2004 => L_X8_seekTries_14 w1 n S v2 v3 x2004 (v5 + (1 : Int32))))
def T_X8_seekTries_14 (w1 : Nat) : Nat → HSt → Int32 → Int32 → Int32 → Int32 → Prop
  | 0, _, _, _, _, _ => False
  | n + 1, S, v2, v3, v4, v5 => ((¬ v2 ≤ v3) → p_X10_howMany S w1 (0 : Int32)) ∧ ((¬ v2 ≤ v3) → (¬ (f_X10_howMany S w1 (0 : Int32)) ≤ v5) → p_X8_triesBy S 38 w1 v5 v3) ∧ ((¬ v2 ≤ v3) → (¬ (f_X10_howMany S w1 (0 : Int32)) ≤ v5) → ∀ x2004 : Int32, (if (f_X8_triesBy S 38 w1 v5 v3) < v4 then (f_X8_triesBy S 38 w1 v5 v3) else v4) = x2004 → T_X8_seekTries_14 w1 n S v2 v3 x2004 (v5 + (1 : Int32)))
set_option maxRecDepth 100000 in
theorem l_X8_seekTries_14 {p : Program} {l : Launch} {e : Env} {s : State} {m : MethodId} {args : Array Value} {below : List Frame} {meth : Method} {c : Code} {G : GG} {Q : State → Prop} (hC : ACx p s m args meth c cX8_seekTries RX8 6 none) (hSt : St G s) {w1 : Nat} (hw1 : (w1, 10, 0) ∈ cKT) : ∀ (n : Nat) (S : HSt) (v2 : Int32) (v3 : Int32) (v4 : Int32) (v5 : Int32), CS S → T_X8_seekTries_14 w1 n S v2 v3 v4 v5 → AW p l e (rmD 3 0 0) s m args below meth c G 6 Q S 0 0 50 [(0, .ref 38), (1, .ref w1), (2, .int (L_X8_seekTries_14 w1 n S v2 v3 v4 v5).1), (3, .int (L_X8_seekTries_14 w1 n S v2 v3 v4 v5).2.1), (4, .int (L_X8_seekTries_14 w1 n S v2 v3 v4 v5).2.2.1), (5, .int (L_X8_seekTries_14 w1 n S v2 v3 v4 v5).2.2.2)] [] → AW p l e (rmD 3 0 0) s m args below meth c G 6 Q S 0 0 14 [(0, .ref 38), (1, .ref w1), (2, .int v2), (3, .int v3), (4, .int v4), (5, .int v5)] [] := by
  intro n
  induction n with
  | zero => intro S v2 v3 v4 v5 _ hT; exact hT.elim
  | succ n ih =>
    intro S v2 v3 v4 v5 hM hT hk
    unfold T_X8_seekTries_14 at hT
    obtain ⟨h0, h1, h2⟩ := hT
    refine aw_iload_n hC 3 dX8_seekTries_14 rfl rfl ?_
    refine aw_iload_n hC 2 dX8_seekTries_15 rfl rfl ?_
    refine aw_icmp_ge hC 50 dX8_seekTries_16 (by decide) (fun c2002 => ?_) (fun c2002 => ?_)
    · refine aw_sub [0, 1, 2, 3, 4, 5] rfl ?_
      have E : L_X8_seekTries_14 w1 (n + 1) S v2 v3 v4 v5 = _ := (if_pos c2002).trans (rfl)
      rw [E] at hk
      exact hk
    · refine aw_iload hC 5 dX8_seekTries_19 rfl ?_
      refine aw_aload_n hC 1 dX8_seekTries_21 rfl rfl ?_
      refine aw_iconst (v := 0) hC dX8_seekTries_22 (by decide) ?_
      refine aw_cV1r hC hSt (t_X10_howMany G l hM _ _ hw1 (h0 c2002)) w_152 w_627 w_237 w_238 w_18 rfl rfl (by decide +kernel) ⟨Nat.le_of_ble_eq_true rfl, Nat.le_of_ble_eq_true rfl⟩ (cs_lt w1 10 0 hw1 hM) (cs_k w1 10 0 hw1 hM) rfl (Nat.le_of_ble_eq_true rfl) dX8_seekTries_23 ⟨Nat.zero_le _, Nat.zero_le _⟩ ?_
      refine aw_icmp_ge hC 50 dX8_seekTries_26 (by decide) (fun c2003 => ?_) (fun c2003 => ?_)
      · refine aw_sub [0, 1, 2, 3, 4, 5] rfl ?_
        have E : L_X8_seekTries_14 w1 (n + 1) S v2 v3 v4 v5 = _ := (if_neg c2002).trans ((if_pos c2003).trans (rfl))
        rw [E] at hk
        exact hk
      · refine aw_iload hC 4 dX8_seekTries_29 rfl ?_
        refine aw_aload_n hC 0 dX8_seekTries_31 rfl rfl ?_
        refine aw_aload_n hC 1 dX8_seekTries_32 rfl rfl ?_
        refine aw_iload hC 5 dX8_seekTries_33 rfl ?_
        refine aw_iload_n hC 3 dX8_seekTries_35 rfl rfl ?_
        refine aw_cV3r hC hSt (t_X8_triesBy G l hM _ _ _ hw1 (h1 c2002 c2003)) w_644 w_647 w_648 w_649 w_625 rfl rfl (by decide +kernel) ⟨Nat.le_of_ble_eq_true rfl, Nat.le_of_ble_eq_true rfl⟩ (cs_lt 38 8 0 (by decide) hM) (cs_k 38 8 0 (by decide) hM) rfl (Nat.le_of_ble_eq_true rfl) dX8_seekTries_36 ⟨Nat.zero_le _, Nat.zero_le _⟩ ?_
        refine aw_min hC w_643 w_95 w_92 w_96 (by decide) (Nat.le_of_ble_eq_true rfl) (by decide) (by decide) dX8_seekTries_39 ?_
        refine aw_istore hC [(4, .int _), (0, .ref 38), (1, .ref w1), (2, .int _), (3, .int _), (5, .int _)] dX8_seekTries_42 (by decide) rfl ?_
        generalize ex2004 : (if (f_X8_triesBy S 38 w1 v5 v3) < v4 then (f_X8_triesBy S 38 w1 v5 v3) else v4) = x2004
        refine aw_iinc (v := (v5 + (1 : Int32))) hC 5 [(5, .int _), (4, .int _), (0, .ref 38), (1, .ref w1), (2, .int _), (3, .int _)] dX8_seekTries_44 rfl rfl (by decide) rfl ?_
        refine aw_goto hC 14 dX8_seekTries_47 (by decide) ?_
        refine aw_sub [2, 3, 4, 5, 1, 0] rfl ?_
        have hTn := (h2 c2002 c2003 x2004 ex2004)
        have hMn : CS S := hM
        have E : L_X8_seekTries_14 w1 (n + 1) S v2 v3 v4 v5 = _ := (if_neg c2002).trans ((if_neg c2003).trans ((bd_eq ex2004).trans (rfl)))
        rw [E] at hk
        exact ih _ _ _ _ _ hMn hTn hk
def L_X8_seekTries_3 (w1 : Nat) : Nat → HSt → Int32 → Int32 → Int32 × Int32 × HSt
  | 0, S, v2, v3 => (v2, v3, S)
  | n + 1, S, v2, v3 =>
    if v3 < 0 then ((pr (v2) (pr (v3) (S)))) else (bd (L_X8_seekTries_14 w1 1000 S v2 v3 (31 : Int32) (0 : Int32)) fun r1002 => bd ((if r1002.2.1 < r1002.1 then r1002.2.2.1 else (0 : Int32))) fun x1004 => bd ((sI S 41 r1002.2.1.toNatClampNeg x1004)) fun S1005 => L_X8_seekTries_3 w1 n S1005 r1002.1 (r1002.2.1 + (-1 : Int32)))
def T_X8_seekTries_3 (w1 : Nat) : Nat → HSt → Int32 → Int32 → Prop
  | 0, _, _, _ => False
  | n + 1, S, v2, v3 => ((¬ v3 < 0) → T_X8_seekTries_14 w1 1000 S v2 v3 (31 : Int32) (0 : Int32)) ∧ ((¬ v3 < 0) → ∀ r1002, L_X8_seekTries_14 w1 1000 S v2 v3 (31 : Int32) (0 : Int32) = r1002 → ∀ x1004 : Int32, (if r1002.2.1 < r1002.1 then r1002.2.2.1 else (0 : Int32)) = x1004 → vp_in r1002.2.1 101) ∧ ((¬ v3 < 0) → ∀ r1002, L_X8_seekTries_14 w1 1000 S v2 v3 (31 : Int32) (0 : Int32) = r1002 → ∀ x1004 : Int32, (if r1002.2.1 < r1002.1 then r1002.2.2.1 else (0 : Int32)) = x1004 → ∀ S1005 : HSt, (sI S 41 r1002.2.1.toNatClampNeg x1004) = S1005 → T_X8_seekTries_3 w1 n S1005 r1002.1 (r1002.2.1 + (-1 : Int32)))
theorem qL_X8_seekTries_3 (w1 : Nat) : ∀ (n : Nat) (S : HSt) (v2 : Int32) (v3 : Int32), shp (L_X8_seekTries_3 w1 n S v2 v3).2.2 = shp S := by
  intro n
  induction n with
  | zero => intros; rfl
  | succ n ih =>
    intro S v2 v3
    unfold L_X8_seekTries_3
    repeat' (first | with_reducible refine shpr2 ?_ | with_reducible rfl | with_reducible refine (ih _ _ _).trans ?_ | with_reducible refine (shp_sI _ _ _ _).trans ?_ | with_reducible refine (shp_sJ _ _ _ _).trans ?_ | with_reducible refine shi ?_ ?_ | with_reducible refine shb (fun _ _ => ?_) | with_reducible refine shiP (fun q : Int32 × Int32 × HSt => q.2.2) ?_ ?_ | with_reducible refine shbP (fun q : Int32 × Int32 × HSt => q.2.2) (fun _ _ => ?_) | (subst_vars; with_reducible rfl) | (subst_vars; with_reducible refine (ih _ _ _).trans ?_) | (subst_vars; with_reducible refine (shp_sI _ _ _ _).trans ?_) | (subst_vars; with_reducible refine (shp_sJ _ _ _ _).trans ?_) | (subst_vars; with_reducible refine shi ?_ ?_) | (subst_vars; with_reducible refine shb (fun _ _ => ?_)))
set_option maxRecDepth 100000 in
theorem l_X8_seekTries_3 {p : Program} {l : Launch} {e : Env} {s : State} {m : MethodId} {args : Array Value} {below : List Frame} {meth : Method} {c : Code} {G : GG} {Q : State → Prop} (hC : ACx p s m args meth c cX8_seekTries RX8 6 none) (hSt : St G s) {w1 : Nat} (hw1 : (w1, 10, 0) ∈ cKT) : ∀ (n : Nat) (S : HSt) (v2 : Int32) (v3 : Int32), CS S → T_X8_seekTries_3 w1 n S v2 v3 → AW p l e (rmD 3 0 0) s m args below meth c G 6 Q (L_X8_seekTries_3 w1 n S v2 v3).2.2 0 0 73 [(0, .ref 38), (1, .ref w1), (2, .int (L_X8_seekTries_3 w1 n S v2 v3).1), (3, .int (L_X8_seekTries_3 w1 n S v2 v3).2.1)] [] → AW p l e (rmD 3 0 0) s m args below meth c G 6 Q S 0 0 3 [(0, .ref 38), (1, .ref w1), (2, .int v2), (3, .int v3)] [] := by
  intro n
  induction n with
  | zero => intro S v2 v3 _ hT; exact hT.elim
  | succ n ih =>
    intro S v2 v3 hM hT hk
    unfold T_X8_seekTries_3 at hT
    obtain ⟨h0, h1, h2⟩ := hT
    refine aw_iload_n hC 3 dX8_seekTries_3 rfl rfl ?_
    refine aw_if_lt hC 73 dX8_seekTries_4 (by decide) (fun c1001 => ?_) (fun c1001 => ?_)
    · refine aw_sub [0, 1, 2, 3] rfl ?_
      have E : L_X8_seekTries_3 w1 (n + 1) S v2 v3 = _ := (if_pos c1001).trans (rfl)
      rw [E] at hk
      exact hk
    · refine aw_bipush (v := 31) hC dX8_seekTries_7 (by decide) ?_
      refine aw_istore hC [(4, .int _), (0, .ref 38), (1, .ref w1), (2, .int _), (3, .int _)] dX8_seekTries_9 (by decide) rfl ?_
      refine aw_iconst (v := 0) hC dX8_seekTries_11 (by decide) ?_
      refine aw_istore hC [(5, .int _), (4, .int _), (0, .ref 38), (1, .ref w1), (2, .int _), (3, .int _)] dX8_seekTries_12 (by decide) rfl ?_
      refine aw_sub [2, 3, 4, 5, 1, 0] rfl ?_
      refine l_X8_seekTries_14 hC hSt hw1 1000 _ _ _ _ _ hM (h0 c1001) ?_
      generalize er1002 : L_X8_seekTries_14 w1 1000 S v2 v3 (31 : Int32) (0 : Int32) = r1002
      refine aw_aload_n hC 0 dX8_seekTries_50 rfl rfl ?_
      refine aw_getP (b := 41) hC hSt 2 (cs_lt 38 8 0 (by decide) hM) (cs_k 38 8 0 (by decide) hM) rfl (by decide) w_616 rfl (cs_p 38 2 41 (by decide) hM) dX8_seekTries_51 ?_
      refine aw_iload_n hC 3 dX8_seekTries_54 rfl rfl ?_
      refine aw_iload_n hC 3 dX8_seekTries_55 rfl rfl ?_
      refine aw_iload_n hC 2 dX8_seekTries_56 rfl rfl ?_
      refine aw_cut (S' := S) (pc' := 66) (lv' := [(0, .ref 38), (1, .ref w1), (2, .int r1002.1), (3, .int r1002.2.1), (4, .int r1002.2.2.1), (5, .int r1002.2.2.2)]) (st' := [.int (if r1002.2.1 < r1002.1 then r1002.2.2.1 else (0 : Int32)), .int r1002.2.1, .ref 41]) ?_ (fun Jc1003 => ?_)
      · generalize ex1004 : (if r1002.2.1 < r1002.1 then r1002.2.2.1 else (0 : Int32)) = x1004
        refine aw_iast hC hSt (cs_lt 41 14 101 (by decide) hM) (cs_k 41 14 101 (by decide) hM) (vp_len (n := 101) (cs_l 41 14 101 (by decide) hM) (h1 c1001 r1002 er1002 x1004 ex1004)) dX8_seekTries_66 ?_
        generalize eS1005 : (sI S 41 r1002.2.1.toNatClampNeg x1004) = S1005
        have hM : CS S1005 := CS.of (by rw [← eS1005]; exact shp_sI _ _ _ _) hM
        refine aw_iinc (v := (r1002.2.1 + (-1 : Int32))) hC 3 [(3, .int _), (0, .ref 38), (1, .ref w1), (2, .int _), (4, .int _), (5, .int _)] dX8_seekTries_67 rfl rfl (by decide) rfl ?_
        refine aw_goto hC 3 dX8_seekTries_70 (by decide) ?_
        refine aw_sub [1, 2, 3, 0] rfl ?_
        have hTn := (h2 c1001 r1002 er1002 x1004 ex1004 S1005 eS1005)
        have hMn : CS S1005 := hM
        have E : L_X8_seekTries_3 w1 (n + 1) S v2 v3 = _ := (if_neg c1001).trans ((bd_eq er1002).trans ((bd_eq ex1004).trans ((bd_eq eS1005).trans (rfl))))
        rw [E] at hk
        exact ih _ _ _ hMn hTn hk
      · refine aw_icmp_lt hC 64 dX8_seekTries_57 (by decide) (fun c1003 => ?_) (fun c1003 => ?_)
        · refine aw_iload hC 4 dX8_seekTries_64 rfl ?_
          simp only [bd_def, if_pos c1003] at Jc1003 ⊢
          exact Jc1003
        · refine aw_iconst (v := 0) hC dX8_seekTries_60 (by decide) ?_
          refine aw_goto hC 66 dX8_seekTries_61 (by decide) ?_
          simp only [bd_def, if_neg c1003] at Jc1003 ⊢
          exact Jc1003
def f_X8_seekTries (S : HSt) (_o0 : Nat) (w1 : Nat) (a2 : Int32) : HSt := bd (L_X8_seekTries_3 w1 1000 S a2 (100 : Int32)) fun r1 => r1.2.2
def p_X8_seekTries (S : HSt) (_o0 : Nat) (w1 : Nat) (a2 : Int32) : Prop := (T_X8_seekTries_3 w1 1000 S a2 (100 : Int32))
set_option maxRecDepth 100000 in
theorem t_X8_seekTries (G : GG) (l : Launch) {S : HSt} (hM : CS S) (w1 : Nat) (a2 : Int32) (hw1 : (w1, 10, 0) ∈ cKT) (hp : p_X8_seekTries S 38 w1 a2) : AM G l yX8_seekTries cX8_seekTries 6 none (rmD 3 0 0) 0 0 [.ref 38, .ref w1, .int a2] S (FP none (f_X8_seekTries S 38 w1 a2)) := by
  have h0 := hp
  unfold p_X8_seekTries at h0
  refine AM.mk (by decide) (Nat.le_of_ble_eq_true rfl) ?_
  intro p e s m below meth c hC hSt _
  refine aw_bipush (v := 100) hC dX8_seekTries_0 (by decide) ?_
  refine aw_istore_n hC [(3, .int _), (0, .ref 38), (1, .ref w1), (2, .int _)] dX8_seekTries_2 rfl (by decide) rfl ?_
  refine aw_sub [1, 2, 3, 0] rfl ?_
  refine l_X8_seekTries_3 hC hSt hw1 1000 _ _ _ hM (h0) ?_
  generalize er1 : L_X8_seekTries_3 w1 1000 S a2 (100 : Int32) = r1
  have hM : CS r1.2.2 := CS.of (by rw [← er1]; exact qL_X8_seekTries_3 w1 _ _ _ _) hM
  refine aw_vret hC dX8_seekTries_73 (Nat.le_refl _) (Nat.le_refl _) ?_
  exact FP.qV ((bd_eq er1).trans (rfl))
theorem q_X8_seekTries (S : HSt) (_o0 : Nat) (w1 : Nat) (a2 : Int32) : shp (f_X8_seekTries S _o0 w1 a2) = shp S := by
  unfold f_X8_seekTries
  repeat' (first | with_reducible rfl | with_reducible refine (qL_X8_seekTries_3 w1 _ _ _ _).trans ?_ | with_reducible refine (shp_sI _ _ _ _).trans ?_ | with_reducible refine (shp_sJ _ _ _ _).trans ?_ | with_reducible refine shi ?_ ?_ | with_reducible refine shb (fun _ _ => ?_) | (subst_vars; with_reducible rfl) | (subst_vars; with_reducible refine (qL_X8_seekTries_3 w1 _ _ _ _).trans ?_) | (subst_vars; with_reducible refine (shp_sI _ _ _ _).trans ?_) | (subst_vars; with_reducible refine (shp_sJ _ _ _ _).trans ?_) | (subst_vars; with_reducible refine shi ?_ ?_) | (subst_vars; with_reducible refine shb (fun _ _ => ?_)))