noncomputable def L_X12_told_63 : Nat → HSt → Int32 → Int32 → Int32 → Int32 × Int32 × Int32 × HSt
  | 0, S, v1, v2, v3 => (v1, v2, v3, S)
  | n + 1, S, v1, v2, v3 =>
    if v1 < v3 then ((pr (v1) (pr (v2) (pr (v3) (S))))) else (bd (f_X12_doAct S 64 v3) fun r1009 => L_X12_told_63 n r1009 v1 v2 (v3 + (1 : Int32)))
def T_X12_told_63 : Nat → HSt → Int32 → Int32 → Int32 → Prop
  | 0, _, _, _, _ => False
  | n + 1, S, v1, v2, v3 => ((¬ v1 < v3) → p_X12_doAct S 64 v3) ∧ ((¬ v1 < v3) → ∀ r1009, f_X12_doAct S 64 v3 = r1009 → T_X12_told_63 n r1009 v1 v2 (v3 + (1 : Int32)))
theorem qL_X12_told_63 : ∀ (n : Nat) (S : HSt) (v1 : Int32) (v2 : Int32) (v3 : Int32), shp (L_X12_told_63 n S v1 v2 v3).2.2.2 = shp S := by
  intro n
  induction n with
  | zero => intros; rfl
  | succ n ih =>
    intro S v1 v2 v3
    unfold L_X12_told_63
    repeat' (first | with_reducible refine shpr3 ?_ | with_reducible rfl | with_reducible refine (ih _ _ _ _).trans ?_ | with_reducible refine (q_X12_doAct _ _ _).trans ?_ | with_reducible refine (q_X12_first _ _).trans ?_ | with_reducible refine (shp_sI _ _ _ _).trans ?_ | with_reducible refine (shp_sJ _ _ _ _).trans ?_ | with_reducible refine shi ?_ ?_ | with_reducible refine shb (fun _ _ => ?_) | with_reducible refine shiP (fun q : Int32 × Int32 × Int32 × HSt => q.2.2.2) ?_ ?_ | with_reducible refine shbP (fun q : Int32 × Int32 × Int32 × HSt => q.2.2.2) (fun _ _ => ?_) | (subst_vars; with_reducible rfl) | (subst_vars; with_reducible refine (ih _ _ _ _).trans ?_) | (subst_vars; with_reducible refine (q_X12_doAct _ _ _).trans ?_) | (subst_vars; with_reducible refine (q_X12_first _ _).trans ?_) | (subst_vars; with_reducible refine (shp_sI _ _ _ _).trans ?_) | (subst_vars; with_reducible refine (shp_sJ _ _ _ _).trans ?_) | (subst_vars; with_reducible refine shi ?_ ?_) | (subst_vars; with_reducible refine shb (fun _ _ => ?_)))
theorem vL_X12_told_63 : ∀ (n : Nat) (S : HSt) (v1 : Int32) (v2 : Int32) (v3 : Int32), Fr [(64, 20), (64, 21), (64, 22), (64, 23), (64, 24), (64, 25), (64, 26), (64, 28), (64, 29), (64, 30)] S (L_X12_told_63 n S v1 v2 v3).2.2.2 := by
  intro n
  induction n with
  | zero => intros; exact Fr.refl _ _
  | succ n ih =>
    intro S v1 v2 v3
    unfold L_X12_told_63
    repeat' (first | with_reducible refine frpr3 ?_ | with_reducible exact Fr.refl _ _ | with_reducible refine Fr.lP (fun q : Int32 × Int32 × Int32 × HSt => q.2.2.2) (fun _ _ => ?_) | with_reducible refine Fr.iteP (fun q : Int32 × Int32 × Int32 × HSt => q.2.2.2) ?_ ?_ | with_reducible refine Fr.l1 (fun _ _ => ?_) | with_reducible refine Fr.ite ?_ ?_ | with_reducible refine Fr.sE (by assumption) (by first | decide | simp only [List.mem_cons, List.not_mem_nil, or_false, true_or, or_true, eq_self_iff_true]) ?_ | with_reducible refine Fr.jE (by assumption) ?_ | with_reducible refine Fr.rE (by assumption) (by first | decide | simp only [List.mem_cons, List.not_mem_nil, or_false, true_or, or_true, eq_self_iff_true]) ?_ | with_reducible refine Fr.iE (by assumption) ?_ ?_ | with_reducible refine Fr.tr (ih _ _ _ _) (by first | decide | simp only [List.mem_cons, List.not_mem_nil, or_false, forall_eq_or_imp, forall_eq, true_or, or_true, and_self, eq_self_iff_true]) ?_ | with_reducible refine Fr.tr (w_X12_doAct _ _ _ _ (by assumption)) (by first | decide | simp only [List.mem_cons, List.not_mem_nil, or_false, forall_eq_or_imp, forall_eq, true_or, or_true, and_self, eq_self_iff_true]) ?_ | with_reducible refine Fr.tr (w_X12_first _ _ _ (by assumption)) (by first | decide | simp only [List.mem_cons, List.not_mem_nil, or_false, forall_eq_or_imp, forall_eq, true_or, or_true, and_self, eq_self_iff_true]) ?_)
theorem wL_X12_told_63 (n : Nat) (S : HSt) (v1 : Int32) (v2 : Int32) (v3 : Int32) (r : Int32 × Int32 × Int32 × HSt) (e : L_X12_told_63 n S v1 v2 v3 = r) : Fr [(64, 20), (64, 21), (64, 22), (64, 23), (64, 24), (64, 25), (64, 26), (64, 28), (64, 29), (64, 30)] S r.2.2.2 := by
  rw [← e]
  exact vL_X12_told_63 n S v1 v2 v3
set_option maxRecDepth 100000 in
theorem l_X12_told_63 {p : Program} {l : Launch} {e : Env} {s : State} {m : MethodId} {args : Array Value} {below : List Frame} {meth : Method} {c : Code} {G : GG} {Q : State → Prop} (hC : ACx p s m args meth c cX12_told RX12 4 (some .long)) (hSt : St G s)  : ∀ (n : Nat) (S : HSt) (v1 : Int32) (v2 : Int32) (v3 : Int32), MS S → T_X12_told_63 n S v1 v2 v3 → AW p l e (rmD 4 0 0) s m args below meth c G 4 Q (L_X12_told_63 n S v1 v2 v3).2.2.2 0 0 79 [(0, .ref 64), (1, .int (L_X12_told_63 n S v1 v2 v3).1), (2, .int (L_X12_told_63 n S v1 v2 v3).2.1), (3, .int (L_X12_told_63 n S v1 v2 v3).2.2.1)] [] → AW p l e (rmD 4 0 0) s m args below meth c G 4 Q S 0 0 63 [(0, .ref 64), (1, .int v1), (2, .int v2), (3, .int v3)] [] := by
  intro n
  induction n with
  | zero => intro S v1 v2 v3 _ hT; exact hT.elim
  | succ n ih =>
    intro S v1 v2 v3 hM hT hk
    unfold T_X12_told_63 at hT
    obtain ⟨h0, h1⟩ := hT
    refine aw_iload_n hC 3 dX12_told_63 rfl rfl ?_
    refine aw_iload_n hC 1 dX12_told_64 rfl rfl ?_
    refine aw_icmp_gt hC 79 dX12_told_65 (by decide) (fun c1008 => ?_) (fun c1008 => ?_)
    · refine aw_sub [0, 1, 2, 3] rfl ?_
      have E : L_X12_told_63 (n + 1) S v1 v2 v3 = _ := (if_pos c1008).trans (rfl)
      rw [E] at hk
      exact hk
    · refine aw_aload_n hC 0 dX12_told_68 rfl rfl ?_
      refine aw_iload_n hC 3 dX12_told_69 rfl rfl ?_
      refine aw_cV1v hC hSt (t_X12_doAct G l hM _ (h0 c1008)) w_1184 w_1185 w_1186 w_1187 w_953 rfl rfl (by decide +kernel) ⟨Nat.le_of_ble_eq_true rfl, Nat.le_of_ble_eq_true rfl⟩ (ms_lt 64 (by decide) hM) (ms_k 64 12 0 (by decide) hM) rfl (Nat.le_of_ble_eq_true rfl) dX12_told_70 ⟨Nat.zero_le _, Nat.zero_le _⟩ ?_
      generalize er1009 : f_X12_doAct S 64 v3 = r1009
      have hM : MS r1009 := MS.of (by rw [← er1009]; exact q_X12_doAct _ _ _) hM
      refine aw_iinc (v := (v3 + (1 : Int32))) hC 3 [(3, .int _), (0, .ref 64), (1, .int _), (2, .int _)] dX12_told_73 rfl rfl (by decide) rfl ?_
      refine aw_goto hC 63 dX12_told_76 (by decide) ?_
      refine aw_sub [1, 2, 3, 0] rfl ?_
      have hTn := (h1 c1008 r1009 er1009)
      have hMn : MS r1009 := hM
      have E : L_X12_told_63 (n + 1) S v1 v2 v3 = _ := (if_neg c1008).trans ((bd_eq er1009).trans (rfl))
      rw [E] at hk
      exact ih _ _ _ _ hMn hTn hk
noncomputable def f_X12_told (S : HSt) (_o : Nat) (a1 : Int32) (a2 : Int32) : Int64 × HSt := bd ((sI S 64 0 (0 : Int32))) fun S1 => if (gI S1 64 7) = 0 then (pr ((-9000000000000000002 : Int64)) (S1)) else (if a1 = (-1 : Int32) then (if (f_X12_in S1 a2.toInt64 (0 : Int64) (7 : Int64)) = 0 then (pr ((-9000000000000000001 : Int64)) (S1)) else (bd (f_X12_first S1 64) fun r5 => bd ((sI r5 64 29 (-1000000 : Int32))) fun S6 => bd ((sI S6 64 30 (-1000000 : Int32))) fun S7 => bd (L_X12_told_63 1000 S7 a1 a2 (0 : Int32)) fun r8 => bd ((if (6 : Int32) ≤ r8.2.1 then (if r8.2.1 = (6 : Int32) then (gI r8.2.2.2 64 29).toInt64 else (gI r8.2.2.2 64 30).toInt64) else (f_X12_of r8.2.2.2 64 r8.2.1).toInt64)) fun x11 => pr (x11) (r8.2.2.2))) else (if (f_X12_isAct S1 64 a1) = 0 then (pr ((-9000000000000000001 : Int64)) (S1)) else (if (f_X12_in S1 a2.toInt64 (0 : Int64) (7 : Int64)) = 0 then (pr ((-9000000000000000001 : Int64)) (S1)) else (bd (f_X12_first S1 64) fun r14 => bd ((sI r14 64 29 (-1000000 : Int32))) fun S15 => bd ((sI S15 64 30 (-1000000 : Int32))) fun S16 => bd (L_X12_told_63 1000 S16 a1 a2 (0 : Int32)) fun r17 => bd ((if (6 : Int32) ≤ r17.2.1 then (if r17.2.1 = (6 : Int32) then (gI r17.2.2.2 64 29).toInt64 else (gI r17.2.2.2 64 30).toInt64) else (f_X12_of r17.2.2.2 64 r17.2.1).toInt64)) fun x20 => pr (x20) (r17.2.2.2)))))
def p_X12_told (S : HSt) (_o : Nat) (a1 : Int32) (a2 : Int32) : Prop := (∀ S1 : HSt, (sI S 64 0 (0 : Int32)) = S1 → (¬ (gI S1 64 7) = 0) → (a1 = (-1 : Int32)) → (¬ (f_X12_in S1 a2.toInt64 (0 : Int64) (7 : Int64)) = 0) → ∀ r5, f_X12_first S1 64 = r5 → ∀ S6 : HSt, (sI r5 64 29 (-1000000 : Int32)) = S6 → ∀ S7 : HSt, (sI S6 64 30 (-1000000 : Int32)) = S7 → T_X12_told_63 1000 S7 a1 a2 (0 : Int32)) ∧ (∀ S1 : HSt, (sI S 64 0 (0 : Int32)) = S1 → (¬ (gI S1 64 7) = 0) → (¬ a1 = (-1 : Int32)) → (¬ (f_X12_isAct S1 64 a1) = 0) → (¬ (f_X12_in S1 a2.toInt64 (0 : Int64) (7 : Int64)) = 0) → ∀ r14, f_X12_first S1 64 = r14 → ∀ S15 : HSt, (sI r14 64 29 (-1000000 : Int32)) = S15 → ∀ S16 : HSt, (sI S15 64 30 (-1000000 : Int32)) = S16 → T_X12_told_63 1000 S16 a1 a2 (0 : Int32))
set_option maxRecDepth 100000 in
theorem t_X12_told (G : GG) (l : Launch) {S : HSt} (hM : MS S) (a1 : Int32) (a2 : Int32) (hp : p_X12_told S 64 a1 a2) : AM G l yX12_told cX12_told 4 (some .long) (rmD 4 0 0) 0 0 [.ref 64, .int a1, .int a2] S (FP (some (.long (f_X12_told S 64 a1 a2).1)) ((f_X12_told S 64 a1 a2).2)) := by
  obtain ⟨h0, h1⟩ := hp
  refine AM.mk (by decide) (Nat.le_of_ble_eq_true rfl) ?_
  intro p e s m below meth c hC hSt _
  refine aw_aload_n hC 0 dX12_told_0 rfl rfl ?_
  refine aw_iconst (v := 0) hC dX12_told_1 (by decide) ?_
  refine aw_putI hC hSt 0 (ms_lt 64 (by decide) hM) (ms_k 64 12 0 (by decide) hM) rfl (by decide) w_955 rfl rfl rfl rfl dX12_told_2 ?_
  generalize eS1 : (sI S 64 0 (0 : Int32)) = S1
  have hM : MS S1 := MS.of (by rw [← eS1]; exact shp_sI _ _ _ _) hM
  refine aw_aload_n hC 0 dX12_told_5 rfl rfl ?_
  refine aw_getI hC hSt 7 (ms_lt 64 (by decide) hM) (ms_k 64 12 0 (by decide) hM) rfl (by decide) w_1051 rfl dX12_told_6 ?_
  refine aw_if_ne hC 16 dX12_told_9 (by decide) (fun c2 => ?_) (fun c2 => ?_)
  · refine aw_iload_n hC 1 dX12_told_16 rfl rfl ?_
    refine aw_iconst (v := -1) hC dX12_told_17 (by decide) ?_
    refine aw_icmp_eq hC 29 dX12_told_18 (by decide) (fun c3 => ?_) (fun c3 => ?_)
    · refine aw_iload_n hC 2 dX12_told_29 rfl rfl ?_
      refine aw_i2l hC dX12_told_30 ?_
      refine aw_lconst (v := 0) hC dX12_told_31 (by decide) ?_
      refine aw_ldc2 (v := 7) hC w_950 dX12_told_32 ?_
      refine aw_cS3r hC hSt (t_X12_in G l  _ _ _) w_945 w_951 w_952 w_953 rfl rfl (by decide +kernel) ⟨Nat.le_of_ble_eq_true rfl, Nat.le_of_ble_eq_true rfl⟩ (Nat.le_of_ble_eq_true rfl) dX12_told_35 ⟨Nat.zero_le _, Nat.zero_le _⟩ ?_
      refine aw_if_ne hC 45 dX12_told_38 (by decide) (fun c4 => ?_) (fun c4 => ?_)
      · refine aw_aload_n hC 0 dX12_told_45 rfl rfl ?_
        refine aw_cV0v hC hSt (t_X12_first G l hM ) w_1031 w_1071 w_1072 w_1073 w_953 rfl rfl (by decide +kernel) ⟨Nat.le_of_ble_eq_true rfl, Nat.le_of_ble_eq_true rfl⟩ (ms_lt 64 (by decide) hM) (ms_k 64 12 0 (by decide) hM) rfl (Nat.le_of_ble_eq_true rfl) dX12_told_46 ⟨Nat.zero_le _, Nat.zero_le _⟩ ?_
        generalize er5 : f_X12_first S1 64 = r5
        have hM : MS r5 := MS.of (by rw [← er5]; exact q_X12_first _ _) hM
        refine aw_aload_n hC 0 dX12_told_49 rfl rfl ?_
        refine aw_ldc (v := -1000000) hC w_923 dX12_told_50 ?_
        refine aw_putI hC hSt 29 (ms_lt 64 (by decide) hM) (ms_k 64 12 0 (by decide) hM) rfl (by decide) w_1182 rfl rfl rfl rfl dX12_told_52 ?_
        generalize eS6 : (sI r5 64 29 (-1000000 : Int32)) = S6
        have hM : MS S6 := MS.of (by rw [← eS6]; exact shp_sI _ _ _ _) hM
        refine aw_aload_n hC 0 dX12_told_55 rfl rfl ?_
        refine aw_ldc (v := -1000000) hC w_923 dX12_told_56 ?_
        refine aw_putI hC hSt 30 (ms_lt 64 (by decide) hM) (ms_k 64 12 0 (by decide) hM) rfl (by decide) w_1183 rfl rfl rfl rfl dX12_told_58 ?_
        generalize eS7 : (sI S6 64 30 (-1000000 : Int32)) = S7
        have hM : MS S7 := MS.of (by rw [← eS7]; exact shp_sI _ _ _ _) hM
        refine aw_iconst (v := 0) hC dX12_told_61 (by decide) ?_
        refine aw_istore_n hC [(3, .int _), (0, .ref 64), (1, .int _), (2, .int _)] dX12_told_62 rfl (by decide) rfl ?_
        refine aw_sub [1, 2, 3, 0] rfl ?_
        refine l_X12_told_63 hC hSt 1000 _ _ _ _ hM (h0 S1 eS1 c2 c3 c4 r5 er5 S6 eS6 S7 eS7) ?_
        generalize er8 : L_X12_told_63 1000 S7 a1 a2 (0 : Int32) = r8
        have hM : MS r8.2.2.2 := MS.of (by rw [← er8]; exact qL_X12_told_63 _ _ _ _ _) hM
        refine aw_iload_n hC 2 dX12_told_79 rfl rfl ?_
        refine aw_bipush (v := 6) hC dX12_told_80 (by decide) ?_
        refine aw_cut (S' := r8.2.2.2) (pc' := 113) (lv' := [(0, .ref 64), (1, .int r8.1), (2, .int r8.2.1), (3, .int r8.2.2.1)]) (st' := [.long (if (6 : Int32) ≤ r8.2.1 then (if r8.2.1 = (6 : Int32) then (gI r8.2.2.2 64 29).toInt64 else (gI r8.2.2.2 64 30).toInt64) else (f_X12_of r8.2.2.2 64 r8.2.1).toInt64)]) ?_ (fun Jc9 => ?_)
        · generalize ex11 : (if (6 : Int32) ≤ r8.2.1 then (if r8.2.1 = (6 : Int32) then (gI r8.2.2.2 64 29).toInt64 else (gI r8.2.2.2 64 30).toInt64) else (f_X12_of r8.2.2.2 64 r8.2.1).toInt64) = x11
          refine aw_lret hC dX12_told_113 (Nat.le_refl _) (Nat.le_refl _) ?_
          exact FP.qJ ((bd_eq eS1).trans ((if_neg c2).trans ((if_pos c3).trans ((if_neg c4).trans ((bd_eq er5).trans ((bd_eq eS6).trans ((bd_eq eS7).trans ((bd_eq er8).trans ((bd_eq ex11).trans (rfl))))))))))
        · refine aw_icmp_ge hC 94 dX12_told_82 (by decide) (fun c9 => ?_) (fun c9 => ?_)
          · refine aw_iload_n hC 2 dX12_told_94 rfl rfl ?_
            refine aw_bipush (v := 6) hC dX12_told_95 (by decide) ?_
            refine aw_icmp_ne hC 108 dX12_told_97 (by decide) (fun c10 => ?_) (fun c10 => ?_)
            · refine aw_aload_n hC 0 dX12_told_108 rfl rfl ?_
              refine aw_getI hC hSt 30 (ms_lt 64 (by decide) hM) (ms_k 64 12 0 (by decide) hM) rfl (by decide) w_1183 rfl dX12_told_109 ?_
              refine aw_i2l hC dX12_told_112 ?_
              simp only [bd_def, if_pos c9, if_neg c10] at Jc9 ⊢
              exact Jc9
            · refine aw_aload_n hC 0 dX12_told_100 rfl rfl ?_
              refine aw_getI hC hSt 29 (ms_lt 64 (by decide) hM) (ms_k 64 12 0 (by decide) hM) rfl (by decide) w_1182 rfl dX12_told_101 ?_
              refine aw_i2l hC dX12_told_104 ?_
              refine aw_goto hC 113 dX12_told_105 (by decide) ?_
              simp only [bd_def, if_pos c9, if_pos c10] at Jc9 ⊢
              exact Jc9
          · refine aw_aload_n hC 0 dX12_told_85 rfl rfl ?_
            refine aw_iload_n hC 2 dX12_told_86 rfl rfl ?_
            refine aw_cV1r hC hSt (t_X12_of G l hM _) w_1039 w_1041 w_1042 w_1043 w_953 rfl rfl (by decide +kernel) ⟨Nat.le_of_ble_eq_true rfl, Nat.le_of_ble_eq_true rfl⟩ (ms_lt 64 (by decide) hM) (ms_k 64 12 0 (by decide) hM) rfl (Nat.le_of_ble_eq_true rfl) dX12_told_87 ⟨Nat.zero_le _, Nat.zero_le _⟩ ?_
            refine aw_i2l hC dX12_told_90 ?_
            refine aw_goto hC 113 dX12_told_91 (by decide) ?_
            simp only [bd_def, if_neg c9] at Jc9 ⊢
            exact Jc9
      · refine aw_ldc2 (v := -9000000000000000001) hC w_957 dX12_told_41 ?_
        refine aw_lret hC dX12_told_44 (Nat.le_refl _) (Nat.le_refl _) ?_
        exact FP.qJ ((bd_eq eS1).trans ((if_neg c2).trans ((if_pos c3).trans ((if_pos c4).trans (rfl)))))
    · refine aw_aload_n hC 0 dX12_told_21 rfl rfl ?_
      refine aw_iload_n hC 1 dX12_told_22 rfl rfl ?_
      refine aw_cV1r hC hSt (t_X12_isAct G l hM _) w_1079 w_1085 w_1086 w_1087 w_953 rfl rfl (by decide +kernel) ⟨Nat.le_of_ble_eq_true rfl, Nat.le_of_ble_eq_true rfl⟩ (ms_lt 64 (by decide) hM) (ms_k 64 12 0 (by decide) hM) rfl (Nat.le_of_ble_eq_true rfl) dX12_told_23 ⟨Nat.zero_le _, Nat.zero_le _⟩ ?_
      refine aw_if_eq hC 41 dX12_told_26 (by decide) (fun c12 => ?_) (fun c12 => ?_)
      · refine aw_ldc2 (v := -9000000000000000001) hC w_957 dX12_told_41 ?_
        refine aw_lret hC dX12_told_44 (Nat.le_refl _) (Nat.le_refl _) ?_
        exact FP.qJ ((bd_eq eS1).trans ((if_neg c2).trans ((if_neg c3).trans ((if_pos c12).trans (rfl)))))
      · refine aw_iload_n hC 2 dX12_told_29 rfl rfl ?_
        refine aw_i2l hC dX12_told_30 ?_
        refine aw_lconst (v := 0) hC dX12_told_31 (by decide) ?_
        refine aw_ldc2 (v := 7) hC w_950 dX12_told_32 ?_
        refine aw_cS3r hC hSt (t_X12_in G l  _ _ _) w_945 w_951 w_952 w_953 rfl rfl (by decide +kernel) ⟨Nat.le_of_ble_eq_true rfl, Nat.le_of_ble_eq_true rfl⟩ (Nat.le_of_ble_eq_true rfl) dX12_told_35 ⟨Nat.zero_le _, Nat.zero_le _⟩ ?_
        refine aw_if_ne hC 45 dX12_told_38 (by decide) (fun c13 => ?_) (fun c13 => ?_)
        · refine aw_aload_n hC 0 dX12_told_45 rfl rfl ?_
          refine aw_cV0v hC hSt (t_X12_first G l hM ) w_1031 w_1071 w_1072 w_1073 w_953 rfl rfl (by decide +kernel) ⟨Nat.le_of_ble_eq_true rfl, Nat.le_of_ble_eq_true rfl⟩ (ms_lt 64 (by decide) hM) (ms_k 64 12 0 (by decide) hM) rfl (Nat.le_of_ble_eq_true rfl) dX12_told_46 ⟨Nat.zero_le _, Nat.zero_le _⟩ ?_
          generalize er14 : f_X12_first S1 64 = r14
          have hM : MS r14 := MS.of (by rw [← er14]; exact q_X12_first _ _) hM
          refine aw_aload_n hC 0 dX12_told_49 rfl rfl ?_
          refine aw_ldc (v := -1000000) hC w_923 dX12_told_50 ?_
          refine aw_putI hC hSt 29 (ms_lt 64 (by decide) hM) (ms_k 64 12 0 (by decide) hM) rfl (by decide) w_1182 rfl rfl rfl rfl dX12_told_52 ?_
          generalize eS15 : (sI r14 64 29 (-1000000 : Int32)) = S15
          have hM : MS S15 := MS.of (by rw [← eS15]; exact shp_sI _ _ _ _) hM
          refine aw_aload_n hC 0 dX12_told_55 rfl rfl ?_
          refine aw_ldc (v := -1000000) hC w_923 dX12_told_56 ?_
          refine aw_putI hC hSt 30 (ms_lt 64 (by decide) hM) (ms_k 64 12 0 (by decide) hM) rfl (by decide) w_1183 rfl rfl rfl rfl dX12_told_58 ?_
          generalize eS16 : (sI S15 64 30 (-1000000 : Int32)) = S16
          have hM : MS S16 := MS.of (by rw [← eS16]; exact shp_sI _ _ _ _) hM
          refine aw_iconst (v := 0) hC dX12_told_61 (by decide) ?_
          refine aw_istore_n hC [(3, .int _), (0, .ref 64), (1, .int _), (2, .int _)] dX12_told_62 rfl (by decide) rfl ?_
          refine aw_sub [1, 2, 3, 0] rfl ?_
          refine l_X12_told_63 hC hSt 1000 _ _ _ _ hM (h1 S1 eS1 c2 c3 c12 c13 r14 er14 S15 eS15 S16 eS16) ?_
          generalize er17 : L_X12_told_63 1000 S16 a1 a2 (0 : Int32) = r17
          have hM : MS r17.2.2.2 := MS.of (by rw [← er17]; exact qL_X12_told_63 _ _ _ _ _) hM
          refine aw_iload_n hC 2 dX12_told_79 rfl rfl ?_
          refine aw_bipush (v := 6) hC dX12_told_80 (by decide) ?_
          refine aw_cut (S' := r17.2.2.2) (pc' := 113) (lv' := [(0, .ref 64), (1, .int r17.1), (2, .int r17.2.1), (3, .int r17.2.2.1)]) (st' := [.long (if (6 : Int32) ≤ r17.2.1 then (if r17.2.1 = (6 : Int32) then (gI r17.2.2.2 64 29).toInt64 else (gI r17.2.2.2 64 30).toInt64) else (f_X12_of r17.2.2.2 64 r17.2.1).toInt64)]) ?_ (fun Jc18 => ?_)
          · generalize ex20 : (if (6 : Int32) ≤ r17.2.1 then (if r17.2.1 = (6 : Int32) then (gI r17.2.2.2 64 29).toInt64 else (gI r17.2.2.2 64 30).toInt64) else (f_X12_of r17.2.2.2 64 r17.2.1).toInt64) = x20
            refine aw_lret hC dX12_told_113 (Nat.le_refl _) (Nat.le_refl _) ?_
            exact FP.qJ ((bd_eq eS1).trans ((if_neg c2).trans ((if_neg c3).trans ((if_neg c12).trans ((if_neg c13).trans ((bd_eq er14).trans ((bd_eq eS15).trans ((bd_eq eS16).trans ((bd_eq er17).trans ((bd_eq ex20).trans (rfl)))))))))))
          · refine aw_icmp_ge hC 94 dX12_told_82 (by decide) (fun c18 => ?_) (fun c18 => ?_)
            · refine aw_iload_n hC 2 dX12_told_94 rfl rfl ?_
              refine aw_bipush (v := 6) hC dX12_told_95 (by decide) ?_
              refine aw_icmp_ne hC 108 dX12_told_97 (by decide) (fun c19 => ?_) (fun c19 => ?_)
              · refine aw_aload_n hC 0 dX12_told_108 rfl rfl ?_
                refine aw_getI hC hSt 30 (ms_lt 64 (by decide) hM) (ms_k 64 12 0 (by decide) hM) rfl (by decide) w_1183 rfl dX12_told_109 ?_
                refine aw_i2l hC dX12_told_112 ?_
                simp only [bd_def, if_pos c18, if_neg c19] at Jc18 ⊢
                exact Jc18
              · refine aw_aload_n hC 0 dX12_told_100 rfl rfl ?_
                refine aw_getI hC hSt 29 (ms_lt 64 (by decide) hM) (ms_k 64 12 0 (by decide) hM) rfl (by decide) w_1182 rfl dX12_told_101 ?_
                refine aw_i2l hC dX12_told_104 ?_
                refine aw_goto hC 113 dX12_told_105 (by decide) ?_
                simp only [bd_def, if_pos c18, if_pos c19] at Jc18 ⊢
                exact Jc18
            · refine aw_aload_n hC 0 dX12_told_85 rfl rfl ?_
              refine aw_iload_n hC 2 dX12_told_86 rfl rfl ?_
              refine aw_cV1r hC hSt (t_X12_of G l hM _) w_1039 w_1041 w_1042 w_1043 w_953 rfl rfl (by decide +kernel) ⟨Nat.le_of_ble_eq_true rfl, Nat.le_of_ble_eq_true rfl⟩ (ms_lt 64 (by decide) hM) (ms_k 64 12 0 (by decide) hM) rfl (Nat.le_of_ble_eq_true rfl) dX12_told_87 ⟨Nat.zero_le _, Nat.zero_le _⟩ ?_
              refine aw_i2l hC dX12_told_90 ?_
              refine aw_goto hC 113 dX12_told_91 (by decide) ?_
              simp only [bd_def, if_neg c18] at Jc18 ⊢
              exact Jc18
        · refine aw_ldc2 (v := -9000000000000000001) hC w_957 dX12_told_41 ?_
          refine aw_lret hC dX12_told_44 (Nat.le_refl _) (Nat.le_refl _) ?_
          exact FP.qJ ((bd_eq eS1).trans ((if_neg c2).trans ((if_neg c3).trans ((if_neg c12).trans ((if_pos c13).trans (rfl))))))
  · refine aw_ldc2 (v := -9000000000000000002) hC w_1151 dX12_told_12 ?_
    refine aw_lret hC dX12_told_15 (Nat.le_refl _) (Nat.le_refl _) ?_
    exact FP.qJ ((bd_eq eS1).trans ((if_pos c2).trans (rfl)))
theorem q_X12_told (S : HSt) (_o : Nat) (a1 : Int32) (a2 : Int32) : shp ((f_X12_told S _o a1 a2).2) = shp S := by
  unfold f_X12_told
  repeat' (first | with_reducible refine shpr1 ?_ | with_reducible rfl | with_reducible refine (q_X12_doAct _ _ _).trans ?_ | with_reducible refine (q_X12_first _ _).trans ?_ | with_reducible refine (qL_X12_told_63 _ _ _ _ _).trans ?_ | with_reducible refine (shp_sI _ _ _ _).trans ?_ | with_reducible refine (shp_sJ _ _ _ _).trans ?_ | with_reducible refine shi ?_ ?_ | with_reducible refine shb (fun _ _ => ?_) | with_reducible refine shiP (fun q : Int64 × HSt => q.2) ?_ ?_ | with_reducible refine shbP (fun q : Int64 × HSt => q.2) (fun _ _ => ?_) | (subst_vars; with_reducible rfl) | (subst_vars; with_reducible refine (q_X12_doAct _ _ _).trans ?_) | (subst_vars; with_reducible refine (q_X12_first _ _).trans ?_) | (subst_vars; with_reducible refine (qL_X12_told_63 _ _ _ _ _).trans ?_) | (subst_vars; with_reducible refine (shp_sI _ _ _ _).trans ?_) | (subst_vars; with_reducible refine (shp_sJ _ _ _ _).trans ?_) | (subst_vars; with_reducible refine shi ?_ ?_) | (subst_vars; with_reducible refine shb (fun _ _ => ?_)))
theorem v_X12_told (S : HSt) (_o : Nat) (a1 : Int32) (a2 : Int32) : Fr [(64, 0), (64, 20), (64, 21), (64, 22), (64, 23), (64, 24), (64, 25), (64, 26), (64, 28), (64, 29), (64, 30)] S ((f_X12_told S _o a1 a2).2) := by
  unfold f_X12_told
  repeat' (first | with_reducible refine frpr1 ?_ | with_reducible exact Fr.refl _ _ | with_reducible refine Fr.lP (fun q : Int64 × HSt => q.2) (fun _ _ => ?_) | with_reducible refine Fr.iteP (fun q : Int64 × HSt => q.2) ?_ ?_ | with_reducible refine Fr.l1 (fun _ _ => ?_) | with_reducible refine Fr.ite ?_ ?_ | with_reducible refine Fr.sE (by assumption) (by first | decide | simp only [List.mem_cons, List.not_mem_nil, or_false, true_or, or_true, eq_self_iff_true]) ?_ | with_reducible refine Fr.jE (by assumption) ?_ | with_reducible refine Fr.rE (by assumption) (by first | decide | simp only [List.mem_cons, List.not_mem_nil, or_false, true_or, or_true, eq_self_iff_true]) ?_ | with_reducible refine Fr.iE (by assumption) ?_ ?_ | with_reducible refine Fr.tr (w_X12_doAct _ _ _ _ (by assumption)) (by first | decide | simp only [List.mem_cons, List.not_mem_nil, or_false, forall_eq_or_imp, forall_eq, true_or, or_true, and_self, eq_self_iff_true]) ?_ | with_reducible refine Fr.tr (w_X12_first _ _ _ (by assumption)) (by first | decide | simp only [List.mem_cons, List.not_mem_nil, or_false, forall_eq_or_imp, forall_eq, true_or, or_true, and_self, eq_self_iff_true]) ?_ | with_reducible refine Fr.tr (wL_X12_told_63 _ _ _ _ _ _ (by assumption)) (by first | decide | simp only [List.mem_cons, List.not_mem_nil, or_false, forall_eq_or_imp, forall_eq, true_or, or_true, and_self, eq_self_iff_true]) ?_)
theorem w_X12_told (S : HSt) (_o : Nat) (a1 : Int32) (a2 : Int32) (r : Int64 × HSt) (e : f_X12_told S _o a1 a2 = r) : Fr [(64, 0), (64, 20), (64, 21), (64, 22), (64, 23), (64, 24), (64, 25), (64, 26), (64, 28), (64, 29), (64, 30)] S r.2 := by
  rw [← e]
  exact v_X12_told S _o a1 a2
noncomputable def F_X12_isThrow (S : HSt) (_o : Nat) (a1 : Int32) : Int32 × HSt := bd ((if (f_X12_deed S 64 a1 (0 : Int32)) = (4 : Int32) then (1 : Int32) else (if (f_X12_deed S 64 a1 (0 : Int32)) = (5 : Int32) then (1 : Int32) else (0 : Int32)))) fun x3 => pr (x3) (S)
noncomputable def f_X12_isThrow (S : HSt) (_o : Nat) (a1 : Int32) : Int32 := (F_X12_isThrow S _o a1).1
def p_X12_isThrow (S : HSt) (_o : Nat) (a1 : Int32) : Prop := (p_X12_deed S 64 a1 (0 : Int32)) ∧ ((¬ (f_X12_deed S 64 a1 (0 : Int32)) = (4 : Int32)) → p_X12_deed S 64 a1 (0 : Int32))
set_option maxRecDepth 100000 in
theorem t_X12_isThrow (G : GG) (l : Launch) {S : HSt} (hM : MS S) (a1 : Int32) (hp : p_X12_isThrow S 64 a1) : AM G l yX12_isThrow cX12_isThrow 2 (some .boolean) (rmD 1 0 0) 0 0 [.ref 64, .int a1] S (FP (some (.int (f_X12_isThrow S 64 a1))) (S)) := by
  obtain ⟨h0, h1⟩ := hp
  refine AM.mk (by decide) (Nat.le_of_ble_eq_true rfl) ?_
  intro p e s m below meth c hC hSt _
  refine aw_aload_n hC 0 dX12_isThrow_0 rfl rfl ?_
  refine aw_iload_n hC 1 dX12_isThrow_1 rfl rfl ?_
  refine aw_iconst (v := 0) hC dX12_isThrow_2 (by decide) ?_
  refine aw_cV2r hC hSt (t_X12_deed G l hM _ _ (h0)) w_1080 w_1088 w_1089 w_1090 w_953 rfl rfl (by decide +kernel) ⟨Nat.le_of_ble_eq_true rfl, Nat.le_of_ble_eq_true rfl⟩ (ms_lt 64 (by decide) hM) (ms_k 64 12 0 (by decide) hM) rfl (Nat.le_of_ble_eq_true rfl) dX12_isThrow_3 ⟨Nat.zero_le _, Nat.zero_le _⟩ ?_
  refine aw_iconst (v := 4) hC dX12_isThrow_6 (by decide) ?_
  refine aw_cut (S' := S) (pc' := 25) (lv' := [(0, .ref 64), (1, .int a1)]) (st' := [.int (if (f_X12_deed S 64 a1 (0 : Int32)) = (4 : Int32) then (1 : Int32) else (if (f_X12_deed S 64 a1 (0 : Int32)) = (5 : Int32) then (1 : Int32) else (0 : Int32)))]) ?_ (fun Jc1 => ?_)
  · generalize ex3 : (if (f_X12_deed S 64 a1 (0 : Int32)) = (4 : Int32) then (1 : Int32) else (if (f_X12_deed S 64 a1 (0 : Int32)) = (5 : Int32) then (1 : Int32) else (0 : Int32))) = x3
    refine aw_zret hC dX12_isThrow_25 (Nat.le_refl _) (Nat.le_refl _) (Bz.n (ex3 ▸ (Bz.ite (Or.inr rfl) (Bz.ite (Or.inr rfl) (Or.inl rfl))))) ?_
    exact FP.pI ((bd_eq ex3).trans (rfl))
  · refine aw_icmp_eq hC 20 dX12_isThrow_7 (by decide) (fun c1 => ?_) (fun c1 => ?_)
    · refine aw_iconst (v := 1) hC dX12_isThrow_20 (by decide) ?_
      refine aw_goto hC 25 dX12_isThrow_21 (by decide) ?_
      simp only [bd_def, if_pos c1] at Jc1 ⊢
      exact Jc1
    · refine aw_aload_n hC 0 dX12_isThrow_10 rfl rfl ?_
      refine aw_iload_n hC 1 dX12_isThrow_11 rfl rfl ?_
      refine aw_iconst (v := 0) hC dX12_isThrow_12 (by decide) ?_
      refine aw_cV2r hC hSt (t_X12_deed G l hM _ _ (h1 c1)) w_1080 w_1088 w_1089 w_1090 w_953 rfl rfl (by decide +kernel) ⟨Nat.le_of_ble_eq_true rfl, Nat.le_of_ble_eq_true rfl⟩ (ms_lt 64 (by decide) hM) (ms_k 64 12 0 (by decide) hM) rfl (Nat.le_of_ble_eq_true rfl) dX12_isThrow_13 ⟨Nat.zero_le _, Nat.zero_le _⟩ ?_
      refine aw_iconst (v := 5) hC dX12_isThrow_16 (by decide) ?_
      refine aw_icmp_ne hC 24 dX12_isThrow_17 (by decide) (fun c2 => ?_) (fun c2 => ?_)
      · refine aw_iconst (v := 0) hC dX12_isThrow_24 (by decide) ?_
        simp only [bd_def, if_neg c1, if_neg c2] at Jc1 ⊢
        exact Jc1
      · refine aw_iconst (v := 1) hC dX12_isThrow_20 (by decide) ?_
        refine aw_goto hC 25 dX12_isThrow_21 (by decide) ?_
        simp only [bd_def, if_neg c1, if_pos c2] at Jc1 ⊢
        exact Jc1
theorem b_X12_isThrow (S : HSt) (_o : Nat) (a1 : Int32) : Bz (f_X12_isThrow S _o a1) := by
  unfold f_X12_isThrow F_X12_isThrow
  (try dsimp only [bd])
  (repeat' split) <;> first | exact Or.inl rfl | exact Or.inr rfl
noncomputable def L_X12_all_42 : Nat → HSt → Int32 → Int64 → Int64 → Int32 → Int32 × Int64 × Int32 × Int64 × Int64 × Int32 × HSt
  | 0, S, v1, v2, v4, v6 => ((1 : Int32), 0, v1, v2, v4, v6, S)
  | n + 1, S, v1, v2, v4, v6 =>
    if (gI S 68 (5 : Int32).toNatClampNeg) ≤ v6 then ((pr ((0 : Int32)) (pr (0) (pr (v1) (pr (v2) (pr (v4) (pr (v6) (S)))))))) else (if (f_X12_isThrow S 64 v6) = 0 then (bd (f_X12_doAct S 64 v6) fun r1007 => L_X12_all_42 n r1007 v1 v2 v4 (v6 + (1 : Int32))) else (bd ((if (f_X12_deed S 64 v6 (0 : Int32)) = (5 : Int32) then (1 : Int32) else (0 : Int32))) fun x1009 => bd (f_X12_oddsOf S 64 x1009 (f_X12_deed S 64 v6 (1 : Int32))) fun r1010 => bd ((v2 * r1010.1.toInt64)) fun x1011 => bd ((v4 * (f_X12_allOdds r1010.2 64).toInt64)) fun x1012 => bd ((f_X12_partOf r1010.2 x1011 x1012 (0 : Int32))) fun x1013 => bd ((f_X12_partOf r1010.2 x1011 x1012 (1 : Int32))) fun x1014 => if (lg_cmp x1014 (1000000000000 : Int64)) ≤ 0 then (bd (f_X12_doAct r1010.2 64 v6) fun r1016 => L_X12_all_42 n r1016 v1 x1013 x1014 (v6 + (1 : Int32))) else ((pr ((1 : Int32)) (pr ((-1000000 : Int64)) (pr (v1) (pr (x1013) (pr (x1014) (pr (v6) (r1010.2))))))))))
def T_X12_all_42 : Nat → HSt → Int32 → Int64 → Int64 → Int32 → Prop
  | 0, _, _, _, _, _ => False
  | n + 1, S, v1, v2, v4, v6 => ((¬ (gI S 68 (5 : Int32).toNatClampNeg) ≤ v6) → p_X12_isThrow S 64 v6) ∧ ((¬ (gI S 68 (5 : Int32).toNatClampNeg) ≤ v6) → ((f_X12_isThrow S 64 v6) = 0) → p_X12_doAct S 64 v6) ∧ ((¬ (gI S 68 (5 : Int32).toNatClampNeg) ≤ v6) → ((f_X12_isThrow S 64 v6) = 0) → ∀ r1007, f_X12_doAct S 64 v6 = r1007 → T_X12_all_42 n r1007 v1 v2 v4 (v6 + (1 : Int32))) ∧ ((¬ (gI S 68 (5 : Int32).toNatClampNeg) ≤ v6) → (¬ (f_X12_isThrow S 64 v6) = 0) → p_X12_deed S 64 v6 (0 : Int32)) ∧ ((¬ (gI S 68 (5 : Int32).toNatClampNeg) ≤ v6) → (¬ (f_X12_isThrow S 64 v6) = 0) → ∀ x1009 : Int32, (if (f_X12_deed S 64 v6 (0 : Int32)) = (5 : Int32) then (1 : Int32) else (0 : Int32)) = x1009 → p_X12_deed S 64 v6 (1 : Int32)) ∧ ((¬ (gI S 68 (5 : Int32).toNatClampNeg) ≤ v6) → (¬ (f_X12_isThrow S 64 v6) = 0) → ∀ x1009 : Int32, (if (f_X12_deed S 64 v6 (0 : Int32)) = (5 : Int32) then (1 : Int32) else (0 : Int32)) = x1009 → p_X12_oddsOf S 64 x1009 (f_X12_deed S 64 v6 (1 : Int32))) ∧ ((¬ (gI S 68 (5 : Int32).toNatClampNeg) ≤ v6) → (¬ (f_X12_isThrow S 64 v6) = 0) → ∀ x1009 : Int32, (if (f_X12_deed S 64 v6 (0 : Int32)) = (5 : Int32) then (1 : Int32) else (0 : Int32)) = x1009 → ∀ r1010, f_X12_oddsOf S 64 x1009 (f_X12_deed S 64 v6 (1 : Int32)) = r1010 → ∀ x1011 : Int64, (v2 * r1010.1.toInt64) = x1011 → p_X12_allOdds r1010.2 64) ∧ ((¬ (gI S 68 (5 : Int32).toNatClampNeg) ≤ v6) → (¬ (f_X12_isThrow S 64 v6) = 0) → ∀ x1009 : Int32, (if (f_X12_deed S 64 v6 (0 : Int32)) = (5 : Int32) then (1 : Int32) else (0 : Int32)) = x1009 → ∀ r1010, f_X12_oddsOf S 64 x1009 (f_X12_deed S 64 v6 (1 : Int32)) = r1010 → ∀ x1011 : Int64, (v2 * r1010.1.toInt64) = x1011 → ∀ x1012 : Int64, (v4 * (f_X12_allOdds r1010.2 64).toInt64) = x1012 → p_X12_partOf r1010.2 x1011 x1012 (0 : Int32)) ∧ ((¬ (gI S 68 (5 : Int32).toNatClampNeg) ≤ v6) → (¬ (f_X12_isThrow S 64 v6) = 0) → ∀ x1009 : Int32, (if (f_X12_deed S 64 v6 (0 : Int32)) = (5 : Int32) then (1 : Int32) else (0 : Int32)) = x1009 → ∀ r1010, f_X12_oddsOf S 64 x1009 (f_X12_deed S 64 v6 (1 : Int32)) = r1010 → ∀ x1011 : Int64, (v2 * r1010.1.toInt64) = x1011 → ∀ x1012 : Int64, (v4 * (f_X12_allOdds r1010.2 64).toInt64) = x1012 → ∀ x1013 : Int64, (f_X12_partOf r1010.2 x1011 x1012 (0 : Int32)) = x1013 → p_X12_partOf r1010.2 x1011 x1012 (1 : Int32)) ∧ ((¬ (gI S 68 (5 : Int32).toNatClampNeg) ≤ v6) → (¬ (f_X12_isThrow S 64 v6) = 0) → ∀ x1009 : Int32, (if (f_X12_deed S 64 v6 (0 : Int32)) = (5 : Int32) then (1 : Int32) else (0 : Int32)) = x1009 → ∀ r1010, f_X12_oddsOf S 64 x1009 (f_X12_deed S 64 v6 (1 : Int32)) = r1010 → ∀ x1011 : Int64, (v2 * r1010.1.toInt64) = x1011 → ∀ x1012 : Int64, (v4 * (f_X12_allOdds r1010.2 64).toInt64) = x1012 → ∀ x1013 : Int64, (f_X12_partOf r1010.2 x1011 x1012 (0 : Int32)) = x1013 → ∀ x1014 : Int64, (f_X12_partOf r1010.2 x1011 x1012 (1 : Int32)) = x1014 → ((lg_cmp x1014 (1000000000000 : Int64)) ≤ 0) → p_X12_doAct r1010.2 64 v6) ∧ ((¬ (gI S 68 (5 : Int32).toNatClampNeg) ≤ v6) → (¬ (f_X12_isThrow S 64 v6) = 0) → ∀ x1009 : Int32, (if (f_X12_deed S 64 v6 (0 : Int32)) = (5 : Int32) then (1 : Int32) else (0 : Int32)) = x1009 → ∀ r1010, f_X12_oddsOf S 64 x1009 (f_X12_deed S 64 v6 (1 : Int32)) = r1010 → ∀ x1011 : Int64, (v2 * r1010.1.toInt64) = x1011 → ∀ x1012 : Int64, (v4 * (f_X12_allOdds r1010.2 64).toInt64) = x1012 → ∀ x1013 : Int64, (f_X12_partOf r1010.2 x1011 x1012 (0 : Int32)) = x1013 → ∀ x1014 : Int64, (f_X12_partOf r1010.2 x1011 x1012 (1 : Int32)) = x1014 → ((lg_cmp x1014 (1000000000000 : Int64)) ≤ 0) → ∀ r1016, f_X12_doAct r1010.2 64 v6 = r1016 → T_X12_all_42 n r1016 v1 x1013 x1014 (v6 + (1 : Int32)))
theorem qL_X12_all_42 : ∀ (n : Nat) (S : HSt) (v1 : Int32) (v2 : Int64) (v4 : Int64) (v6 : Int32), shp (L_X12_all_42 n S v1 v2 v4 v6).2.2.2.2.2.2 = shp S := by
  intro n
  induction n with
  | zero => intros; rfl
  | succ n ih =>
    intro S v1 v2 v4 v6
    unfold L_X12_all_42
    repeat' (first | with_reducible refine shpr6 ?_ | with_reducible rfl | with_reducible refine (ih _ _ _ _ _).trans ?_ | with_reducible refine (q_X12_doAct _ _ _).trans ?_ | with_reducible refine (q_X12_first _ _).trans ?_ | with_reducible refine (q_X12_oddsOf _ _ _ _).trans ?_ | with_reducible refine (shp_sI _ _ _ _).trans ?_ | with_reducible refine (shp_sJ _ _ _ _).trans ?_ | with_reducible refine shi ?_ ?_ | with_reducible refine shb (fun _ _ => ?_) | with_reducible refine shiP (fun q : Int32 × Int64 × Int32 × Int64 × Int64 × Int32 × HSt => q.2.2.2.2.2.2) ?_ ?_ | with_reducible refine shbP (fun q : Int32 × Int64 × Int32 × Int64 × Int64 × Int32 × HSt => q.2.2.2.2.2.2) (fun _ _ => ?_) | (subst_vars; with_reducible rfl) | (subst_vars; with_reducible refine (ih _ _ _ _ _).trans ?_) | (subst_vars; with_reducible refine (q_X12_doAct _ _ _).trans ?_) | (subst_vars; with_reducible refine (q_X12_first _ _).trans ?_) | (subst_vars; with_reducible refine (q_X12_oddsOf _ _ _ _).trans ?_) | (subst_vars; with_reducible refine (shp_sI _ _ _ _).trans ?_) | (subst_vars; with_reducible refine (shp_sJ _ _ _ _).trans ?_) | (subst_vars; with_reducible refine shi ?_ ?_) | (subst_vars; with_reducible refine shb (fun _ _ => ?_)))
theorem vL_X12_all_42 : ∀ (n : Nat) (S : HSt) (v1 : Int32) (v2 : Int64) (v4 : Int64) (v6 : Int32), Fr [(64, 20), (64, 21), (64, 22), (64, 23), (64, 24), (64, 25), (64, 26), (64, 28), (64, 29), (64, 30)] S (L_X12_all_42 n S v1 v2 v4 v6).2.2.2.2.2.2 := by
  intro n
  induction n with
  | zero => intros; exact Fr.refl _ _
  | succ n ih =>
    intro S v1 v2 v4 v6
    unfold L_X12_all_42
    repeat' (first | with_reducible refine frpr6 ?_ | with_reducible exact Fr.refl _ _ | with_reducible refine Fr.lP (fun q : Int32 × Int64 × Int32 × Int64 × Int64 × Int32 × HSt => q.2.2.2.2.2.2) (fun _ _ => ?_) | with_reducible refine Fr.iteP (fun q : Int32 × Int64 × Int32 × Int64 × Int64 × Int32 × HSt => q.2.2.2.2.2.2) ?_ ?_ | with_reducible refine Fr.l1 (fun _ _ => ?_) | with_reducible refine Fr.ite ?_ ?_ | with_reducible refine Fr.sE (by assumption) (by first | decide | simp only [List.mem_cons, List.not_mem_nil, or_false, true_or, or_true, eq_self_iff_true]) ?_ | with_reducible refine Fr.jE (by assumption) ?_ | with_reducible refine Fr.rE (by assumption) (by first | decide | simp only [List.mem_cons, List.not_mem_nil, or_false, true_or, or_true, eq_self_iff_true]) ?_ | with_reducible refine Fr.iE (by assumption) ?_ ?_ | with_reducible refine Fr.tr (ih _ _ _ _ _) (by first | decide | simp only [List.mem_cons, List.not_mem_nil, or_false, forall_eq_or_imp, forall_eq, true_or, or_true, and_self, eq_self_iff_true]) ?_ | with_reducible refine Fr.tr (w_X12_doAct _ _ _ _ (by assumption)) (by first | decide | simp only [List.mem_cons, List.not_mem_nil, or_false, forall_eq_or_imp, forall_eq, true_or, or_true, and_self, eq_self_iff_true]) ?_ | with_reducible refine Fr.tr (w_X12_first _ _ _ (by assumption)) (by first | decide | simp only [List.mem_cons, List.not_mem_nil, or_false, forall_eq_or_imp, forall_eq, true_or, or_true, and_self, eq_self_iff_true]) ?_ | with_reducible refine Fr.tr (w_X12_oddsOf _ _ _ _ _ (by assumption)) (by first | decide | simp only [List.mem_cons, List.not_mem_nil, or_false, forall_eq_or_imp, forall_eq, true_or, or_true, and_self, eq_self_iff_true]) ?_)
theorem wL_X12_all_42 (n : Nat) (S : HSt) (v1 : Int32) (v2 : Int64) (v4 : Int64) (v6 : Int32) (r : Int32 × Int64 × Int32 × Int64 × Int64 × Int32 × HSt) (e : L_X12_all_42 n S v1 v2 v4 v6 = r) : Fr [(64, 20), (64, 21), (64, 22), (64, 23), (64, 24), (64, 25), (64, 26), (64, 28), (64, 29), (64, 30)] S r.2.2.2.2.2.2 := by
  rw [← e]
  exact vL_X12_all_42 n S v1 v2 v4 v6
set_option maxRecDepth 100000 in
theorem l_X12_all_42 {p : Program} {l : Launch} {e : Env} {s : State} {m : MethodId} {args : Array Value} {below : List Frame} {meth : Method} {c : Code} {G : GG} {Post : Option Value → HSt → Prop} (hC : ACx p s m args meth c cX12_all RX12 11 (some .long)) (hSt : St G s)  : ∀ (n : Nat) (S : HSt) (v1 : Int32) (v2 : Int64) (v4 : Int64) (v6 : Int32), MS S → T_X12_all_42 n S v1 v2 v4 v6 → ((L_X12_all_42 n S v1 v2 v4 v6).1 = 1 → Post (some (.long (L_X12_all_42 n S v1 v2 v4 v6).2.1)) (L_X12_all_42 n S v1 v2 v4 v6).2.2.2.2.2.2) → ((L_X12_all_42 n S v1 v2 v4 v6).1 ≠ 1 → AW p l e (rmD 4 0 0) s m args below meth c G 11 (AQ G below args s 0 0 Post) (L_X12_all_42 n S v1 v2 v4 v6).2.2.2.2.2.2 0 0 148 [(0, .ref 64), (1, .int (L_X12_all_42 n S v1 v2 v4 v6).2.2.1), (2, .long (L_X12_all_42 n S v1 v2 v4 v6).2.2.2.1), (4, .long (L_X12_all_42 n S v1 v2 v4 v6).2.2.2.2.1), (6, .int (L_X12_all_42 n S v1 v2 v4 v6).2.2.2.2.2.1)] []) → AW p l e (rmD 4 0 0) s m args below meth c G 11 (AQ G below args s 0 0 Post) S 0 0 42 [(0, .ref 64), (1, .int v1), (2, .long v2), (4, .long v4), (6, .int v6)] [] := by
  intro n
  induction n with
  | zero => intro S v1 v2 v4 v6 _ hT; exact hT.elim
  | succ n ih =>
    intro S v1 v2 v4 v6 hM hT hr hk
    unfold T_X12_all_42 at hT
    obtain ⟨h0, h1, h2, h3, h4, h5, h6, h7, h8, h9, h10⟩ := hT
    refine aw_iload hC 4 dX12_all_42 rfl ?_
    refine aw_aload_n hC 0 dX12_all_44 rfl rfl ?_
    refine aw_getP (b := 68) hC hSt 5 (ms_lt 64 (by decide) hM) (ms_k 64 12 0 (by decide) hM) rfl (by decide) w_920 rfl (ms_p 5 68 (by decide) hM) dX12_all_45 ?_
    refine aw_iconst (v := 5) hC dX12_all_48 (by decide) ?_
    refine aw_iald hC hSt (ms_lt 68 (by decide) hM) (ms_k 68 14 172 (by decide) hM) (vp_len (n := 172) (ms_l 68 14 172 (by decide) hM) (by unfold vp_in; decide)) dX12_all_49 ?_
    refine aw_icmp_ge hC 148 dX12_all_50 (by decide) (fun c1005 => ?_) (fun c1005 => ?_)
    · refine aw_sub [0, 1, 2, 3, 4] rfl ?_
      have E : L_X12_all_42 (n + 1) S v1 v2 v4 v6 = _ := (if_pos c1005).trans (rfl)
      rw [E] at hk hr
      exact hk (by show ¬ (0 : Int32) = 1; decide)
    · refine aw_aload_n hC 0 dX12_all_53 rfl rfl ?_
      refine aw_iload hC 4 dX12_all_54 rfl ?_
      refine aw_cV1r hC hSt (t_X12_isThrow G l hM _ (h0 c1005)) w_1189 w_1191 w_1192 w_1193 w_953 rfl rfl (by decide +kernel) ⟨Nat.le_of_ble_eq_true rfl, Nat.le_of_ble_eq_true rfl⟩ (ms_lt 64 (by decide) hM) (ms_k 64 12 0 (by decide) hM) rfl (Nat.le_of_ble_eq_true rfl) dX12_all_56 ⟨Nat.zero_le _, Nat.zero_le _⟩ ?_
      refine aw_if_eq hC 136 dX12_all_59 (by decide) (fun c1006 => ?_) (fun c1006 => ?_)
      · refine aw_aload_n hC 0 dX12_all_136 rfl rfl ?_
        refine aw_iload hC 4 dX12_all_137 rfl ?_
        refine aw_cV1v hC hSt (t_X12_doAct G l hM _ (h1 c1005 c1006)) w_1184 w_1185 w_1186 w_1187 w_953 rfl rfl (by decide +kernel) ⟨Nat.le_of_ble_eq_true rfl, Nat.le_of_ble_eq_true rfl⟩ (ms_lt 64 (by decide) hM) (ms_k 64 12 0 (by decide) hM) rfl (Nat.le_of_ble_eq_true rfl) dX12_all_139 ⟨Nat.zero_le _, Nat.zero_le _⟩ ?_
        generalize er1007 : f_X12_doAct S 64 v6 = r1007
        have hM : MS r1007 := MS.of (by rw [← er1007]; exact q_X12_doAct _ _ _) hM
        refine aw_iinc (v := (v6 + (1 : Int32))) hC 4 [(6, .int _), (0, .ref 64), (1, .int _), (2, .long _), (4, .long _)] dX12_all_142 rfl rfl (by decide) rfl ?_
        refine aw_goto hC 42 dX12_all_145 (by decide) ?_
        refine aw_sub [1, 2, 3, 4, 0] rfl ?_
        have hTn := (h2 c1005 c1006 r1007 er1007)
        have hMn : MS r1007 := hM
        have E : L_X12_all_42 (n + 1) S v1 v2 v4 v6 = _ := (if_neg c1005).trans ((if_pos c1006).trans ((bd_eq er1007).trans (rfl)))
        rw [E] at hk hr
        exact ih _ _ _ _ _ hMn hTn hr hk
      · refine aw_lload_n hC 2 dX12_all_62 rfl rfl ?_
        refine aw_aload_n hC 0 dX12_all_63 rfl rfl ?_
        refine aw_aload_n hC 0 dX12_all_64 rfl rfl ?_
        refine aw_iload hC 4 dX12_all_65 rfl ?_
        refine aw_iconst (v := 0) hC dX12_all_67 (by decide) ?_
        refine aw_cV2r hC hSt (t_X12_deed G l hM _ _ (h3 c1005 c1006)) w_1080 w_1088 w_1089 w_1090 w_953 rfl rfl (by decide +kernel) ⟨Nat.le_of_ble_eq_true rfl, Nat.le_of_ble_eq_true rfl⟩ (ms_lt 64 (by decide) hM) (ms_k 64 12 0 (by decide) hM) rfl (Nat.le_of_ble_eq_true rfl) dX12_all_68 ⟨Nat.zero_le _, Nat.zero_le _⟩ ?_
        refine aw_iconst (v := 5) hC dX12_all_71 (by decide) ?_
        refine aw_cut (S' := S) (pc' := 80) (lv' := [(0, .ref 64), (1, .int v1), (2, .long v2), (4, .long v4), (6, .int v6)]) (st' := [.int (if (f_X12_deed S 64 v6 (0 : Int32)) = (5 : Int32) then (1 : Int32) else (0 : Int32)), .ref 64, .long v2]) ?_ (fun Jc1008 => ?_)
        · generalize ex1009 : (if (f_X12_deed S 64 v6 (0 : Int32)) = (5 : Int32) then (1 : Int32) else (0 : Int32)) = x1009
          refine aw_aload_n hC 0 dX12_all_80 rfl rfl ?_
          refine aw_iload hC 4 dX12_all_81 rfl ?_
          refine aw_iconst (v := 1) hC dX12_all_83 (by decide) ?_
          refine aw_cV2r hC hSt (t_X12_deed G l hM _ _ (h4 c1005 c1006 x1009 ex1009)) w_1080 w_1088 w_1089 w_1090 w_953 rfl rfl (by decide +kernel) ⟨Nat.le_of_ble_eq_true rfl, Nat.le_of_ble_eq_true rfl⟩ (ms_lt 64 (by decide) hM) (ms_k 64 12 0 (by decide) hM) rfl (Nat.le_of_ble_eq_true rfl) dX12_all_84 ⟨Nat.zero_le _, Nat.zero_le _⟩ ?_
          refine aw_cV2r hC hSt (t_X12_oddsOf G l hM _ _ (h5 c1005 c1006 x1009 ex1009)) w_1134 w_1140 w_1141 w_1142 w_953 rfl rfl (by decide +kernel) ⟨Nat.le_of_ble_eq_true rfl, Nat.le_of_ble_eq_true rfl⟩ (ms_lt 64 (by decide) hM) (ms_k 64 12 0 (by decide) hM) rfl (Nat.le_of_ble_eq_true rfl) dX12_all_87 ⟨Nat.zero_le _, Nat.zero_le _⟩ ?_
          generalize er1010 : f_X12_oddsOf S 64 x1009 (f_X12_deed S 64 v6 (1 : Int32)) = r1010
          have hM : MS r1010.2 := MS.of (by rw [← er1010]; exact q_X12_oddsOf _ _ _ _) hM
          refine aw_i2l hC dX12_all_90 ?_
          refine aw_lmul hC dX12_all_91 ?_
          refine aw_lstore hC [(7, .long _), (0, .ref 64), (1, .int _), (2, .long _), (4, .long _), (6, .int _)] dX12_all_92 (by decide) rfl ?_
          generalize ex1011 : (v2 * r1010.1.toInt64) = x1011
          refine aw_lload hC 4 dX12_all_94 rfl ?_
          refine aw_aload_n hC 1 dX12_all_96 rfl rfl ?_
          refine aw_cV0r hC hSt (t_X12_allOdds G l hM  (h6 c1005 c1006 x1009 ex1009 r1010 er1010 x1011 ex1011)) w_1135 w_1143 w_1144 w_1145 w_953 rfl rfl (by decide +kernel) ⟨Nat.le_of_ble_eq_true rfl, Nat.le_of_ble_eq_true rfl⟩ (ms_lt 64 (by decide) hM) (ms_k 64 12 0 (by decide) hM) rfl (Nat.le_of_ble_eq_true rfl) dX12_all_97 ⟨Nat.zero_le _, Nat.zero_le _⟩ ?_
          refine aw_i2l hC dX12_all_100 ?_
          refine aw_lmul hC dX12_all_101 ?_
          refine aw_lstore hC [(9, .long _), (7, .long _), (0, .ref 64), (1, .int _), (2, .long _), (4, .long _), (6, .int _)] dX12_all_102 (by decide) rfl ?_
          generalize ex1012 : (v4 * (f_X12_allOdds r1010.2 64).toInt64) = x1012
          refine aw_lload hC 1 dX12_all_104 rfl ?_
          refine aw_lload hC 0 dX12_all_106 rfl ?_
          refine aw_iconst (v := 0) hC dX12_all_108 (by decide) ?_
          refine aw_cS3r hC hSt (t_X12_partOf G l  _ _ _ (h7 c1005 c1006 x1009 ex1009 r1010 er1010 x1011 ex1011 x1012 ex1012)) w_1137 w_1170 w_1171 w_953 rfl rfl (by decide +kernel) ⟨Nat.le_of_ble_eq_true rfl, Nat.le_of_ble_eq_true rfl⟩ (Nat.le_of_ble_eq_true rfl) dX12_all_109 ⟨Nat.zero_le _, Nat.zero_le _⟩ ?_
          refine aw_lstore_n hC [(2, .long _), (9, .long _), (7, .long _), (0, .ref 64), (1, .int _), (4, .long _), (6, .int _)] dX12_all_112 rfl (by decide) rfl ?_
          generalize ex1013 : (f_X12_partOf r1010.2 x1011 x1012 (0 : Int32)) = x1013
          refine aw_lload hC 2 dX12_all_113 rfl ?_
          refine aw_lload hC 1 dX12_all_115 rfl ?_
          refine aw_iconst (v := 1) hC dX12_all_117 (by decide) ?_
          refine aw_cS3r hC hSt (t_X12_partOf G l  _ _ _ (h8 c1005 c1006 x1009 ex1009 r1010 er1010 x1011 ex1011 x1012 ex1012 x1013 ex1013)) w_1137 w_1170 w_1171 w_953 rfl rfl (by decide +kernel) ⟨Nat.le_of_ble_eq_true rfl, Nat.le_of_ble_eq_true rfl⟩ (Nat.le_of_ble_eq_true rfl) dX12_all_118 ⟨Nat.zero_le _, Nat.zero_le _⟩ ?_
          refine aw_lstore hC [(4, .long _), (2, .long _), (9, .long _), (7, .long _), (0, .ref 64), (1, .int _), (6, .int _)] dX12_all_121 (by decide) rfl ?_
          generalize ex1014 : (f_X12_partOf r1010.2 x1011 x1012 (1 : Int32)) = x1014
          refine aw_lload hC 0 dX12_all_123 rfl ?_
          refine aw_ldc2 (v := 1000000000000) hC w_1190 dX12_all_125 ?_
          refine aw_lcmp hC dX12_all_128 ?_
          refine aw_if_le hC 136 dX12_all_129 (by decide) (fun c1015 => ?_) (fun c1015 => ?_)
          · refine aw_aload_n hC 4 dX12_all_136 rfl rfl ?_
            refine aw_iload hC 6 dX12_all_137 rfl ?_
            refine aw_cV1v hC hSt (t_X12_doAct G l hM _ (h9 c1005 c1006 x1009 ex1009 r1010 er1010 x1011 ex1011 x1012 ex1012 x1013 ex1013 x1014 ex1014 c1015)) w_1184 w_1185 w_1186 w_1187 w_953 rfl rfl (by decide +kernel) ⟨Nat.le_of_ble_eq_true rfl, Nat.le_of_ble_eq_true rfl⟩ (ms_lt 64 (by decide) hM) (ms_k 64 12 0 (by decide) hM) rfl (Nat.le_of_ble_eq_true rfl) dX12_all_139 ⟨Nat.zero_le _, Nat.zero_le _⟩ ?_
            generalize er1016 : f_X12_doAct r1010.2 64 v6 = r1016
            have hM : MS r1016 := MS.of (by rw [← er1016]; exact q_X12_doAct _ _ _) hM
            refine aw_iinc (v := (v6 + (1 : Int32))) hC 6 [(6, .int _), (4, .long _), (2, .long _), (9, .long _), (7, .long _), (0, .ref 64), (1, .int _)] dX12_all_142 rfl rfl (by decide) rfl ?_
            refine aw_goto hC 42 dX12_all_145 (by decide) ?_
            refine aw_sub [5, 6, 2, 1, 0] rfl ?_
            have hTn := (h10 c1005 c1006 x1009 ex1009 r1010 er1010 x1011 ex1011 x1012 ex1012 x1013 ex1013 x1014 ex1014 c1015 r1016 er1016)
            have hMn : MS r1016 := hM
            have E : L_X12_all_42 (n + 1) S v1 v2 v4 v6 = _ := (if_neg c1005).trans ((if_neg c1006).trans ((bd_eq ex1009).trans ((bd_eq er1010).trans ((bd_eq ex1011).trans ((bd_eq ex1012).trans ((bd_eq ex1013).trans ((bd_eq ex1014).trans ((if_pos c1015).trans ((bd_eq er1016).trans (rfl))))))))))
            rw [E] at hk hr
            exact ih _ _ _ _ _ hMn hTn hr hk
          · refine aw_ldc2 (v := -1000000) hC w_1176 dX12_all_132 ?_
            refine aw_lret hC dX12_all_135 (Nat.le_refl _) (Nat.le_refl _) ?_
            have E : L_X12_all_42 (n + 1) S v1 v2 v4 v6 = _ := (if_neg c1005).trans ((if_neg c1006).trans ((bd_eq ex1009).trans ((bd_eq er1010).trans ((bd_eq ex1011).trans ((bd_eq ex1012).trans ((bd_eq ex1013).trans ((bd_eq ex1014).trans ((if_neg c1015).trans (rfl)))))))))
            rw [E] at hr
            exact hr rfl
        · refine aw_icmp_ne hC 79 dX12_all_72 (by decide) (fun c1008 => ?_) (fun c1008 => ?_)
          · refine aw_iconst (v := 0) hC dX12_all_79 (by decide) ?_
            simp only [bd_def, if_neg c1008] at Jc1008 ⊢
            exact Jc1008
          · refine aw_iconst (v := 1) hC dX12_all_75 (by decide) ?_
            refine aw_goto hC 80 dX12_all_76 (by decide) ?_
            simp only [bd_def, if_pos c1008] at Jc1008 ⊢
            exact Jc1008
noncomputable def f_X12_all (S : HSt) (_o : Nat) (a1 : Int32) : Int64 × HSt := bd ((sI S 64 0 (0 : Int32))) fun S1 => if (f_X12_in S1 a1.toInt64 (0 : Int64) (1 : Int64)) = 0 then (pr ((-9000000000000000001 : Int64)) (S1)) else (if (gI S1 64 7) = 0 then (pr ((-9000000000000000002 : Int64)) (S1)) else (bd (f_X12_first S1 64) fun r4 => bd (L_X12_all_42 1000 r4 a1 (1 : Int64) (1 : Int64) (0 : Int32)) fun r5 => if r5.1 = 1 then (pr (r5.2.1) (r5.2.2.2.2.2.2)) else (bd ((if r5.2.2.1 = 0 then r5.2.2.2.1 else r5.2.2.2.2.1)) fun x8 => pr (x8) (r5.2.2.2.2.2.2))))
def p_X12_all (S : HSt) (_o : Nat) (a1 : Int32) : Prop := (∀ S1 : HSt, (sI S 64 0 (0 : Int32)) = S1 → (¬ (f_X12_in S1 a1.toInt64 (0 : Int64) (1 : Int64)) = 0) → (¬ (gI S1 64 7) = 0) → ∀ r4, f_X12_first S1 64 = r4 → T_X12_all_42 1000 r4 a1 (1 : Int64) (1 : Int64) (0 : Int32))
set_option maxRecDepth 100000 in
theorem t_X12_all (G : GG) (l : Launch) {S : HSt} (hM : MS S) (a1 : Int32) (hp : p_X12_all S 64 a1) : AM G l yX12_all cX12_all 11 (some .long) (rmD 4 0 0) 0 0 [.ref 64, .int a1] S (FP (some (.long (f_X12_all S 64 a1).1)) ((f_X12_all S 64 a1).2)) := by
  have h0 := hp
  unfold p_X12_all at h0
  refine AM.mk (by decide) (Nat.le_of_ble_eq_true rfl) ?_
  intro p e s m below meth c hC hSt _
  refine aw_aload_n hC 0 dX12_all_0 rfl rfl ?_
  refine aw_iconst (v := 0) hC dX12_all_1 (by decide) ?_
  refine aw_putI hC hSt 0 (ms_lt 64 (by decide) hM) (ms_k 64 12 0 (by decide) hM) rfl (by decide) w_955 rfl rfl rfl rfl dX12_all_2 ?_
  generalize eS1 : (sI S 64 0 (0 : Int32)) = S1
  have hM : MS S1 := MS.of (by rw [← eS1]; exact shp_sI _ _ _ _) hM
  refine aw_iload_n hC 1 dX12_all_5 rfl rfl ?_
  refine aw_i2l hC dX12_all_6 ?_
  refine aw_lconst (v := 0) hC dX12_all_7 (by decide) ?_
  refine aw_lconst (v := 1) hC dX12_all_8 (by decide) ?_
  refine aw_cS3r hC hSt (t_X12_in G l  _ _ _) w_945 w_951 w_952 w_953 rfl rfl (by decide +kernel) ⟨Nat.le_of_ble_eq_true rfl, Nat.le_of_ble_eq_true rfl⟩ (Nat.le_of_ble_eq_true rfl) dX12_all_9 ⟨Nat.zero_le _, Nat.zero_le _⟩ ?_
  refine aw_if_ne hC 19 dX12_all_12 (by decide) (fun c2 => ?_) (fun c2 => ?_)
  · refine aw_aload_n hC 0 dX12_all_19 rfl rfl ?_
    refine aw_getI hC hSt 7 (ms_lt 64 (by decide) hM) (ms_k 64 12 0 (by decide) hM) rfl (by decide) w_1051 rfl dX12_all_20 ?_
    refine aw_if_ne hC 30 dX12_all_23 (by decide) (fun c3 => ?_) (fun c3 => ?_)
    · refine aw_aload_n hC 0 dX12_all_30 rfl rfl ?_
      refine aw_cV0v hC hSt (t_X12_first G l hM ) w_1031 w_1071 w_1072 w_1073 w_953 rfl rfl (by decide +kernel) ⟨Nat.le_of_ble_eq_true rfl, Nat.le_of_ble_eq_true rfl⟩ (ms_lt 64 (by decide) hM) (ms_k 64 12 0 (by decide) hM) rfl (Nat.le_of_ble_eq_true rfl) dX12_all_31 ⟨Nat.zero_le _, Nat.zero_le _⟩ ?_
      generalize er4 : f_X12_first S1 64 = r4
      have hM : MS r4 := MS.of (by rw [← er4]; exact q_X12_first _ _) hM
      refine aw_lconst (v := 1) hC dX12_all_34 (by decide) ?_
      refine aw_lstore_n hC [(2, .long _), (0, .ref 64), (1, .int _)] dX12_all_35 rfl (by decide) rfl ?_
      refine aw_lconst (v := 1) hC dX12_all_36 (by decide) ?_
      refine aw_lstore hC [(4, .long _), (2, .long _), (0, .ref 64), (1, .int _)] dX12_all_37 (by decide) rfl ?_
      refine aw_iconst (v := 0) hC dX12_all_39 (by decide) ?_
      refine aw_istore hC [(6, .int _), (4, .long _), (2, .long _), (0, .ref 64), (1, .int _)] dX12_all_40 (by decide) rfl ?_
      refine aw_sub [3, 4, 2, 1, 0] rfl ?_
      refine l_X12_all_42 hC hSt 1000 _ _ _ _ _ hM (h0 S1 eS1 c2 c3 r4 er4) (fun c6 => ?_) (fun c6 => ?_)
      · revert c6
        generalize er5 : L_X12_all_42 1000 r4 a1 (1 : Int64) (1 : Int64) (0 : Int32) = r5
        intro c6
        exact FP.qJ ((bd_eq eS1).trans ((if_neg c2).trans ((if_neg c3).trans ((bd_eq er4).trans ((bd_eq er5).trans ((if_pos c6).trans (rfl)))))))
      · revert c6
        generalize er5 : L_X12_all_42 1000 r4 a1 (1 : Int64) (1 : Int64) (0 : Int32) = r5
        have hM : MS r5.2.2.2.2.2.2 := MS.of (by rw [← er5]; exact qL_X12_all_42 _ _ _ _ _ _) hM
        intro c6
        refine aw_iload_n hC 1 dX12_all_148 rfl rfl ?_
        refine aw_cut (S' := r5.2.2.2.2.2.2) (pc' := 158) (lv' := [(0, .ref 64), (1, .int r5.2.2.1), (2, .long r5.2.2.2.1), (4, .long r5.2.2.2.2.1), (6, .int r5.2.2.2.2.2.1)]) (st' := [.long (if r5.2.2.1 = 0 then r5.2.2.2.1 else r5.2.2.2.2.1)]) ?_ (fun Jc7 => ?_)
        · generalize ex8 : (if r5.2.2.1 = 0 then r5.2.2.2.1 else r5.2.2.2.2.1) = x8
          refine aw_lret hC dX12_all_158 (Nat.le_refl _) (Nat.le_refl _) ?_
          exact FP.qJ ((bd_eq eS1).trans ((if_neg c2).trans ((if_neg c3).trans ((bd_eq er4).trans ((bd_eq er5).trans ((if_neg c6).trans ((bd_eq ex8).trans (rfl))))))))
        · refine aw_if_ne hC 156 dX12_all_149 (by decide) (fun c7 => ?_) (fun c7 => ?_)
          · refine aw_lload hC 3 dX12_all_156 rfl ?_
            simp only [bd_def, if_neg c7] at Jc7 ⊢
            exact Jc7
          · refine aw_lload_n hC 2 dX12_all_152 rfl rfl ?_
            refine aw_goto hC 158 dX12_all_153 (by decide) ?_
            simp only [bd_def, if_pos c7] at Jc7 ⊢
            exact Jc7
    · refine aw_ldc2 (v := -9000000000000000002) hC w_1151 dX12_all_26 ?_
      refine aw_lret hC dX12_all_29 (Nat.le_refl _) (Nat.le_refl _) ?_
      exact FP.qJ ((bd_eq eS1).trans ((if_neg c2).trans ((if_pos c3).trans (rfl))))
  · refine aw_ldc2 (v := -9000000000000000001) hC w_957 dX12_all_15 ?_
    refine aw_lret hC dX12_all_18 (Nat.le_refl _) (Nat.le_refl _) ?_
    exact FP.qJ ((bd_eq eS1).trans ((if_pos c2).trans (rfl)))
theorem q_X12_all (S : HSt) (_o : Nat) (a1 : Int32) : shp ((f_X12_all S _o a1).2) = shp S := by
  unfold f_X12_all
  repeat' (first | with_reducible refine shpr1 ?_ | with_reducible rfl | with_reducible refine (q_X12_doAct _ _ _).trans ?_ | with_reducible refine (q_X12_first _ _).trans ?_ | with_reducible refine (q_X12_oddsOf _ _ _ _).trans ?_ | with_reducible refine (qL_X12_all_42 _ _ _ _ _ _).trans ?_ | with_reducible refine (shp_sI _ _ _ _).trans ?_ | with_reducible refine (shp_sJ _ _ _ _).trans ?_ | with_reducible refine shi ?_ ?_ | with_reducible refine shb (fun _ _ => ?_) | with_reducible refine shiP (fun q : Int64 × HSt => q.2) ?_ ?_ | with_reducible refine shbP (fun q : Int64 × HSt => q.2) (fun _ _ => ?_) | (subst_vars; with_reducible rfl) | (subst_vars; with_reducible refine (q_X12_doAct _ _ _).trans ?_) | (subst_vars; with_reducible refine (q_X12_first _ _).trans ?_) | (subst_vars; with_reducible refine (q_X12_oddsOf _ _ _ _).trans ?_) | (subst_vars; with_reducible refine (qL_X12_all_42 _ _ _ _ _ _).trans ?_) | (subst_vars; with_reducible refine (shp_sI _ _ _ _).trans ?_) | (subst_vars; with_reducible refine (shp_sJ _ _ _ _).trans ?_) | (subst_vars; with_reducible refine shi ?_ ?_) | (subst_vars; with_reducible refine shb (fun _ _ => ?_)))
theorem v_X12_all (S : HSt) (_o : Nat) (a1 : Int32) : Fr [(64, 0), (64, 20), (64, 21), (64, 22), (64, 23), (64, 24), (64, 25), (64, 26), (64, 28), (64, 29), (64, 30)] S ((f_X12_all S _o a1).2) := by
  unfold f_X12_all
  repeat' (first | with_reducible refine frpr1 ?_ | with_reducible exact Fr.refl _ _ | with_reducible refine Fr.lP (fun q : Int64 × HSt => q.2) (fun _ _ => ?_) | with_reducible refine Fr.iteP (fun q : Int64 × HSt => q.2) ?_ ?_ | with_reducible refine Fr.l1 (fun _ _ => ?_) | with_reducible refine Fr.ite ?_ ?_ | with_reducible refine Fr.sE (by assumption) (by first | decide | simp only [List.mem_cons, List.not_mem_nil, or_false, true_or, or_true, eq_self_iff_true]) ?_ | with_reducible refine Fr.jE (by assumption) ?_ | with_reducible refine Fr.rE (by assumption) (by first | decide | simp only [List.mem_cons, List.not_mem_nil, or_false, true_or, or_true, eq_self_iff_true]) ?_ | with_reducible refine Fr.iE (by assumption) ?_ ?_ | with_reducible refine Fr.tr (w_X12_doAct _ _ _ _ (by assumption)) (by first | decide | simp only [List.mem_cons, List.not_mem_nil, or_false, forall_eq_or_imp, forall_eq, true_or, or_true, and_self, eq_self_iff_true]) ?_ | with_reducible refine Fr.tr (w_X12_first _ _ _ (by assumption)) (by first | decide | simp only [List.mem_cons, List.not_mem_nil, or_false, forall_eq_or_imp, forall_eq, true_or, or_true, and_self, eq_self_iff_true]) ?_ | with_reducible refine Fr.tr (w_X12_oddsOf _ _ _ _ _ (by assumption)) (by first | decide | simp only [List.mem_cons, List.not_mem_nil, or_false, forall_eq_or_imp, forall_eq, true_or, or_true, and_self, eq_self_iff_true]) ?_ | with_reducible refine Fr.tr (wL_X12_all_42 _ _ _ _ _ _ _ (by assumption)) (by first | decide | simp only [List.mem_cons, List.not_mem_nil, or_false, forall_eq_or_imp, forall_eq, true_or, or_true, and_self, eq_self_iff_true]) ?_)
theorem w_X12_all (S : HSt) (_o : Nat) (a1 : Int32) (r : Int64 × HSt) (e : f_X12_all S _o a1 = r) : Fr [(64, 0), (64, 20), (64, 21), (64, 22), (64, 23), (64, 24), (64, 25), (64, 26), (64, 28), (64, 29), (64, 30)] S r.2 := by
  rw [← e]
  exact v_X12_all S _o a1
noncomputable def L_X12_score_24 : Nat → HSt → Int64 → Int32 → Int64 × Int32 × HSt
  | 0, S, v1, v3 => (v1, v3, S)
  | n + 1, S, v1, v3 =>
    if (gI S 68 (5 : Int32).toNatClampNeg) ≤ v3 then ((pr (v1) (pr (v3) (S)))) else (bd ((if (f_X12_isThrow S 64 v3) = 0 then (0 : Int64) else (bd ((if (f_X12_deed S 64 v3 (0 : Int32)) = (5 : Int32) then (1 : Int32) else (0 : Int32))) fun x1007 => bd (f_X12_counts S 64 x1007 (f_X12_deed S 64 v3 (1 : Int32))) fun r1008 => r1008.1.toInt64))) fun x1009 => bd ((if (f_X12_isThrow S 64 v3) = 0 then S else (bd ((if (f_X12_deed S 64 v3 (0 : Int32)) = (5 : Int32) then (1 : Int32) else (0 : Int32))) fun x1007 => bd (f_X12_counts S 64 x1007 (f_X12_deed S 64 v3 (1 : Int32))) fun r1008 => r1008.2))) fun S1010 => bd ((v1 + x1009)) fun x1011 => bd (f_X12_doAct S1010 64 v3) fun r1012 => L_X12_score_24 n r1012 x1011 (v3 + (1 : Int32)))
def T_X12_score_24 : Nat → HSt → Int64 → Int32 → Prop
  | 0, _, _, _ => False
  | n + 1, S, v1, v3 => ((¬ (gI S 68 (5 : Int32).toNatClampNeg) ≤ v3) → p_X12_isThrow S 64 v3) ∧ ((¬ (gI S 68 (5 : Int32).toNatClampNeg) ≤ v3) → (¬ (f_X12_isThrow S 64 v3) = 0) → p_X12_deed S 64 v3 (0 : Int32)) ∧ ((¬ (gI S 68 (5 : Int32).toNatClampNeg) ≤ v3) → (¬ (f_X12_isThrow S 64 v3) = 0) → ∀ x1007 : Int32, (if (f_X12_deed S 64 v3 (0 : Int32)) = (5 : Int32) then (1 : Int32) else (0 : Int32)) = x1007 → p_X12_deed S 64 v3 (1 : Int32)) ∧ ((¬ (gI S 68 (5 : Int32).toNatClampNeg) ≤ v3) → (¬ (f_X12_isThrow S 64 v3) = 0) → ∀ x1007 : Int32, (if (f_X12_deed S 64 v3 (0 : Int32)) = (5 : Int32) then (1 : Int32) else (0 : Int32)) = x1007 → p_X12_counts S 64 x1007 (f_X12_deed S 64 v3 (1 : Int32))) ∧ ((¬ (gI S 68 (5 : Int32).toNatClampNeg) ≤ v3) → ∀ x1009 : Int64, (if (f_X12_isThrow S 64 v3) = 0 then (0 : Int64) else (bd ((if (f_X12_deed S 64 v3 (0 : Int32)) = (5 : Int32) then (1 : Int32) else (0 : Int32))) fun x1007 => bd (f_X12_counts S 64 x1007 (f_X12_deed S 64 v3 (1 : Int32))) fun r1008 => r1008.1.toInt64)) = x1009 → ∀ S1010 : HSt, (if (f_X12_isThrow S 64 v3) = 0 then S else (bd ((if (f_X12_deed S 64 v3 (0 : Int32)) = (5 : Int32) then (1 : Int32) else (0 : Int32))) fun x1007 => bd (f_X12_counts S 64 x1007 (f_X12_deed S 64 v3 (1 : Int32))) fun r1008 => r1008.2)) = S1010 → ∀ x1011 : Int64, (v1 + x1009) = x1011 → p_X12_doAct S1010 64 v3) ∧ ((¬ (gI S 68 (5 : Int32).toNatClampNeg) ≤ v3) → ∀ x1009 : Int64, (if (f_X12_isThrow S 64 v3) = 0 then (0 : Int64) else (bd ((if (f_X12_deed S 64 v3 (0 : Int32)) = (5 : Int32) then (1 : Int32) else (0 : Int32))) fun x1007 => bd (f_X12_counts S 64 x1007 (f_X12_deed S 64 v3 (1 : Int32))) fun r1008 => r1008.1.toInt64)) = x1009 → ∀ S1010 : HSt, (if (f_X12_isThrow S 64 v3) = 0 then S else (bd ((if (f_X12_deed S 64 v3 (0 : Int32)) = (5 : Int32) then (1 : Int32) else (0 : Int32))) fun x1007 => bd (f_X12_counts S 64 x1007 (f_X12_deed S 64 v3 (1 : Int32))) fun r1008 => r1008.2)) = S1010 → ∀ x1011 : Int64, (v1 + x1009) = x1011 → ∀ r1012, f_X12_doAct S1010 64 v3 = r1012 → T_X12_score_24 n r1012 x1011 (v3 + (1 : Int32)))
theorem qL_X12_score_24 : ∀ (n : Nat) (S : HSt) (v1 : Int64) (v3 : Int32), shp (L_X12_score_24 n S v1 v3).2.2 = shp S := by
  intro n
  induction n with
  | zero => intros; rfl
  | succ n ih =>
    intro S v1 v3
    unfold L_X12_score_24
    repeat' (first | with_reducible refine shpr2 ?_ | with_reducible rfl | with_reducible refine (ih _ _ _).trans ?_ | with_reducible refine (q_X12_counts _ _ _ _).trans ?_ | with_reducible refine (q_X12_doAct _ _ _).trans ?_ | with_reducible refine (q_X12_first _ _).trans ?_ | with_reducible refine (shp_sI _ _ _ _).trans ?_ | with_reducible refine (shp_sJ _ _ _ _).trans ?_ | with_reducible refine shi ?_ ?_ | with_reducible refine shb (fun _ _ => ?_) | with_reducible refine shiP (fun q : Int64 × Int32 × HSt => q.2.2) ?_ ?_ | with_reducible refine shbP (fun q : Int64 × Int32 × HSt => q.2.2) (fun _ _ => ?_) | (subst_vars; with_reducible rfl) | (subst_vars; with_reducible refine (ih _ _ _).trans ?_) | (subst_vars; with_reducible refine (q_X12_counts _ _ _ _).trans ?_) | (subst_vars; with_reducible refine (q_X12_doAct _ _ _).trans ?_) | (subst_vars; with_reducible refine (q_X12_first _ _).trans ?_) | (subst_vars; with_reducible refine (shp_sI _ _ _ _).trans ?_) | (subst_vars; with_reducible refine (shp_sJ _ _ _ _).trans ?_) | (subst_vars; with_reducible refine shi ?_ ?_) | (subst_vars; with_reducible refine shb (fun _ _ => ?_)))
theorem vL_X12_score_24 : ∀ (n : Nat) (S : HSt) (v1 : Int64) (v3 : Int32), Fr [(64, 20), (64, 21), (64, 22), (64, 23), (64, 24), (64, 25), (64, 26), (64, 28), (64, 29), (64, 30)] S (L_X12_score_24 n S v1 v3).2.2 := by
  intro n
  induction n with
  | zero => intros; exact Fr.refl _ _
  | succ n ih =>
    intro S v1 v3
    unfold L_X12_score_24
    repeat' (first | with_reducible refine frpr2 ?_ | with_reducible exact Fr.refl _ _ | with_reducible refine Fr.lP (fun q : Int64 × Int32 × HSt => q.2.2) (fun _ _ => ?_) | with_reducible refine Fr.iteP (fun q : Int64 × Int32 × HSt => q.2.2) ?_ ?_ | with_reducible refine Fr.l1 (fun _ _ => ?_) | with_reducible refine Fr.ite ?_ ?_ | with_reducible refine Fr.sE (by assumption) (by first | decide | simp only [List.mem_cons, List.not_mem_nil, or_false, true_or, or_true, eq_self_iff_true]) ?_ | with_reducible refine Fr.jE (by assumption) ?_ | with_reducible refine Fr.rE (by assumption) (by first | decide | simp only [List.mem_cons, List.not_mem_nil, or_false, true_or, or_true, eq_self_iff_true]) ?_ | with_reducible refine Fr.iE (by assumption) ?_ ?_ | with_reducible refine Fr.tr (ih _ _ _) (by first | decide | simp only [List.mem_cons, List.not_mem_nil, or_false, forall_eq_or_imp, forall_eq, true_or, or_true, and_self, eq_self_iff_true]) ?_ | with_reducible refine Fr.tr (w_X12_counts _ _ _ _ _ (by assumption)) (by first | decide | simp only [List.mem_cons, List.not_mem_nil, or_false, forall_eq_or_imp, forall_eq, true_or, or_true, and_self, eq_self_iff_true]) ?_ | with_reducible refine Fr.tr (w_X12_doAct _ _ _ _ (by assumption)) (by first | decide | simp only [List.mem_cons, List.not_mem_nil, or_false, forall_eq_or_imp, forall_eq, true_or, or_true, and_self, eq_self_iff_true]) ?_ | with_reducible refine Fr.tr (w_X12_first _ _ _ (by assumption)) (by first | decide | simp only [List.mem_cons, List.not_mem_nil, or_false, forall_eq_or_imp, forall_eq, true_or, or_true, and_self, eq_self_iff_true]) ?_)
theorem wL_X12_score_24 (n : Nat) (S : HSt) (v1 : Int64) (v3 : Int32) (r : Int64 × Int32 × HSt) (e : L_X12_score_24 n S v1 v3 = r) : Fr [(64, 20), (64, 21), (64, 22), (64, 23), (64, 24), (64, 25), (64, 26), (64, 28), (64, 29), (64, 30)] S r.2.2 := by
  rw [← e]
  exact vL_X12_score_24 n S v1 v3
set_option maxRecDepth 100000 in
theorem l_X12_score_24 {p : Program} {l : Launch} {e : Env} {s : State} {m : MethodId} {args : Array Value} {below : List Frame} {meth : Method} {c : Code} {G : GG} {Q : State → Prop} (hC : ACx p s m args meth c cX12_score RX12 4 (some .long)) (hSt : St G s)  : ∀ (n : Nat) (S : HSt) (v1 : Int64) (v3 : Int32), MS S → T_X12_score_24 n S v1 v3 → AW p l e (rmD 5 0 0) s m args below meth c G 4 Q (L_X12_score_24 n S v1 v3).2.2 0 0 86 [(0, .ref 64), (1, .long (L_X12_score_24 n S v1 v3).1), (3, .int (L_X12_score_24 n S v1 v3).2.1)] [] → AW p l e (rmD 5 0 0) s m args below meth c G 4 Q S 0 0 24 [(0, .ref 64), (1, .long v1), (3, .int v3)] [] := by
  intro n
  induction n with
  | zero => intro S v1 v3 _ hT; exact hT.elim
  | succ n ih =>
    intro S v1 v3 hM hT hk
    unfold T_X12_score_24 at hT
    obtain ⟨h0, h1, h2, h3, h4, h5⟩ := hT
    refine aw_iload_n hC 2 dX12_score_24 rfl rfl ?_
    refine aw_aload_n hC 0 dX12_score_25 rfl rfl ?_
    refine aw_getP (b := 68) hC hSt 5 (ms_lt 64 (by decide) hM) (ms_k 64 12 0 (by decide) hM) rfl (by decide) w_920 rfl (ms_p 5 68 (by decide) hM) dX12_score_26 ?_
    refine aw_iconst (v := 5) hC dX12_score_29 (by decide) ?_
    refine aw_iald hC hSt (ms_lt 68 (by decide) hM) (ms_k 68 14 172 (by decide) hM) (vp_len (n := 172) (ms_l 68 14 172 (by decide) hM) (by unfold vp_in; decide)) dX12_score_30 ?_
    refine aw_icmp_ge hC 86 dX12_score_31 (by decide) (fun c1004 => ?_) (fun c1004 => ?_)
    · refine aw_sub [0, 1, 2] rfl ?_
      have E : L_X12_score_24 (n + 1) S v1 v3 = _ := (if_pos c1004).trans (rfl)
      rw [E] at hk
      exact hk
    · refine aw_lload_n hC 1 dX12_score_34 rfl rfl ?_
      refine aw_aload_n hC 0 dX12_score_35 rfl rfl ?_
      refine aw_iload_n hC 2 dX12_score_36 rfl rfl ?_
      refine aw_cV1r hC hSt (t_X12_isThrow G l hM _ (h0 c1004)) w_1189 w_1191 w_1192 w_1193 w_953 rfl rfl (by decide +kernel) ⟨Nat.le_of_ble_eq_true rfl, Nat.le_of_ble_eq_true rfl⟩ (ms_lt 64 (by decide) hM) (ms_k 64 12 0 (by decide) hM) rfl (Nat.le_of_ble_eq_true rfl) dX12_score_37 ⟨Nat.zero_le _, Nat.zero_le _⟩ ?_
      refine aw_cut (S' := (if (f_X12_isThrow S 64 v3) = 0 then S else (bd ((if (f_X12_deed S 64 v3 (0 : Int32)) = (5 : Int32) then (1 : Int32) else (0 : Int32))) fun x1007 => bd (f_X12_counts S 64 x1007 (f_X12_deed S 64 v3 (1 : Int32))) fun r1008 => r1008.2))) (pc' := 73) (lv' := [(0, .ref 64), (1, .long v1), (3, .int v3)]) (st' := [.long (if (f_X12_isThrow S 64 v3) = 0 then (0 : Int64) else (bd ((if (f_X12_deed S 64 v3 (0 : Int32)) = (5 : Int32) then (1 : Int32) else (0 : Int32))) fun x1007 => bd (f_X12_counts S 64 x1007 (f_X12_deed S 64 v3 (1 : Int32))) fun r1008 => r1008.1.toInt64)), .long v1]) ?_ (fun Jc1005 => ?_)
      · generalize ex1009 : (if (f_X12_isThrow S 64 v3) = 0 then (0 : Int64) else (bd ((if (f_X12_deed S 64 v3 (0 : Int32)) = (5 : Int32) then (1 : Int32) else (0 : Int32))) fun x1007 => bd (f_X12_counts S 64 x1007 (f_X12_deed S 64 v3 (1 : Int32))) fun r1008 => r1008.1.toInt64)) = x1009
        generalize eS1010 : (if (f_X12_isThrow S 64 v3) = 0 then S else (bd ((if (f_X12_deed S 64 v3 (0 : Int32)) = (5 : Int32) then (1 : Int32) else (0 : Int32))) fun x1007 => bd (f_X12_counts S 64 x1007 (f_X12_deed S 64 v3 (1 : Int32))) fun r1008 => r1008.2)) = S1010
        have hM : MS S1010 := MS.of (by rw [← eS1010]; repeat' (first | with_reducible rfl | with_reducible refine (q_X12_counts _ _ _ _).trans ?_ | with_reducible refine (q_X12_doAct _ _ _).trans ?_ | with_reducible refine (shp_sI _ _ _ _).trans ?_ | with_reducible refine (shp_sJ _ _ _ _).trans ?_ | with_reducible refine shi ?_ ?_ | with_reducible refine shb (fun _ _ => ?_) | (subst_vars; with_reducible rfl) | (subst_vars; with_reducible refine (q_X12_counts _ _ _ _).trans ?_) | (subst_vars; with_reducible refine (q_X12_doAct _ _ _).trans ?_) | (subst_vars; with_reducible refine (shp_sI _ _ _ _).trans ?_) | (subst_vars; with_reducible refine (shp_sJ _ _ _ _).trans ?_) | (subst_vars; with_reducible refine shi ?_ ?_) | (subst_vars; with_reducible refine shb (fun _ _ => ?_)))) hM
        refine aw_ladd hC dX12_score_73 ?_
        refine aw_lstore_n hC [(1, .long _), (0, .ref 64), (3, .int _)] dX12_score_74 rfl (by decide) rfl ?_
        generalize ex1011 : (v1 + x1009) = x1011
        refine aw_aload_n hC 1 dX12_score_75 rfl rfl ?_
        refine aw_iload_n hC 2 dX12_score_76 rfl rfl ?_
        refine aw_cV1v hC hSt (t_X12_doAct G l hM _ (h4 c1004 x1009 ex1009 S1010 eS1010 x1011 ex1011)) w_1184 w_1185 w_1186 w_1187 w_953 rfl rfl (by decide +kernel) ⟨Nat.le_of_ble_eq_true rfl, Nat.le_of_ble_eq_true rfl⟩ (ms_lt 64 (by decide) hM) (ms_k 64 12 0 (by decide) hM) rfl (Nat.le_of_ble_eq_true rfl) dX12_score_77 ⟨Nat.zero_le _, Nat.zero_le _⟩ ?_
        generalize er1012 : f_X12_doAct S1010 64 v3 = r1012
        have hM : MS r1012 := MS.of (by rw [← er1012]; exact q_X12_doAct _ _ _) hM
        refine aw_iinc (v := (v3 + (1 : Int32))) hC 2 [(3, .int _), (1, .long _), (0, .ref 64)] dX12_score_80 rfl rfl (by decide) rfl ?_
        refine aw_goto hC 24 dX12_score_83 (by decide) ?_
        refine aw_sub [2, 1, 0] rfl ?_
        have hTn := (h5 c1004 x1009 ex1009 S1010 eS1010 x1011 ex1011 r1012 er1012)
        have hMn : MS r1012 := hM
        have E : L_X12_score_24 (n + 1) S v1 v3 = _ := (if_neg c1004).trans ((bd_eq ex1009).trans ((bd_eq eS1010).trans ((bd_eq ex1011).trans ((bd_eq er1012).trans (rfl)))))
        rw [E] at hk
        exact ih _ _ _ hMn hTn hk
      · refine aw_if_eq hC 72 dX12_score_40 (by decide) (fun c1005 => ?_) (fun c1005 => ?_)
        · refine aw_lconst (v := 0) hC dX12_score_72 (by decide) ?_
          simp only [bd_def, if_pos c1005] at Jc1005 ⊢
          exact Jc1005
        · refine aw_aload_n hC 0 dX12_score_43 rfl rfl ?_
          refine aw_aload_n hC 0 dX12_score_44 rfl rfl ?_
          refine aw_iload_n hC 2 dX12_score_45 rfl rfl ?_
          refine aw_iconst (v := 0) hC dX12_score_46 (by decide) ?_
          refine aw_cV2r hC hSt (t_X12_deed G l hM _ _ (h1 c1004 c1005)) w_1080 w_1088 w_1089 w_1090 w_953 rfl rfl (by decide +kernel) ⟨Nat.le_of_ble_eq_true rfl, Nat.le_of_ble_eq_true rfl⟩ (ms_lt 64 (by decide) hM) (ms_k 64 12 0 (by decide) hM) rfl (Nat.le_of_ble_eq_true rfl) dX12_score_47 ⟨Nat.zero_le _, Nat.zero_le _⟩ ?_
          refine aw_iconst (v := 5) hC dX12_score_50 (by decide) ?_
          refine aw_cut (S' := S) (pc' := 59) (lv' := [(0, .ref 64), (1, .long v1), (3, .int v3)]) (st' := [.int (if (f_X12_deed S 64 v3 (0 : Int32)) = (5 : Int32) then (1 : Int32) else (0 : Int32)), .ref 64, .long v1]) ?_ (fun Jc1006 => ?_)
          · generalize ex1007 : (if (f_X12_deed S 64 v3 (0 : Int32)) = (5 : Int32) then (1 : Int32) else (0 : Int32)) = x1007
            refine aw_aload_n hC 0 dX12_score_59 rfl rfl ?_
            refine aw_iload_n hC 2 dX12_score_60 rfl rfl ?_
            refine aw_iconst (v := 1) hC dX12_score_61 (by decide) ?_
            refine aw_cV2r hC hSt (t_X12_deed G l hM _ _ (h2 c1004 c1005 x1007 ex1007)) w_1080 w_1088 w_1089 w_1090 w_953 rfl rfl (by decide +kernel) ⟨Nat.le_of_ble_eq_true rfl, Nat.le_of_ble_eq_true rfl⟩ (ms_lt 64 (by decide) hM) (ms_k 64 12 0 (by decide) hM) rfl (Nat.le_of_ble_eq_true rfl) dX12_score_62 ⟨Nat.zero_le _, Nat.zero_le _⟩ ?_
            refine aw_cV2r hC hSt (t_X12_counts G l hM _ _ (h3 c1004 c1005 x1007 ex1007)) w_1146 w_1195 w_1196 w_1197 w_953 rfl rfl (by decide +kernel) ⟨Nat.le_of_ble_eq_true rfl, Nat.le_of_ble_eq_true rfl⟩ (ms_lt 64 (by decide) hM) (ms_k 64 12 0 (by decide) hM) rfl (Nat.le_of_ble_eq_true rfl) dX12_score_65 ⟨Nat.zero_le _, Nat.zero_le _⟩ ?_
            generalize er1008 : f_X12_counts S 64 x1007 (f_X12_deed S 64 v3 (1 : Int32)) = r1008
            have hM : MS r1008.2 := MS.of (by rw [← er1008]; exact q_X12_counts _ _ _ _) hM
            refine aw_i2l hC dX12_score_68 ?_
            refine aw_goto hC 73 dX12_score_69 (by decide) ?_
            subst er1008
            subst ex1007
            simp only [bd_def, if_neg c1005] at Jc1005 ⊢
            exact Jc1005
          · refine aw_icmp_ne hC 58 dX12_score_51 (by decide) (fun c1006 => ?_) (fun c1006 => ?_)
            · refine aw_iconst (v := 0) hC dX12_score_58 (by decide) ?_
              simp only [bd_def, if_neg c1006] at Jc1006 ⊢
              exact Jc1006
            · refine aw_iconst (v := 1) hC dX12_score_54 (by decide) ?_
              refine aw_goto hC 59 dX12_score_55 (by decide) ?_
              simp only [bd_def, if_pos c1006] at Jc1006 ⊢
              exact Jc1006
noncomputable def f_X12_score (S : HSt) (_o : Nat)  : Int64 × HSt := bd ((sI S 64 0 (0 : Int32))) fun S1 => if (gI S1 64 7) = 0 then (pr ((-9000000000000000002 : Int64)) (S1)) else (bd (f_X12_first S1 64) fun r3 => bd (L_X12_score_24 1000 r3 (0 : Int64) (0 : Int32)) fun r4 => pr (r4.1) (r4.2.2))
def p_X12_score (S : HSt) (_o : Nat)  : Prop := (∀ S1 : HSt, (sI S 64 0 (0 : Int32)) = S1 → (¬ (gI S1 64 7) = 0) → ∀ r3, f_X12_first S1 64 = r3 → T_X12_score_24 1000 r3 (0 : Int64) (0 : Int32))
set_option maxRecDepth 100000 in
theorem t_X12_score (G : GG) (l : Launch) {S : HSt} (hM : MS S)  (hp : p_X12_score S 64) : AM G l yX12_score cX12_score 4 (some .long) (rmD 5 0 0) 0 0 [.ref 64] S (FP (some (.long (f_X12_score S 64).1)) ((f_X12_score S 64).2)) := by
  have h0 := hp
  unfold p_X12_score at h0
  refine AM.mk (by decide) (Nat.le_of_ble_eq_true rfl) ?_
  intro p e s m below meth c hC hSt _
  refine aw_aload_n hC 0 dX12_score_0 rfl rfl ?_
  refine aw_iconst (v := 0) hC dX12_score_1 (by decide) ?_
  refine aw_putI hC hSt 0 (ms_lt 64 (by decide) hM) (ms_k 64 12 0 (by decide) hM) rfl (by decide) w_955 rfl rfl rfl rfl dX12_score_2 ?_
  generalize eS1 : (sI S 64 0 (0 : Int32)) = S1
  have hM : MS S1 := MS.of (by rw [← eS1]; exact shp_sI _ _ _ _) hM
  refine aw_aload_n hC 0 dX12_score_5 rfl rfl ?_
  refine aw_getI hC hSt 7 (ms_lt 64 (by decide) hM) (ms_k 64 12 0 (by decide) hM) rfl (by decide) w_1051 rfl dX12_score_6 ?_
  refine aw_if_ne hC 16 dX12_score_9 (by decide) (fun c2 => ?_) (fun c2 => ?_)
  · refine aw_aload_n hC 0 dX12_score_16 rfl rfl ?_
    refine aw_cV0v hC hSt (t_X12_first G l hM ) w_1031 w_1071 w_1072 w_1073 w_953 rfl rfl (by decide +kernel) ⟨Nat.le_of_ble_eq_true rfl, Nat.le_of_ble_eq_true rfl⟩ (ms_lt 64 (by decide) hM) (ms_k 64 12 0 (by decide) hM) rfl (Nat.le_of_ble_eq_true rfl) dX12_score_17 ⟨Nat.zero_le _, Nat.zero_le _⟩ ?_
    generalize er3 : f_X12_first S1 64 = r3
    have hM : MS r3 := MS.of (by rw [← er3]; exact q_X12_first _ _) hM
    refine aw_lconst (v := 0) hC dX12_score_20 (by decide) ?_
    refine aw_lstore_n hC [(1, .long _), (0, .ref 64)] dX12_score_21 rfl (by decide) rfl ?_
    refine aw_iconst (v := 0) hC dX12_score_22 (by decide) ?_
    refine aw_istore_n hC [(3, .int _), (1, .long _), (0, .ref 64)] dX12_score_23 rfl (by decide) rfl ?_
    refine aw_sub [2, 1, 0] rfl ?_
    refine l_X12_score_24 hC hSt 1000 _ _ _ hM (h0 S1 eS1 c2 r3 er3) ?_
    generalize er4 : L_X12_score_24 1000 r3 (0 : Int64) (0 : Int32) = r4
    have hM : MS r4.2.2 := MS.of (by rw [← er4]; exact qL_X12_score_24 _ _ _ _) hM
    refine aw_lload_n hC 1 dX12_score_86 rfl rfl ?_
    refine aw_lret hC dX12_score_87 (Nat.le_refl _) (Nat.le_refl _) ?_
    exact FP.qJ ((bd_eq eS1).trans ((if_neg c2).trans ((bd_eq er3).trans ((bd_eq er4).trans (rfl)))))
  · refine aw_ldc2 (v := -9000000000000000002) hC w_1151 dX12_score_12 ?_
    refine aw_lret hC dX12_score_15 (Nat.le_refl _) (Nat.le_refl _) ?_
    exact FP.qJ ((bd_eq eS1).trans ((if_pos c2).trans (rfl)))
theorem q_X12_score (S : HSt) (_o : Nat)  : shp ((f_X12_score S _o).2) = shp S := by
  unfold f_X12_score
  repeat' (first | with_reducible refine shpr1 ?_ | with_reducible rfl | with_reducible refine (q_X12_counts _ _ _ _).trans ?_ | with_reducible refine (q_X12_doAct _ _ _).trans ?_ | with_reducible refine (q_X12_first _ _).trans ?_ | with_reducible refine (qL_X12_score_24 _ _ _ _).trans ?_ | with_reducible refine (shp_sI _ _ _ _).trans ?_ | with_reducible refine (shp_sJ _ _ _ _).trans ?_ | with_reducible refine shi ?_ ?_ | with_reducible refine shb (fun _ _ => ?_) | with_reducible refine shiP (fun q : Int64 × HSt => q.2) ?_ ?_ | with_reducible refine shbP (fun q : Int64 × HSt => q.2) (fun _ _ => ?_) | (subst_vars; with_reducible rfl) | (subst_vars; with_reducible refine (q_X12_counts _ _ _ _).trans ?_) | (subst_vars; with_reducible refine (q_X12_doAct _ _ _).trans ?_) | (subst_vars; with_reducible refine (q_X12_first _ _).trans ?_) | (subst_vars; with_reducible refine (qL_X12_score_24 _ _ _ _).trans ?_) | (subst_vars; with_reducible refine (shp_sI _ _ _ _).trans ?_) | (subst_vars; with_reducible refine (shp_sJ _ _ _ _).trans ?_) | (subst_vars; with_reducible refine shi ?_ ?_) | (subst_vars; with_reducible refine shb (fun _ _ => ?_)))
theorem v_X12_score (S : HSt) (_o : Nat)  : Fr [(64, 0), (64, 20), (64, 21), (64, 22), (64, 23), (64, 24), (64, 25), (64, 26), (64, 28), (64, 29), (64, 30)] S ((f_X12_score S _o).2) := by
  unfold f_X12_score
  repeat' (first | with_reducible refine frpr1 ?_ | with_reducible exact Fr.refl _ _ | with_reducible refine Fr.lP (fun q : Int64 × HSt => q.2) (fun _ _ => ?_) | with_reducible refine Fr.iteP (fun q : Int64 × HSt => q.2) ?_ ?_ | with_reducible refine Fr.l1 (fun _ _ => ?_) | with_reducible refine Fr.ite ?_ ?_ | with_reducible refine Fr.sE (by assumption) (by first | decide | simp only [List.mem_cons, List.not_mem_nil, or_false, true_or, or_true, eq_self_iff_true]) ?_ | with_reducible refine Fr.jE (by assumption) ?_ | with_reducible refine Fr.rE (by assumption) (by first | decide | simp only [List.mem_cons, List.not_mem_nil, or_false, true_or, or_true, eq_self_iff_true]) ?_ | with_reducible refine Fr.iE (by assumption) ?_ ?_ | with_reducible refine Fr.tr (w_X12_counts _ _ _ _ _ (by assumption)) (by first | decide | simp only [List.mem_cons, List.not_mem_nil, or_false, forall_eq_or_imp, forall_eq, true_or, or_true, and_self, eq_self_iff_true]) ?_ | with_reducible refine Fr.tr (w_X12_doAct _ _ _ _ (by assumption)) (by first | decide | simp only [List.mem_cons, List.not_mem_nil, or_false, forall_eq_or_imp, forall_eq, true_or, or_true, and_self, eq_self_iff_true]) ?_ | with_reducible refine Fr.tr (w_X12_first _ _ _ (by assumption)) (by first | decide | simp only [List.mem_cons, List.not_mem_nil, or_false, forall_eq_or_imp, forall_eq, true_or, or_true, and_self, eq_self_iff_true]) ?_ | with_reducible refine Fr.tr (wL_X12_score_24 _ _ _ _ _ (by assumption)) (by first | decide | simp only [List.mem_cons, List.not_mem_nil, or_false, forall_eq_or_imp, forall_eq, true_or, or_true, and_self, eq_self_iff_true]) ?_)
theorem w_X12_score (S : HSt) (_o : Nat)  (r : Int64 × HSt) (e : f_X12_score S _o = r) : Fr [(64, 0), (64, 20), (64, 21), (64, 22), (64, 23), (64, 24), (64, 25), (64, 26), (64, 28), (64, 29), (64, 30)] S r.2 := by
  rw [← e]
  exact v_X12_score S _o
noncomputable def L_X12_lookBest_2 : Nat → HSt → Int32 → Int32 → Int32 × Int32 × HSt
  | 0, S, v1, v2 => (v1, v2, S)
  | n + 1, S, v1, v2 =>
    if (2 : Int32) ≤ v2 then ((pr (v1) (pr (v2) (S)))) else (bd ((if v2 = (1 : Int32) then (1 : Int32) else (0 : Int32))) fun x1003 => bd (f_X12_oddsOf S 64 x1003 v1) fun r1004 => bd (r1004.1) fun x1005 => bd ((if x1005 ≤ (gI r1004.2 64 32) then r1004.2 else (bd ((sI r1004.2 64 32 x1005)) fun S1007 => bd ((sI S1007 64 31 (((2 : Int32) * (gI S1007 64 24)) + v2))) fun S1008 => S1008))) fun S1009 => L_X12_lookBest_2 n S1009 v1 (v2 + (1 : Int32)))
def T_X12_lookBest_2 : Nat → HSt → Int32 → Int32 → Prop
  | 0, _, _, _ => False
  | n + 1, S, v1, v2 => ((¬ (2 : Int32) ≤ v2) → ∀ x1003 : Int32, (if v2 = (1 : Int32) then (1 : Int32) else (0 : Int32)) = x1003 → p_X12_oddsOf S 64 x1003 v1) ∧ ((¬ (2 : Int32) ≤ v2) → ∀ x1003 : Int32, (if v2 = (1 : Int32) then (1 : Int32) else (0 : Int32)) = x1003 → ∀ r1004, f_X12_oddsOf S 64 x1003 v1 = r1004 → ∀ x1005 : Int32, r1004.1 = x1005 → ∀ S1009 : HSt, (if x1005 ≤ (gI r1004.2 64 32) then r1004.2 else (bd ((sI r1004.2 64 32 x1005)) fun S1007 => bd ((sI S1007 64 31 (((2 : Int32) * (gI S1007 64 24)) + v2))) fun S1008 => S1008)) = S1009 → T_X12_lookBest_2 n S1009 v1 (v2 + (1 : Int32)))
theorem qL_X12_lookBest_2 : ∀ (n : Nat) (S : HSt) (v1 : Int32) (v2 : Int32), shp (L_X12_lookBest_2 n S v1 v2).2.2 = shp S := by
  intro n
  induction n with
  | zero => intros; rfl
  | succ n ih =>
    intro S v1 v2
    unfold L_X12_lookBest_2
    repeat' (first | with_reducible refine shpr2 ?_ | with_reducible rfl | with_reducible refine (ih _ _ _).trans ?_ | with_reducible refine (q_X12_oddsOf _ _ _ _).trans ?_ | with_reducible refine (shp_sI _ _ _ _).trans ?_ | with_reducible refine (shp_sJ _ _ _ _).trans ?_ | with_reducible refine shi ?_ ?_ | with_reducible refine shb (fun _ _ => ?_) | with_reducible refine shiP (fun q : Int32 × Int32 × HSt => q.2.2) ?_ ?_ | with_reducible refine shbP (fun q : Int32 × Int32 × HSt => q.2.2) (fun _ _ => ?_) | (subst_vars; with_reducible rfl) | (subst_vars; with_reducible refine (ih _ _ _).trans ?_) | (subst_vars; with_reducible refine (q_X12_oddsOf _ _ _ _).trans ?_) | (subst_vars; with_reducible refine (shp_sI _ _ _ _).trans ?_) | (subst_vars; with_reducible refine (shp_sJ _ _ _ _).trans ?_) | (subst_vars; with_reducible refine shi ?_ ?_) | (subst_vars; with_reducible refine shb (fun _ _ => ?_)))
theorem vL_X12_lookBest_2 : ∀ (n : Nat) (S : HSt) (v1 : Int32) (v2 : Int32), Fr [(64, 28), (64, 31), (64, 32)] S (L_X12_lookBest_2 n S v1 v2).2.2 := by
  intro n
  induction n with
  | zero => intros; exact Fr.refl _ _
  | succ n ih =>
    intro S v1 v2
    unfold L_X12_lookBest_2
    repeat' (first | with_reducible refine frpr2 ?_ | with_reducible exact Fr.refl _ _ | with_reducible refine Fr.lP (fun q : Int32 × Int32 × HSt => q.2.2) (fun _ _ => ?_) | with_reducible refine Fr.iteP (fun q : Int32 × Int32 × HSt => q.2.2) ?_ ?_ | with_reducible refine Fr.l1 (fun _ _ => ?_) | with_reducible refine Fr.ite ?_ ?_ | with_reducible refine Fr.sE (by assumption) (by first | decide | simp only [List.mem_cons, List.not_mem_nil, or_false, true_or, or_true, eq_self_iff_true]) ?_ | with_reducible refine Fr.jE (by assumption) ?_ | with_reducible refine Fr.rE (by assumption) (by first | decide | simp only [List.mem_cons, List.not_mem_nil, or_false, true_or, or_true, eq_self_iff_true]) ?_ | with_reducible refine Fr.iE (by assumption) ?_ ?_ | with_reducible refine Fr.tr (ih _ _ _) (by first | decide | simp only [List.mem_cons, List.not_mem_nil, or_false, forall_eq_or_imp, forall_eq, true_or, or_true, and_self, eq_self_iff_true]) ?_ | with_reducible refine Fr.tr (w_X12_oddsOf _ _ _ _ _ (by assumption)) (by first | decide | simp only [List.mem_cons, List.not_mem_nil, or_false, forall_eq_or_imp, forall_eq, true_or, or_true, and_self, eq_self_iff_true]) ?_)
theorem wL_X12_lookBest_2 (n : Nat) (S : HSt) (v1 : Int32) (v2 : Int32) (r : Int32 × Int32 × HSt) (e : L_X12_lookBest_2 n S v1 v2 = r) : Fr [(64, 28), (64, 31), (64, 32)] S r.2.2 := by
  rw [← e]
  exact vL_X12_lookBest_2 n S v1 v2
set_option maxRecDepth 100000 in
theorem l_X12_lookBest_2 {p : Program} {l : Launch} {e : Env} {s : State} {m : MethodId} {args : Array Value} {below : List Frame} {meth : Method} {c : Code} {G : GG} {Q : State → Prop} (hC : ACx p s m args meth c cX12_lookBest RX12 4 none) (hSt : St G s)  : ∀ (n : Nat) (S : HSt) (v1 : Int32) (v2 : Int32), MS S → T_X12_lookBest_2 n S v1 v2 → AW p l e (rmD 4 0 0) s m args below meth c G 4 Q (L_X12_lookBest_2 n S v1 v2).2.2 0 0 54 [(0, .ref 64), (1, .int (L_X12_lookBest_2 n S v1 v2).1), (2, .int (L_X12_lookBest_2 n S v1 v2).2.1)] [] → AW p l e (rmD 4 0 0) s m args below meth c G 4 Q S 0 0 2 [(0, .ref 64), (1, .int v1), (2, .int v2)] [] := by
  intro n
  induction n with
  | zero => intro S v1 v2 _ hT; exact hT.elim
  | succ n ih =>
    intro S v1 v2 hM hT hk
    unfold T_X12_lookBest_2 at hT
    obtain ⟨h0, h1⟩ := hT
    refine aw_iload_n hC 2 dX12_lookBest_2 rfl rfl ?_
    refine aw_iconst (v := 2) hC dX12_lookBest_3 (by decide) ?_
    refine aw_icmp_ge hC 54 dX12_lookBest_4 (by decide) (fun c1001 => ?_) (fun c1001 => ?_)
    · refine aw_sub [0, 1, 2] rfl ?_
      have E : L_X12_lookBest_2 (n + 1) S v1 v2 = _ := (if_pos c1001).trans (rfl)
      rw [E] at hk
      exact hk
    · refine aw_aload_n hC 0 dX12_lookBest_7 rfl rfl ?_
      refine aw_iload_n hC 2 dX12_lookBest_8 rfl rfl ?_
      refine aw_iconst (v := 1) hC dX12_lookBest_9 (by decide) ?_
      refine aw_cut (S' := S) (pc' := 18) (lv' := [(0, .ref 64), (1, .int v1), (2, .int v2)]) (st' := [.int (if v2 = (1 : Int32) then (1 : Int32) else (0 : Int32)), .ref 64]) ?_ (fun Jc1002 => ?_)
      · generalize ex1003 : (if v2 = (1 : Int32) then (1 : Int32) else (0 : Int32)) = x1003
        refine aw_iload_n hC 1 dX12_lookBest_18 rfl rfl ?_
        refine aw_cV2r hC hSt (t_X12_oddsOf G l hM _ _ (h0 c1001 x1003 ex1003)) w_1134 w_1140 w_1141 w_1142 w_953 rfl rfl (by decide +kernel) ⟨Nat.le_of_ble_eq_true rfl, Nat.le_of_ble_eq_true rfl⟩ (ms_lt 64 (by decide) hM) (ms_k 64 12 0 (by decide) hM) rfl (Nat.le_of_ble_eq_true rfl) dX12_lookBest_19 ⟨Nat.zero_le _, Nat.zero_le _⟩ ?_
        generalize er1004 : f_X12_oddsOf S 64 x1003 v1 = r1004
        have hM : MS r1004.2 := MS.of (by rw [← er1004]; exact q_X12_oddsOf _ _ _ _) hM
        refine aw_istore_n hC [(3, .int _), (0, .ref 64), (1, .int _), (2, .int _)] dX12_lookBest_22 rfl (by decide) rfl ?_
        generalize ex1005 : r1004.1 = x1005
        refine aw_iload_n hC 0 dX12_lookBest_23 rfl rfl ?_
        refine aw_aload_n hC 1 dX12_lookBest_24 rfl rfl ?_
        refine aw_getI hC hSt 32 (ms_lt 64 (by decide) hM) (ms_k 64 12 0 (by decide) hM) rfl (by decide) w_1199 rfl dX12_lookBest_25 ?_
        refine aw_cut (S' := (if x1005 ≤ (gI r1004.2 64 32) then r1004.2 else (bd ((sI r1004.2 64 32 x1005)) fun S1007 => bd ((sI S1007 64 31 (((2 : Int32) * (gI S1007 64 24)) + v2))) fun S1008 => S1008))) (pc' := 48) (lv' := [(3, .int x1005), (0, .ref 64), (1, .int v1), (2, .int v2)]) (st' := []) ?_ (fun Jc1006 => ?_)
        · generalize eS1009 : (if x1005 ≤ (gI r1004.2 64 32) then r1004.2 else (bd ((sI r1004.2 64 32 x1005)) fun S1007 => bd ((sI S1007 64 31 (((2 : Int32) * (gI S1007 64 24)) + v2))) fun S1008 => S1008)) = S1009
          have hM : MS S1009 := MS.of (by rw [← eS1009]; repeat' (first | with_reducible rfl | with_reducible refine (q_X12_oddsOf _ _ _ _).trans ?_ | with_reducible refine (shp_sI _ _ _ _).trans ?_ | with_reducible refine (shp_sJ _ _ _ _).trans ?_ | with_reducible refine shi ?_ ?_ | with_reducible refine shb (fun _ _ => ?_) | (subst_vars; with_reducible rfl) | (subst_vars; with_reducible refine (q_X12_oddsOf _ _ _ _).trans ?_) | (subst_vars; with_reducible refine (shp_sI _ _ _ _).trans ?_) | (subst_vars; with_reducible refine (shp_sJ _ _ _ _).trans ?_) | (subst_vars; with_reducible refine shi ?_ ?_) | (subst_vars; with_reducible refine shb (fun _ _ => ?_)))) hM
          refine aw_iinc (v := (v2 + (1 : Int32))) hC 3 [(2, .int _), (3, .int _), (0, .ref 64), (1, .int _)] dX12_lookBest_48 rfl rfl (by decide) rfl ?_
          refine aw_goto hC 2 dX12_lookBest_51 (by decide) ?_
          refine aw_sub [2, 3, 0] rfl ?_
          have hTn := (h1 c1001 x1003 ex1003 r1004 er1004 x1005 ex1005 S1009 eS1009)
          have hMn : MS S1009 := hM
          have E : L_X12_lookBest_2 (n + 1) S v1 v2 = _ := (if_neg c1001).trans ((bd_eq ex1003).trans ((bd_eq er1004).trans ((bd_eq ex1005).trans ((bd_eq eS1009).trans (rfl)))))
          rw [E] at hk
          exact ih _ _ _ hMn hTn hk
        · refine aw_icmp_le hC 48 dX12_lookBest_28 (by decide) (fun c1006 => ?_) (fun c1006 => ?_)
          · simp only [bd_def, if_pos c1006] at Jc1006 ⊢
            exact Jc1006
          · refine aw_aload_n hC 1 dX12_lookBest_31 rfl rfl ?_
            refine aw_iload_n hC 0 dX12_lookBest_32 rfl rfl ?_
            refine aw_putI hC hSt 32 (ms_lt 64 (by decide) hM) (ms_k 64 12 0 (by decide) hM) rfl (by decide) w_1199 rfl rfl rfl rfl dX12_lookBest_33 ?_
            generalize eS1007 : (sI r1004.2 64 32 x1005) = S1007
            have hM : MS S1007 := MS.of (by rw [← eS1007]; exact shp_sI _ _ _ _) hM
            refine aw_aload_n hC 1 dX12_lookBest_36 rfl rfl ?_
            refine aw_iconst (v := 2) hC dX12_lookBest_37 (by decide) ?_
            refine aw_aload_n hC 1 dX12_lookBest_38 rfl rfl ?_
            refine aw_getI hC hSt 24 (ms_lt 64 (by decide) hM) (ms_k 64 12 0 (by decide) hM) rfl (by decide) w_1036 rfl dX12_lookBest_39 ?_
            refine aw_imul hC dX12_lookBest_42 ?_
            refine aw_iload_n hC 3 dX12_lookBest_43 rfl rfl ?_
            refine aw_iadd hC dX12_lookBest_44 ?_
            refine aw_putI hC hSt 31 (ms_lt 64 (by decide) hM) (ms_k 64 12 0 (by decide) hM) rfl (by decide) w_1200 rfl rfl rfl rfl dX12_lookBest_45 ?_
            generalize eS1008 : (sI S1007 64 31 (((2 : Int32) * (gI S1007 64 24)) + v2)) = S1008
            have hM : MS S1008 := MS.of (by rw [← eS1008]; exact shp_sI _ _ _ _) hM
            subst eS1008
            subst eS1007
            simp only [bd_def, if_neg c1006] at Jc1006 ⊢
            exact Jc1006
      · refine aw_icmp_ne hC 17 dX12_lookBest_10 (by decide) (fun c1002 => ?_) (fun c1002 => ?_)
        · refine aw_iconst (v := 0) hC dX12_lookBest_17 (by decide) ?_
          simp only [bd_def, if_neg c1002] at Jc1002 ⊢
          exact Jc1002
        · refine aw_iconst (v := 1) hC dX12_lookBest_13 (by decide) ?_
          refine aw_goto hC 18 dX12_lookBest_14 (by decide) ?_
          simp only [bd_def, if_pos c1002] at Jc1002 ⊢
          exact Jc1002
noncomputable def f_X12_lookBest (S : HSt) (_o : Nat) (a1 : Int32) : HSt := bd (L_X12_lookBest_2 1000 S a1 (0 : Int32)) fun r1 => r1.2.2
def p_X12_lookBest (S : HSt) (_o : Nat) (a1 : Int32) : Prop := (T_X12_lookBest_2 1000 S a1 (0 : Int32))
set_option maxRecDepth 100000 in
theorem t_X12_lookBest (G : GG) (l : Launch) {S : HSt} (hM : MS S) (a1 : Int32) (hp : p_X12_lookBest S 64 a1) : AM G l yX12_lookBest cX12_lookBest 4 none (rmD 4 0 0) 0 0 [.ref 64, .int a1] S (FP none (f_X12_lookBest S 64 a1)) := by
  have h0 := hp
  unfold p_X12_lookBest at h0
  refine AM.mk (by decide) (Nat.le_of_ble_eq_true rfl) ?_
  intro p e s m below meth c hC hSt _
  refine aw_iconst (v := 0) hC dX12_lookBest_0 (by decide) ?_
  refine aw_istore_n hC [(2, .int _), (0, .ref 64), (1, .int _)] dX12_lookBest_1 rfl (by decide) rfl ?_
  refine aw_sub [1, 2, 0] rfl ?_
  refine l_X12_lookBest_2 hC hSt 1000 _ _ _ hM (h0) ?_
  generalize er1 : L_X12_lookBest_2 1000 S a1 (0 : Int32) = r1
  have hM : MS r1.2.2 := MS.of (by rw [← er1]; exact qL_X12_lookBest_2 _ _ _ _) hM
  refine aw_vret hC dX12_lookBest_54 (Nat.le_refl _) (Nat.le_refl _) ?_
  exact FP.qV ((bd_eq er1).trans (rfl))
theorem q_X12_lookBest (S : HSt) (_o : Nat) (a1 : Int32) : shp (f_X12_lookBest S _o a1) = shp S := by
  unfold f_X12_lookBest
  repeat' (first | with_reducible rfl | with_reducible refine (q_X12_oddsOf _ _ _ _).trans ?_ | with_reducible refine (qL_X12_lookBest_2 _ _ _ _).trans ?_ | with_reducible refine (shp_sI _ _ _ _).trans ?_ | with_reducible refine (shp_sJ _ _ _ _).trans ?_ | with_reducible refine shi ?_ ?_ | with_reducible refine shb (fun _ _ => ?_) | (subst_vars; with_reducible rfl) | (subst_vars; with_reducible refine (q_X12_oddsOf _ _ _ _).trans ?_) | (subst_vars; with_reducible refine (qL_X12_lookBest_2 _ _ _ _).trans ?_) | (subst_vars; with_reducible refine (shp_sI _ _ _ _).trans ?_) | (subst_vars; with_reducible refine (shp_sJ _ _ _ _).trans ?_) | (subst_vars; with_reducible refine shi ?_ ?_) | (subst_vars; with_reducible refine shb (fun _ _ => ?_)))
theorem v_X12_lookBest (S : HSt) (_o : Nat) (a1 : Int32) : Fr [(64, 28), (64, 31), (64, 32)] S (f_X12_lookBest S _o a1) := by
  unfold f_X12_lookBest
  repeat' (first | with_reducible exact Fr.refl _ _ | with_reducible refine Fr.l1 (fun _ _ => ?_) | with_reducible refine Fr.ite ?_ ?_ | with_reducible refine Fr.sE (by assumption) (by first | decide | simp only [List.mem_cons, List.not_mem_nil, or_false, true_or, or_true, eq_self_iff_true]) ?_ | with_reducible refine Fr.jE (by assumption) ?_ | with_reducible refine Fr.rE (by assumption) (by first | decide | simp only [List.mem_cons, List.not_mem_nil, or_false, true_or, or_true, eq_self_iff_true]) ?_ | with_reducible refine Fr.iE (by assumption) ?_ ?_ | with_reducible refine Fr.tr (w_X12_oddsOf _ _ _ _ _ (by assumption)) (by first | decide | simp only [List.mem_cons, List.not_mem_nil, or_false, forall_eq_or_imp, forall_eq, true_or, or_true, and_self, eq_self_iff_true]) ?_ | with_reducible refine Fr.tr (wL_X12_lookBest_2 _ _ _ _ _ (by assumption)) (by first | decide | simp only [List.mem_cons, List.not_mem_nil, or_false, forall_eq_or_imp, forall_eq, true_or, or_true, and_self, eq_self_iff_true]) ?_)
theorem w_X12_lookBest (S : HSt) (_o : Nat) (a1 : Int32) (r : HSt) (e : f_X12_lookBest S _o a1 = r) : Fr [(64, 28), (64, 31), (64, 32)] S r := by
  rw [← e]
  exact v_X12_lookBest S _o a1
noncomputable def L_X12_best_74 : Nat → HSt → Int32 → Int32 → Int32 → Int32 → Int32 × Int32 × Int32 × Int32 × HSt
  | 0, S, v1, v2, v3, v4 => (v1, v2, v3, v4, S)
  | n + 1, S, v1, v2, v3, v4 =>
    if (f_X12_deed S 64 v3 (1 : Int32)) ≤ v4 then ((pr (v1) (pr (v2) (pr (v3) (pr (v4) (S)))))) else (if (f_X12_isStill S 64) = 0 then (bd ((if (f_X12_deed S 64 v3 (0 : Int32)) = (3 : Int32) then (1 : Int32) else (0 : Int32))) fun x2013 => bd (f_X12_doTick S 64 x2013 (f_X12_deed S 64 v3 (2 : Int32)) (f_X12_deed S 64 v3 (3 : Int32)) (f_X12_deed S 64 v3 (4 : Int32))) fun r2014 => bd (f_X12_lookBest r2014 64 v1) fun r2015 => L_X12_best_74 n r2015 v1 v2 v3 (v4 + (1 : Int32))) else ((pr (v1) (pr (v2) (pr (v3) (pr (v4) (S)))))))
def T_X12_best_74 : Nat → HSt → Int32 → Int32 → Int32 → Int32 → Prop
  | 0, _, _, _, _, _ => False
  | n + 1, S, v1, v2, v3, v4 => (p_X12_deed S 64 v3 (1 : Int32)) ∧ ((¬ (f_X12_deed S 64 v3 (1 : Int32)) ≤ v4) → ((f_X12_isStill S 64) = 0) → p_X12_deed S 64 v3 (0 : Int32)) ∧ ((¬ (f_X12_deed S 64 v3 (1 : Int32)) ≤ v4) → ((f_X12_isStill S 64) = 0) → ∀ x2013 : Int32, (if (f_X12_deed S 64 v3 (0 : Int32)) = (3 : Int32) then (1 : Int32) else (0 : Int32)) = x2013 → p_X12_deed S 64 v3 (2 : Int32)) ∧ ((¬ (f_X12_deed S 64 v3 (1 : Int32)) ≤ v4) → ((f_X12_isStill S 64) = 0) → ∀ x2013 : Int32, (if (f_X12_deed S 64 v3 (0 : Int32)) = (3 : Int32) then (1 : Int32) else (0 : Int32)) = x2013 → p_X12_deed S 64 v3 (3 : Int32)) ∧ ((¬ (f_X12_deed S 64 v3 (1 : Int32)) ≤ v4) → ((f_X12_isStill S 64) = 0) → ∀ x2013 : Int32, (if (f_X12_deed S 64 v3 (0 : Int32)) = (3 : Int32) then (1 : Int32) else (0 : Int32)) = x2013 → p_X12_deed S 64 v3 (4 : Int32)) ∧ ((¬ (f_X12_deed S 64 v3 (1 : Int32)) ≤ v4) → ((f_X12_isStill S 64) = 0) → ∀ x2013 : Int32, (if (f_X12_deed S 64 v3 (0 : Int32)) = (3 : Int32) then (1 : Int32) else (0 : Int32)) = x2013 → p_X12_doTick S 64 x2013 (f_X12_deed S 64 v3 (2 : Int32)) (f_X12_deed S 64 v3 (3 : Int32)) (f_X12_deed S 64 v3 (4 : Int32))) ∧ ((¬ (f_X12_deed S 64 v3 (1 : Int32)) ≤ v4) → ((f_X12_isStill S 64) = 0) → ∀ x2013 : Int32, (if (f_X12_deed S 64 v3 (0 : Int32)) = (3 : Int32) then (1 : Int32) else (0 : Int32)) = x2013 → ∀ r2014, f_X12_doTick S 64 x2013 (f_X12_deed S 64 v3 (2 : Int32)) (f_X12_deed S 64 v3 (3 : Int32)) (f_X12_deed S 64 v3 (4 : Int32)) = r2014 → p_X12_lookBest r2014 64 v1) ∧ ((¬ (f_X12_deed S 64 v3 (1 : Int32)) ≤ v4) → ((f_X12_isStill S 64) = 0) → ∀ x2013 : Int32, (if (f_X12_deed S 64 v3 (0 : Int32)) = (3 : Int32) then (1 : Int32) else (0 : Int32)) = x2013 → ∀ r2014, f_X12_doTick S 64 x2013 (f_X12_deed S 64 v3 (2 : Int32)) (f_X12_deed S 64 v3 (3 : Int32)) (f_X12_deed S 64 v3 (4 : Int32)) = r2014 → ∀ r2015, f_X12_lookBest r2014 64 v1 = r2015 → T_X12_best_74 n r2015 v1 v2 v3 (v4 + (1 : Int32)))
theorem qL_X12_best_74 : ∀ (n : Nat) (S : HSt) (v1 : Int32) (v2 : Int32) (v3 : Int32) (v4 : Int32), shp (L_X12_best_74 n S v1 v2 v3 v4).2.2.2.2 = shp S := by
  intro n
  induction n with
  | zero => intros; rfl
  | succ n ih =>
    intro S v1 v2 v3 v4
    unfold L_X12_best_74
    repeat' (first | with_reducible refine shpr4 ?_ | with_reducible rfl | with_reducible refine (ih _ _ _ _ _).trans ?_ | with_reducible refine (q_X12_doTick _ _ _ _ _ _).trans ?_ | with_reducible refine (q_X12_first _ _).trans ?_ | with_reducible refine (q_X12_lookBest _ _ _).trans ?_ | with_reducible refine (shp_sI _ _ _ _).trans ?_ | with_reducible refine (shp_sJ _ _ _ _).trans ?_ | with_reducible refine shi ?_ ?_ | with_reducible refine shb (fun _ _ => ?_) | with_reducible refine shiP (fun q : Int32 × Int32 × Int32 × Int32 × HSt => q.2.2.2.2) ?_ ?_ | with_reducible refine shbP (fun q : Int32 × Int32 × Int32 × Int32 × HSt => q.2.2.2.2) (fun _ _ => ?_) | (subst_vars; with_reducible rfl) | (subst_vars; with_reducible refine (ih _ _ _ _ _).trans ?_) | (subst_vars; with_reducible refine (q_X12_doTick _ _ _ _ _ _).trans ?_) | (subst_vars; with_reducible refine (q_X12_first _ _).trans ?_) | (subst_vars; with_reducible refine (q_X12_lookBest _ _ _).trans ?_) | (subst_vars; with_reducible refine (shp_sI _ _ _ _).trans ?_) | (subst_vars; with_reducible refine (shp_sJ _ _ _ _).trans ?_) | (subst_vars; with_reducible refine shi ?_ ?_) | (subst_vars; with_reducible refine shb (fun _ _ => ?_)))
theorem vL_X12_best_74 : ∀ (n : Nat) (S : HSt) (v1 : Int32) (v2 : Int32) (v3 : Int32) (v4 : Int32), Fr [(64, 20), (64, 21), (64, 22), (64, 23), (64, 24), (64, 25), (64, 26), (64, 28), (64, 31), (64, 32)] S (L_X12_best_74 n S v1 v2 v3 v4).2.2.2.2 := by
  intro n
  induction n with
  | zero => intros; exact Fr.refl _ _
  | succ n ih =>
    intro S v1 v2 v3 v4
    unfold L_X12_best_74
    repeat' (first | with_reducible refine frpr4 ?_ | with_reducible exact Fr.refl _ _ | with_reducible refine Fr.lP (fun q : Int32 × Int32 × Int32 × Int32 × HSt => q.2.2.2.2) (fun _ _ => ?_) | with_reducible refine Fr.iteP (fun q : Int32 × Int32 × Int32 × Int32 × HSt => q.2.2.2.2) ?_ ?_ | with_reducible refine Fr.l1 (fun _ _ => ?_) | with_reducible refine Fr.ite ?_ ?_ | with_reducible refine Fr.sE (by assumption) (by first | decide | simp only [List.mem_cons, List.not_mem_nil, or_false, true_or, or_true, eq_self_iff_true]) ?_ | with_reducible refine Fr.jE (by assumption) ?_ | with_reducible refine Fr.rE (by assumption) (by first | decide | simp only [List.mem_cons, List.not_mem_nil, or_false, true_or, or_true, eq_self_iff_true]) ?_ | with_reducible refine Fr.iE (by assumption) ?_ ?_ | with_reducible refine Fr.tr (ih _ _ _ _ _) (by first | decide | simp only [List.mem_cons, List.not_mem_nil, or_false, forall_eq_or_imp, forall_eq, true_or, or_true, and_self, eq_self_iff_true]) ?_ | with_reducible refine Fr.tr (w_X12_doTick _ _ _ _ _ _ _ (by assumption)) (by first | decide | simp only [List.mem_cons, List.not_mem_nil, or_false, forall_eq_or_imp, forall_eq, true_or, or_true, and_self, eq_self_iff_true]) ?_ | with_reducible refine Fr.tr (w_X12_first _ _ _ (by assumption)) (by first | decide | simp only [List.mem_cons, List.not_mem_nil, or_false, forall_eq_or_imp, forall_eq, true_or, or_true, and_self, eq_self_iff_true]) ?_ | with_reducible refine Fr.tr (w_X12_lookBest _ _ _ _ (by assumption)) (by first | decide | simp only [List.mem_cons, List.not_mem_nil, or_false, forall_eq_or_imp, forall_eq, true_or, or_true, and_self, eq_self_iff_true]) ?_)
theorem wL_X12_best_74 (n : Nat) (S : HSt) (v1 : Int32) (v2 : Int32) (v3 : Int32) (v4 : Int32) (r : Int32 × Int32 × Int32 × Int32 × HSt) (e : L_X12_best_74 n S v1 v2 v3 v4 = r) : Fr [(64, 20), (64, 21), (64, 22), (64, 23), (64, 24), (64, 25), (64, 26), (64, 28), (64, 31), (64, 32)] S r.2.2.2.2 := by
  rw [← e]
  exact vL_X12_best_74 n S v1 v2 v3 v4
set_option maxRecDepth 100000 in
theorem l_X12_best_74 {p : Program} {l : Launch} {e : Env} {s : State} {m : MethodId} {args : Array Value} {below : List Frame} {meth : Method} {c : Code} {G : GG} {Q : State → Prop} (hC : ACx p s m args meth c cX12_best RX12 5 (some .long)) (hSt : St G s)  : ∀ (n : Nat) (S : HSt) (v1 : Int32) (v2 : Int32) (v3 : Int32) (v4 : Int32), MS S → T_X12_best_74 n S v1 v2 v3 v4 → AW p l e (rmD 5 0 0) s m args below meth c G 5 Q (L_X12_best_74 n S v1 v2 v3 v4).2.2.2.2 0 0 140 [(0, .ref 64), (1, .int (L_X12_best_74 n S v1 v2 v3 v4).1), (2, .int (L_X12_best_74 n S v1 v2 v3 v4).2.1), (3, .int (L_X12_best_74 n S v1 v2 v3 v4).2.2.1), (4, .int (L_X12_best_74 n S v1 v2 v3 v4).2.2.2.1)] [] → AW p l e (rmD 5 0 0) s m args below meth c G 5 Q S 0 0 74 [(0, .ref 64), (1, .int v1), (2, .int v2), (3, .int v3), (4, .int v4)] [] := by
  intro n
  induction n with
  | zero => intro S v1 v2 v3 v4 _ hT; exact hT.elim
  | succ n ih =>
    intro S v1 v2 v3 v4 hM hT hk
    unfold T_X12_best_74 at hT
    obtain ⟨h0, h1, h2, h3, h4, h5, h6, h7⟩ := hT
    refine aw_iload hC 4 dX12_best_74 rfl ?_
    refine aw_aload_n hC 0 dX12_best_76 rfl rfl ?_
    refine aw_iload_n hC 3 dX12_best_77 rfl rfl ?_
    refine aw_iconst (v := 1) hC dX12_best_78 (by decide) ?_
    refine aw_cV2r hC hSt (t_X12_deed G l hM _ _ (h0)) w_1080 w_1088 w_1089 w_1090 w_953 rfl rfl (by decide +kernel) ⟨Nat.le_of_ble_eq_true rfl, Nat.le_of_ble_eq_true rfl⟩ (ms_lt 64 (by decide) hM) (ms_k 64 12 0 (by decide) hM) rfl (Nat.le_of_ble_eq_true rfl) dX12_best_79 ⟨Nat.zero_le _, Nat.zero_le _⟩ ?_
    refine aw_icmp_ge hC 140 dX12_best_82 (by decide) (fun c2010 => ?_) (fun c2010 => ?_)
    · refine aw_sub [0, 1, 2, 3, 4] rfl ?_
      have E : L_X12_best_74 (n + 1) S v1 v2 v3 v4 = _ := (if_pos c2010).trans (rfl)
      rw [E] at hk
      exact hk
    · refine aw_aload_n hC 0 dX12_best_85 rfl rfl ?_
      refine aw_cV0r hC hSt (t_X12_isStill G l hM ) w_1099 w_1118 w_1119 w_1120 w_953 rfl rfl (by decide +kernel) ⟨Nat.le_of_ble_eq_true rfl, Nat.le_of_ble_eq_true rfl⟩ (ms_lt 64 (by decide) hM) (ms_k 64 12 0 (by decide) hM) rfl (Nat.le_of_ble_eq_true rfl) dX12_best_86 ⟨Nat.zero_le _, Nat.zero_le _⟩ ?_
      refine aw_if_ne hC 140 dX12_best_89 (by decide) (fun c2011 => ?_) (fun c2011 => ?_)
      · refine aw_sub [0, 1, 2, 3, 4] rfl ?_
        have E : L_X12_best_74 (n + 1) S v1 v2 v3 v4 = _ := (if_neg c2010).trans ((if_neg c2011).trans (rfl))
        rw [E] at hk
        exact hk
      · refine aw_aload_n hC 0 dX12_best_92 rfl rfl ?_
        refine aw_aload_n hC 0 dX12_best_93 rfl rfl ?_
        refine aw_iload_n hC 3 dX12_best_94 rfl rfl ?_
        refine aw_iconst (v := 0) hC dX12_best_95 (by decide) ?_
        refine aw_cV2r hC hSt (t_X12_deed G l hM _ _ (h1 c2010 c2011)) w_1080 w_1088 w_1089 w_1090 w_953 rfl rfl (by decide +kernel) ⟨Nat.le_of_ble_eq_true rfl, Nat.le_of_ble_eq_true rfl⟩ (ms_lt 64 (by decide) hM) (ms_k 64 12 0 (by decide) hM) rfl (Nat.le_of_ble_eq_true rfl) dX12_best_96 ⟨Nat.zero_le _, Nat.zero_le _⟩ ?_
        refine aw_iconst (v := 3) hC dX12_best_99 (by decide) ?_
        refine aw_cut (S' := S) (pc' := 108) (lv' := [(0, .ref 64), (1, .int v1), (2, .int v2), (3, .int v3), (4, .int v4)]) (st' := [.int (if (f_X12_deed S 64 v3 (0 : Int32)) = (3 : Int32) then (1 : Int32) else (0 : Int32)), .ref 64]) ?_ (fun Jc2012 => ?_)
        · generalize ex2013 : (if (f_X12_deed S 64 v3 (0 : Int32)) = (3 : Int32) then (1 : Int32) else (0 : Int32)) = x2013
          refine aw_aload_n hC 0 dX12_best_108 rfl rfl ?_
          refine aw_iload_n hC 3 dX12_best_109 rfl rfl ?_
          refine aw_iconst (v := 2) hC dX12_best_110 (by decide) ?_
          refine aw_cV2r hC hSt (t_X12_deed G l hM _ _ (h2 c2010 c2011 x2013 ex2013)) w_1080 w_1088 w_1089 w_1090 w_953 rfl rfl (by decide +kernel) ⟨Nat.le_of_ble_eq_true rfl, Nat.le_of_ble_eq_true rfl⟩ (ms_lt 64 (by decide) hM) (ms_k 64 12 0 (by decide) hM) rfl (Nat.le_of_ble_eq_true rfl) dX12_best_111 ⟨Nat.zero_le _, Nat.zero_le _⟩ ?_
          refine aw_aload_n hC 0 dX12_best_114 rfl rfl ?_
          refine aw_iload_n hC 3 dX12_best_115 rfl rfl ?_
          refine aw_iconst (v := 3) hC dX12_best_116 (by decide) ?_
          refine aw_cV2r hC hSt (t_X12_deed G l hM _ _ (h3 c2010 c2011 x2013 ex2013)) w_1080 w_1088 w_1089 w_1090 w_953 rfl rfl (by decide +kernel) ⟨Nat.le_of_ble_eq_true rfl, Nat.le_of_ble_eq_true rfl⟩ (ms_lt 64 (by decide) hM) (ms_k 64 12 0 (by decide) hM) rfl (Nat.le_of_ble_eq_true rfl) dX12_best_117 ⟨Nat.zero_le _, Nat.zero_le _⟩ ?_
          refine aw_aload_n hC 0 dX12_best_120 rfl rfl ?_
          refine aw_iload_n hC 3 dX12_best_121 rfl rfl ?_
          refine aw_iconst (v := 4) hC dX12_best_122 (by decide) ?_
          refine aw_cV2r hC hSt (t_X12_deed G l hM _ _ (h4 c2010 c2011 x2013 ex2013)) w_1080 w_1088 w_1089 w_1090 w_953 rfl rfl (by decide +kernel) ⟨Nat.le_of_ble_eq_true rfl, Nat.le_of_ble_eq_true rfl⟩ (ms_lt 64 (by decide) hM) (ms_k 64 12 0 (by decide) hM) rfl (Nat.le_of_ble_eq_true rfl) dX12_best_123 ⟨Nat.zero_le _, Nat.zero_le _⟩ ?_
          refine aw_cV4v hC hSt (t_X12_doTick G l hM _ _ _ _ (h5 c2010 c2011 x2013 ex2013)) w_1110 w_1155 w_1156 w_1157 w_953 rfl rfl (by decide +kernel) ⟨Nat.le_of_ble_eq_true rfl, Nat.le_of_ble_eq_true rfl⟩ (ms_lt 64 (by decide) hM) (ms_k 64 12 0 (by decide) hM) rfl (Nat.le_of_ble_eq_true rfl) dX12_best_126 ⟨Nat.zero_le _, Nat.zero_le _⟩ ?_
          generalize er2014 : f_X12_doTick S 64 x2013 (f_X12_deed S 64 v3 (2 : Int32)) (f_X12_deed S 64 v3 (3 : Int32)) (f_X12_deed S 64 v3 (4 : Int32)) = r2014
          have hM : MS r2014 := MS.of (by rw [← er2014]; exact q_X12_doTick _ _ _ _ _ _) hM
          refine aw_aload_n hC 0 dX12_best_129 rfl rfl ?_
          refine aw_iload_n hC 1 dX12_best_130 rfl rfl ?_
          refine aw_cV1v hC hSt (t_X12_lookBest G l hM _ (h6 c2010 c2011 x2013 ex2013 r2014 er2014)) w_1201 w_1202 w_1203 w_1204 w_953 rfl rfl (by decide +kernel) ⟨Nat.le_of_ble_eq_true rfl, Nat.le_of_ble_eq_true rfl⟩ (ms_lt 64 (by decide) hM) (ms_k 64 12 0 (by decide) hM) rfl (Nat.le_of_ble_eq_true rfl) dX12_best_131 ⟨Nat.zero_le _, Nat.zero_le _⟩ ?_
          generalize er2015 : f_X12_lookBest r2014 64 v1 = r2015
          have hM : MS r2015 := MS.of (by rw [← er2015]; exact q_X12_lookBest _ _ _) hM
          refine aw_iinc (v := (v4 + (1 : Int32))) hC 4 [(4, .int _), (0, .ref 64), (1, .int _), (2, .int _), (3, .int _)] dX12_best_134 rfl rfl (by decide) rfl ?_
          refine aw_goto hC 74 dX12_best_137 (by decide) ?_
          refine aw_sub [1, 2, 3, 4, 0] rfl ?_
          have hTn := (h7 c2010 c2011 x2013 ex2013 r2014 er2014 r2015 er2015)
          have hMn : MS r2015 := hM
          have E : L_X12_best_74 (n + 1) S v1 v2 v3 v4 = _ := (if_neg c2010).trans ((if_pos c2011).trans ((bd_eq ex2013).trans ((bd_eq er2014).trans ((bd_eq er2015).trans (rfl)))))
          rw [E] at hk
          exact ih _ _ _ _ _ hMn hTn hk
        · refine aw_icmp_ne hC 107 dX12_best_100 (by decide) (fun c2012 => ?_) (fun c2012 => ?_)
          · refine aw_iconst (v := 0) hC dX12_best_107 (by decide) ?_
            simp only [bd_def, if_neg c2012] at Jc2012 ⊢
            exact Jc2012
          · refine aw_iconst (v := 1) hC dX12_best_103 (by decide) ?_
            refine aw_goto hC 108 dX12_best_104 (by decide) ?_
            simp only [bd_def, if_pos c2012] at Jc2012 ⊢
            exact Jc2012
noncomputable def L_X12_best_51 : Nat → HSt → Int32 → Int32 → Int32 → Int32 × Int32 × Int32 × HSt
  | 0, S, v1, v2, v3 => (v1, v2, v3, S)
  | n + 1, S, v1, v2, v3 =>
    if (gI S 68 (5 : Int32).toNatClampNeg) ≤ v3 then ((pr (v1) (pr (v2) (pr (v3) (S))))) else (if (4 : Int32) ≤ (f_X12_deed S 64 v3 (0 : Int32)) then ((pr (v1) (pr (v2) (pr (v3) (S))))) else (bd (L_X12_best_74 1000 S v1 v2 v3 (0 : Int32)) fun r1010 => L_X12_best_51 n r1010.2.2.2.2 r1010.1 r1010.2.1 (r1010.2.2.1 + (1 : Int32))))
def T_X12_best_51 : Nat → HSt → Int32 → Int32 → Int32 → Prop
  | 0, _, _, _, _ => False
  | n + 1, S, v1, v2, v3 => ((¬ (gI S 68 (5 : Int32).toNatClampNeg) ≤ v3) → p_X12_deed S 64 v3 (0 : Int32)) ∧ ((¬ (gI S 68 (5 : Int32).toNatClampNeg) ≤ v3) → (¬ (4 : Int32) ≤ (f_X12_deed S 64 v3 (0 : Int32))) → T_X12_best_74 1000 S v1 v2 v3 (0 : Int32)) ∧ ((¬ (gI S 68 (5 : Int32).toNatClampNeg) ≤ v3) → (¬ (4 : Int32) ≤ (f_X12_deed S 64 v3 (0 : Int32))) → ∀ r1010, L_X12_best_74 1000 S v1 v2 v3 (0 : Int32) = r1010 → T_X12_best_51 n r1010.2.2.2.2 r1010.1 r1010.2.1 (r1010.2.2.1 + (1 : Int32)))
theorem qL_X12_best_51 : ∀ (n : Nat) (S : HSt) (v1 : Int32) (v2 : Int32) (v3 : Int32), shp (L_X12_best_51 n S v1 v2 v3).2.2.2 = shp S := by
  intro n
  induction n with
  | zero => intros; rfl
  | succ n ih =>
    intro S v1 v2 v3
    unfold L_X12_best_51
    repeat' (first | with_reducible refine shpr3 ?_ | with_reducible rfl | with_reducible refine (ih _ _ _ _).trans ?_ | with_reducible refine (q_X12_doTick _ _ _ _ _ _).trans ?_ | with_reducible refine (q_X12_first _ _).trans ?_ | with_reducible refine (q_X12_lookBest _ _ _).trans ?_ | with_reducible refine (qL_X12_best_74 _ _ _ _ _ _).trans ?_ | with_reducible refine (shp_sI _ _ _ _).trans ?_ | with_reducible refine (shp_sJ _ _ _ _).trans ?_ | with_reducible refine shi ?_ ?_ | with_reducible refine shb (fun _ _ => ?_) | with_reducible refine shiP (fun q : Int32 × Int32 × Int32 × HSt => q.2.2.2) ?_ ?_ | with_reducible refine shbP (fun q : Int32 × Int32 × Int32 × HSt => q.2.2.2) (fun _ _ => ?_) | (subst_vars; with_reducible rfl) | (subst_vars; with_reducible refine (ih _ _ _ _).trans ?_) | (subst_vars; with_reducible refine (q_X12_doTick _ _ _ _ _ _).trans ?_) | (subst_vars; with_reducible refine (q_X12_first _ _).trans ?_) | (subst_vars; with_reducible refine (q_X12_lookBest _ _ _).trans ?_) | (subst_vars; with_reducible refine (qL_X12_best_74 _ _ _ _ _ _).trans ?_) | (subst_vars; with_reducible refine (shp_sI _ _ _ _).trans ?_) | (subst_vars; with_reducible refine (shp_sJ _ _ _ _).trans ?_) | (subst_vars; with_reducible refine shi ?_ ?_) | (subst_vars; with_reducible refine shb (fun _ _ => ?_)))
theorem vL_X12_best_51 : ∀ (n : Nat) (S : HSt) (v1 : Int32) (v2 : Int32) (v3 : Int32), Fr [(64, 20), (64, 21), (64, 22), (64, 23), (64, 24), (64, 25), (64, 26), (64, 28), (64, 31), (64, 32)] S (L_X12_best_51 n S v1 v2 v3).2.2.2 := by
  intro n
  induction n with
  | zero => intros; exact Fr.refl _ _
  | succ n ih =>
    intro S v1 v2 v3
    unfold L_X12_best_51
    repeat' (first | with_reducible refine frpr3 ?_ | with_reducible exact Fr.refl _ _ | with_reducible refine Fr.lP (fun q : Int32 × Int32 × Int32 × HSt => q.2.2.2) (fun _ _ => ?_) | with_reducible refine Fr.iteP (fun q : Int32 × Int32 × Int32 × HSt => q.2.2.2) ?_ ?_ | with_reducible refine Fr.l1 (fun _ _ => ?_) | with_reducible refine Fr.ite ?_ ?_ | with_reducible refine Fr.sE (by assumption) (by first | decide | simp only [List.mem_cons, List.not_mem_nil, or_false, true_or, or_true, eq_self_iff_true]) ?_ | with_reducible refine Fr.jE (by assumption) ?_ | with_reducible refine Fr.rE (by assumption) (by first | decide | simp only [List.mem_cons, List.not_mem_nil, or_false, true_or, or_true, eq_self_iff_true]) ?_ | with_reducible refine Fr.iE (by assumption) ?_ ?_ | with_reducible refine Fr.tr (ih _ _ _ _) (by first | decide | simp only [List.mem_cons, List.not_mem_nil, or_false, forall_eq_or_imp, forall_eq, true_or, or_true, and_self, eq_self_iff_true]) ?_ | with_reducible refine Fr.tr (w_X12_doTick _ _ _ _ _ _ _ (by assumption)) (by first | decide | simp only [List.mem_cons, List.not_mem_nil, or_false, forall_eq_or_imp, forall_eq, true_or, or_true, and_self, eq_self_iff_true]) ?_ | with_reducible refine Fr.tr (w_X12_first _ _ _ (by assumption)) (by first | decide | simp only [List.mem_cons, List.not_mem_nil, or_false, forall_eq_or_imp, forall_eq, true_or, or_true, and_self, eq_self_iff_true]) ?_ | with_reducible refine Fr.tr (w_X12_lookBest _ _ _ _ (by assumption)) (by first | decide | simp only [List.mem_cons, List.not_mem_nil, or_false, forall_eq_or_imp, forall_eq, true_or, or_true, and_self, eq_self_iff_true]) ?_ | with_reducible refine Fr.tr (wL_X12_best_74 _ _ _ _ _ _ _ (by assumption)) (by first | decide | simp only [List.mem_cons, List.not_mem_nil, or_false, forall_eq_or_imp, forall_eq, true_or, or_true, and_self, eq_self_iff_true]) ?_)
theorem wL_X12_best_51 (n : Nat) (S : HSt) (v1 : Int32) (v2 : Int32) (v3 : Int32) (r : Int32 × Int32 × Int32 × HSt) (e : L_X12_best_51 n S v1 v2 v3 = r) : Fr [(64, 20), (64, 21), (64, 22), (64, 23), (64, 24), (64, 25), (64, 26), (64, 28), (64, 31), (64, 32)] S r.2.2.2 := by
  rw [← e]
  exact vL_X12_best_51 n S v1 v2 v3
set_option maxRecDepth 100000 in
theorem l_X12_best_51 {p : Program} {l : Launch} {e : Env} {s : State} {m : MethodId} {args : Array Value} {below : List Frame} {meth : Method} {c : Code} {G : GG} {Q : State → Prop} (hC : ACx p s m args meth c cX12_best RX12 5 (some .long)) (hSt : St G s)  : ∀ (n : Nat) (S : HSt) (v1 : Int32) (v2 : Int32) (v3 : Int32), MS S → T_X12_best_51 n S v1 v2 v3 → AW p l e (rmD 5 0 0) s m args below meth c G 5 Q (L_X12_best_51 n S v1 v2 v3).2.2.2 0 0 146 [(0, .ref 64), (1, .int (L_X12_best_51 n S v1 v2 v3).1), (2, .int (L_X12_best_51 n S v1 v2 v3).2.1), (3, .int (L_X12_best_51 n S v1 v2 v3).2.2.1)] [] → AW p l e (rmD 5 0 0) s m args below meth c G 5 Q S 0 0 51 [(0, .ref 64), (1, .int v1), (2, .int v2), (3, .int v3)] [] := by
  intro n
  induction n with
  | zero => intro S v1 v2 v3 _ hT; exact hT.elim
  | succ n ih =>
    intro S v1 v2 v3 hM hT hk
    unfold T_X12_best_51 at hT
    obtain ⟨h0, h1, h2⟩ := hT
    refine aw_iload_n hC 3 dX12_best_51 rfl rfl ?_
    refine aw_aload_n hC 0 dX12_best_52 rfl rfl ?_
    refine aw_getP (b := 68) hC hSt 5 (ms_lt 64 (by decide) hM) (ms_k 64 12 0 (by decide) hM) rfl (by decide) w_920 rfl (ms_p 5 68 (by decide) hM) dX12_best_53 ?_
    refine aw_iconst (v := 5) hC dX12_best_56 (by decide) ?_
    refine aw_iald hC hSt (ms_lt 68 (by decide) hM) (ms_k 68 14 172 (by decide) hM) (vp_len (n := 172) (ms_l 68 14 172 (by decide) hM) (by unfold vp_in; decide)) dX12_best_57 ?_
    refine aw_icmp_ge hC 146 dX12_best_58 (by decide) (fun c1008 => ?_) (fun c1008 => ?_)
    · refine aw_sub [0, 1, 2, 3] rfl ?_
      have E : L_X12_best_51 (n + 1) S v1 v2 v3 = _ := (if_pos c1008).trans (rfl)
      rw [E] at hk
      exact hk
    · refine aw_aload_n hC 0 dX12_best_61 rfl rfl ?_
      refine aw_iload_n hC 3 dX12_best_62 rfl rfl ?_
      refine aw_iconst (v := 0) hC dX12_best_63 (by decide) ?_
      refine aw_cV2r hC hSt (t_X12_deed G l hM _ _ (h0 c1008)) w_1080 w_1088 w_1089 w_1090 w_953 rfl rfl (by decide +kernel) ⟨Nat.le_of_ble_eq_true rfl, Nat.le_of_ble_eq_true rfl⟩ (ms_lt 64 (by decide) hM) (ms_k 64 12 0 (by decide) hM) rfl (Nat.le_of_ble_eq_true rfl) dX12_best_64 ⟨Nat.zero_le _, Nat.zero_le _⟩ ?_
      refine aw_iconst (v := 4) hC dX12_best_67 (by decide) ?_
      refine aw_icmp_ge hC 146 dX12_best_68 (by decide) (fun c1009 => ?_) (fun c1009 => ?_)
      · refine aw_sub [0, 1, 2, 3] rfl ?_
        have E : L_X12_best_51 (n + 1) S v1 v2 v3 = _ := (if_neg c1008).trans ((if_pos c1009).trans (rfl))
        rw [E] at hk
        exact hk
      · refine aw_iconst (v := 0) hC dX12_best_71 (by decide) ?_
        refine aw_istore hC [(4, .int _), (0, .ref 64), (1, .int _), (2, .int _), (3, .int _)] dX12_best_72 (by decide) rfl ?_
        refine aw_sub [1, 2, 3, 4, 0] rfl ?_
        refine l_X12_best_74 hC hSt 1000 _ _ _ _ _ hM (h1 c1008 c1009) ?_
        generalize er1010 : L_X12_best_74 1000 S v1 v2 v3 (0 : Int32) = r1010
        have hM : MS r1010.2.2.2.2 := MS.of (by rw [← er1010]; exact qL_X12_best_74 _ _ _ _ _ _) hM
        refine aw_iinc (v := (r1010.2.2.1 + (1 : Int32))) hC 3 [(3, .int _), (0, .ref 64), (1, .int _), (2, .int _), (4, .int _)] dX12_best_140 rfl rfl (by decide) rfl ?_
        refine aw_goto hC 51 dX12_best_143 (by decide) ?_
        refine aw_sub [1, 2, 3, 0] rfl ?_
        have hTn := (h2 c1008 c1009 r1010 er1010)
        have hMn : MS r1010.2.2.2.2 := hM
        have E : L_X12_best_51 (n + 1) S v1 v2 v3 = _ := (if_neg c1008).trans ((if_neg c1009).trans ((bd_eq er1010).trans (rfl)))
        rw [E] at hk
        exact ih _ _ _ _ hMn hTn hk
noncomputable def f_X12_best (S : HSt) (_o : Nat) (a1 : Int32) (a2 : Int32) : Int64 × HSt := bd ((sI S 64 0 (0 : Int32))) fun S1 => if (f_X12_isBeast S1 64 a1) = 0 then (pr ((-9000000000000000001 : Int64)) (S1)) else (if (f_X12_in S1 a2.toInt64 (0 : Int64) (2 : Int64)) = 0 then (pr ((-9000000000000000001 : Int64)) (S1)) else (bd (f_X12_first S1 64) fun r4 => bd ((sI r4 64 31 (-1000000 : Int32))) fun S5 => bd ((sI S5 64 32 (0 : Int32))) fun S6 => bd (f_X12_lookBest S6 64 a1) fun r7 => bd (L_X12_best_51 1000 r7 a1 a2 (0 : Int32)) fun r8 => bd ((if r8.2.1 = 0 then (gI r8.2.2.2 64 31).toInt64 else (f_X12_partOf r8.2.2.2 (gI r8.2.2.2 64 32).toInt64 (f_X12_allOdds r8.2.2.2 64).toInt64 (r8.2.1 - (1 : Int32))))) fun x10 => pr (x10) (r8.2.2.2)))
def p_X12_best (S : HSt) (_o : Nat) (a1 : Int32) (a2 : Int32) : Prop := (∀ S1 : HSt, (sI S 64 0 (0 : Int32)) = S1 → (¬ (f_X12_isBeast S1 64 a1) = 0) → (¬ (f_X12_in S1 a2.toInt64 (0 : Int64) (2 : Int64)) = 0) → ∀ r4, f_X12_first S1 64 = r4 → ∀ S5 : HSt, (sI r4 64 31 (-1000000 : Int32)) = S5 → ∀ S6 : HSt, (sI S5 64 32 (0 : Int32)) = S6 → p_X12_lookBest S6 64 a1) ∧ (∀ S1 : HSt, (sI S 64 0 (0 : Int32)) = S1 → (¬ (f_X12_isBeast S1 64 a1) = 0) → (¬ (f_X12_in S1 a2.toInt64 (0 : Int64) (2 : Int64)) = 0) → ∀ r4, f_X12_first S1 64 = r4 → ∀ S5 : HSt, (sI r4 64 31 (-1000000 : Int32)) = S5 → ∀ S6 : HSt, (sI S5 64 32 (0 : Int32)) = S6 → ∀ r7, f_X12_lookBest S6 64 a1 = r7 → T_X12_best_51 1000 r7 a1 a2 (0 : Int32)) ∧ (∀ S1 : HSt, (sI S 64 0 (0 : Int32)) = S1 → (¬ (f_X12_isBeast S1 64 a1) = 0) → (¬ (f_X12_in S1 a2.toInt64 (0 : Int64) (2 : Int64)) = 0) → ∀ r4, f_X12_first S1 64 = r4 → ∀ S5 : HSt, (sI r4 64 31 (-1000000 : Int32)) = S5 → ∀ S6 : HSt, (sI S5 64 32 (0 : Int32)) = S6 → ∀ r7, f_X12_lookBest S6 64 a1 = r7 → ∀ r8, L_X12_best_51 1000 r7 a1 a2 (0 : Int32) = r8 → (¬ r8.2.1 = 0) → p_X12_allOdds r8.2.2.2 64) ∧ (∀ S1 : HSt, (sI S 64 0 (0 : Int32)) = S1 → (¬ (f_X12_isBeast S1 64 a1) = 0) → (¬ (f_X12_in S1 a2.toInt64 (0 : Int64) (2 : Int64)) = 0) → ∀ r4, f_X12_first S1 64 = r4 → ∀ S5 : HSt, (sI r4 64 31 (-1000000 : Int32)) = S5 → ∀ S6 : HSt, (sI S5 64 32 (0 : Int32)) = S6 → ∀ r7, f_X12_lookBest S6 64 a1 = r7 → ∀ r8, L_X12_best_51 1000 r7 a1 a2 (0 : Int32) = r8 → (¬ r8.2.1 = 0) → p_X12_partOf r8.2.2.2 (gI r8.2.2.2 64 32).toInt64 (f_X12_allOdds r8.2.2.2 64).toInt64 (r8.2.1 - (1 : Int32)))
set_option maxRecDepth 100000 in
theorem t_X12_best (G : GG) (l : Launch) {S : HSt} (hM : MS S) (a1 : Int32) (a2 : Int32) (hp : p_X12_best S 64 a1 a2) : AM G l yX12_best cX12_best 5 (some .long) (rmD 5 0 0) 0 0 [.ref 64, .int a1, .int a2] S (FP (some (.long (f_X12_best S 64 a1 a2).1)) ((f_X12_best S 64 a1 a2).2)) := by
  obtain ⟨h0, h1, h2, h3⟩ := hp
  refine AM.mk (by decide) (Nat.le_of_ble_eq_true rfl) ?_
  intro p e s m below meth c hC hSt _
  refine aw_aload_n hC 0 dX12_best_0 rfl rfl ?_
  refine aw_iconst (v := 0) hC dX12_best_1 (by decide) ?_
  refine aw_putI hC hSt 0 (ms_lt 64 (by decide) hM) (ms_k 64 12 0 (by decide) hM) rfl (by decide) w_955 rfl rfl rfl rfl dX12_best_2 ?_
  generalize eS1 : (sI S 64 0 (0 : Int32)) = S1
  have hM : MS S1 := MS.of (by rw [← eS1]; exact shp_sI _ _ _ _) hM
  refine aw_aload_n hC 0 dX12_best_5 rfl rfl ?_
  refine aw_iload_n hC 1 dX12_best_6 rfl rfl ?_
  refine aw_cV1r hC hSt (t_X12_isBeast G l hM _) w_1081 w_1159 w_1160 w_1161 w_953 rfl rfl (by decide +kernel) ⟨Nat.le_of_ble_eq_true rfl, Nat.le_of_ble_eq_true rfl⟩ (ms_lt 64 (by decide) hM) (ms_k 64 12 0 (by decide) hM) rfl (Nat.le_of_ble_eq_true rfl) dX12_best_7 ⟨Nat.zero_le _, Nat.zero_le _⟩ ?_
  refine aw_if_eq hC 25 dX12_best_10 (by decide) (fun c2 => ?_) (fun c2 => ?_)
  · refine aw_ldc2 (v := -9000000000000000001) hC w_957 dX12_best_25 ?_
    refine aw_lret hC dX12_best_28 (Nat.le_refl _) (Nat.le_refl _) ?_
    exact FP.qJ ((bd_eq eS1).trans ((if_pos c2).trans (rfl)))
  · refine aw_iload_n hC 2 dX12_best_13 rfl rfl ?_
    refine aw_i2l hC dX12_best_14 ?_
    refine aw_lconst (v := 0) hC dX12_best_15 (by decide) ?_
    refine aw_ldc2 (v := 2) hC w_956 dX12_best_16 ?_
    refine aw_cS3r hC hSt (t_X12_in G l  _ _ _) w_945 w_951 w_952 w_953 rfl rfl (by decide +kernel) ⟨Nat.le_of_ble_eq_true rfl, Nat.le_of_ble_eq_true rfl⟩ (Nat.le_of_ble_eq_true rfl) dX12_best_19 ⟨Nat.zero_le _, Nat.zero_le _⟩ ?_
    refine aw_if_ne hC 29 dX12_best_22 (by decide) (fun c3 => ?_) (fun c3 => ?_)
    · refine aw_aload_n hC 0 dX12_best_29 rfl rfl ?_
      refine aw_cV0v hC hSt (t_X12_first G l hM ) w_1031 w_1071 w_1072 w_1073 w_953 rfl rfl (by decide +kernel) ⟨Nat.le_of_ble_eq_true rfl, Nat.le_of_ble_eq_true rfl⟩ (ms_lt 64 (by decide) hM) (ms_k 64 12 0 (by decide) hM) rfl (Nat.le_of_ble_eq_true rfl) dX12_best_30 ⟨Nat.zero_le _, Nat.zero_le _⟩ ?_
      generalize er4 : f_X12_first S1 64 = r4
      have hM : MS r4 := MS.of (by rw [← er4]; exact q_X12_first _ _) hM
      refine aw_aload_n hC 0 dX12_best_33 rfl rfl ?_
      refine aw_ldc (v := -1000000) hC w_923 dX12_best_34 ?_
      refine aw_putI hC hSt 31 (ms_lt 64 (by decide) hM) (ms_k 64 12 0 (by decide) hM) rfl (by decide) w_1200 rfl rfl rfl rfl dX12_best_36 ?_
      generalize eS5 : (sI r4 64 31 (-1000000 : Int32)) = S5
      have hM : MS S5 := MS.of (by rw [← eS5]; exact shp_sI _ _ _ _) hM
      refine aw_aload_n hC 0 dX12_best_39 rfl rfl ?_
      refine aw_iconst (v := 0) hC dX12_best_40 (by decide) ?_
      refine aw_putI hC hSt 32 (ms_lt 64 (by decide) hM) (ms_k 64 12 0 (by decide) hM) rfl (by decide) w_1199 rfl rfl rfl rfl dX12_best_41 ?_
      generalize eS6 : (sI S5 64 32 (0 : Int32)) = S6
      have hM : MS S6 := MS.of (by rw [← eS6]; exact shp_sI _ _ _ _) hM
      refine aw_aload_n hC 0 dX12_best_44 rfl rfl ?_
      refine aw_iload_n hC 1 dX12_best_45 rfl rfl ?_
      refine aw_cV1v hC hSt (t_X12_lookBest G l hM _ (h0 S1 eS1 c2 c3 r4 er4 S5 eS5 S6 eS6)) w_1201 w_1202 w_1203 w_1204 w_953 rfl rfl (by decide +kernel) ⟨Nat.le_of_ble_eq_true rfl, Nat.le_of_ble_eq_true rfl⟩ (ms_lt 64 (by decide) hM) (ms_k 64 12 0 (by decide) hM) rfl (Nat.le_of_ble_eq_true rfl) dX12_best_46 ⟨Nat.zero_le _, Nat.zero_le _⟩ ?_
      generalize er7 : f_X12_lookBest S6 64 a1 = r7
      have hM : MS r7 := MS.of (by rw [← er7]; exact q_X12_lookBest _ _ _) hM
      refine aw_iconst (v := 0) hC dX12_best_49 (by decide) ?_
      refine aw_istore_n hC [(3, .int _), (0, .ref 64), (1, .int _), (2, .int _)] dX12_best_50 rfl (by decide) rfl ?_
      refine aw_sub [1, 2, 3, 0] rfl ?_
      refine l_X12_best_51 hC hSt 1000 _ _ _ _ hM (h1 S1 eS1 c2 c3 r4 er4 S5 eS5 S6 eS6 r7 er7) ?_
      generalize er8 : L_X12_best_51 1000 r7 a1 a2 (0 : Int32) = r8
      have hM : MS r8.2.2.2 := MS.of (by rw [← er8]; exact qL_X12_best_51 _ _ _ _ _) hM
      refine aw_iload_n hC 2 dX12_best_146 rfl rfl ?_
      refine aw_cut (S' := r8.2.2.2) (pc' := 174) (lv' := [(0, .ref 64), (1, .int r8.1), (2, .int r8.2.1), (3, .int r8.2.2.1)]) (st' := [.long (if r8.2.1 = 0 then (gI r8.2.2.2 64 31).toInt64 else (f_X12_partOf r8.2.2.2 (gI r8.2.2.2 64 32).toInt64 (f_X12_allOdds r8.2.2.2 64).toInt64 (r8.2.1 - (1 : Int32))))]) ?_ (fun Jc9 => ?_)
      · generalize ex10 : (if r8.2.1 = 0 then (gI r8.2.2.2 64 31).toInt64 else (f_X12_partOf r8.2.2.2 (gI r8.2.2.2 64 32).toInt64 (f_X12_allOdds r8.2.2.2 64).toInt64 (r8.2.1 - (1 : Int32)))) = x10
        refine aw_lret hC dX12_best_174 (Nat.le_refl _) (Nat.le_refl _) ?_
        exact FP.qJ ((bd_eq eS1).trans ((if_neg c2).trans ((if_neg c3).trans ((bd_eq er4).trans ((bd_eq eS5).trans ((bd_eq eS6).trans ((bd_eq er7).trans ((bd_eq er8).trans ((bd_eq ex10).trans (rfl))))))))))
      · refine aw_if_ne hC 158 dX12_best_147 (by decide) (fun c9 => ?_) (fun c9 => ?_)
        · refine aw_aload_n hC 0 dX12_best_158 rfl rfl ?_
          refine aw_getI hC hSt 32 (ms_lt 64 (by decide) hM) (ms_k 64 12 0 (by decide) hM) rfl (by decide) w_1199 rfl dX12_best_159 ?_
          refine aw_i2l hC dX12_best_162 ?_
          refine aw_aload_n hC 0 dX12_best_163 rfl rfl ?_
          refine aw_cV0r hC hSt (t_X12_allOdds G l hM  (h2 S1 eS1 c2 c3 r4 er4 S5 eS5 S6 eS6 r7 er7 r8 er8 c9)) w_1135 w_1143 w_1144 w_1145 w_953 rfl rfl (by decide +kernel) ⟨Nat.le_of_ble_eq_true rfl, Nat.le_of_ble_eq_true rfl⟩ (ms_lt 64 (by decide) hM) (ms_k 64 12 0 (by decide) hM) rfl (Nat.le_of_ble_eq_true rfl) dX12_best_164 ⟨Nat.zero_le _, Nat.zero_le _⟩ ?_
          refine aw_i2l hC dX12_best_167 ?_
          refine aw_iload_n hC 2 dX12_best_168 rfl rfl ?_
          refine aw_iconst (v := 1) hC dX12_best_169 (by decide) ?_
          refine aw_isub hC dX12_best_170 ?_
          refine aw_cS3r hC hSt (t_X12_partOf G l  _ _ _ (h3 S1 eS1 c2 c3 r4 er4 S5 eS5 S6 eS6 r7 er7 r8 er8 c9)) w_1137 w_1170 w_1171 w_953 rfl rfl (by decide +kernel) ⟨Nat.le_of_ble_eq_true rfl, Nat.le_of_ble_eq_true rfl⟩ (Nat.le_of_ble_eq_true rfl) dX12_best_171 ⟨Nat.zero_le _, Nat.zero_le _⟩ ?_
          simp only [bd_def, if_neg c9] at Jc9 ⊢
          exact Jc9
        · refine aw_aload_n hC 0 dX12_best_150 rfl rfl ?_
          refine aw_getI hC hSt 31 (ms_lt 64 (by decide) hM) (ms_k 64 12 0 (by decide) hM) rfl (by decide) w_1200 rfl dX12_best_151 ?_
          refine aw_i2l hC dX12_best_154 ?_
          refine aw_goto hC 174 dX12_best_155 (by decide) ?_
          simp only [bd_def, if_pos c9] at Jc9 ⊢
          exact Jc9
    · refine aw_ldc2 (v := -9000000000000000001) hC w_957 dX12_best_25 ?_
      refine aw_lret hC dX12_best_28 (Nat.le_refl _) (Nat.le_refl _) ?_
      exact FP.qJ ((bd_eq eS1).trans ((if_neg c2).trans ((if_pos c3).trans (rfl))))
theorem q_X12_best (S : HSt) (_o : Nat) (a1 : Int32) (a2 : Int32) : shp ((f_X12_best S _o a1 a2).2) = shp S := by
  unfold f_X12_best
  repeat' (first | with_reducible refine shpr1 ?_ | with_reducible rfl | with_reducible refine (q_X12_doTick _ _ _ _ _ _).trans ?_ | with_reducible refine (q_X12_first _ _).trans ?_ | with_reducible refine (q_X12_lookBest _ _ _).trans ?_ | with_reducible refine (qL_X12_best_51 _ _ _ _ _).trans ?_ | with_reducible refine (qL_X12_best_74 _ _ _ _ _ _).trans ?_ | with_reducible refine (shp_sI _ _ _ _).trans ?_ | with_reducible refine (shp_sJ _ _ _ _).trans ?_ | with_reducible refine shi ?_ ?_ | with_reducible refine shb (fun _ _ => ?_) | with_reducible refine shiP (fun q : Int64 × HSt => q.2) ?_ ?_ | with_reducible refine shbP (fun q : Int64 × HSt => q.2) (fun _ _ => ?_) | (subst_vars; with_reducible rfl) | (subst_vars; with_reducible refine (q_X12_doTick _ _ _ _ _ _).trans ?_) | (subst_vars; with_reducible refine (q_X12_first _ _).trans ?_) | (subst_vars; with_reducible refine (q_X12_lookBest _ _ _).trans ?_) | (subst_vars; with_reducible refine (qL_X12_best_51 _ _ _ _ _).trans ?_) | (subst_vars; with_reducible refine (qL_X12_best_74 _ _ _ _ _ _).trans ?_) | (subst_vars; with_reducible refine (shp_sI _ _ _ _).trans ?_) | (subst_vars; with_reducible refine (shp_sJ _ _ _ _).trans ?_) | (subst_vars; with_reducible refine shi ?_ ?_) | (subst_vars; with_reducible refine shb (fun _ _ => ?_)))
theorem v_X12_best (S : HSt) (_o : Nat) (a1 : Int32) (a2 : Int32) : Fr [(64, 0), (64, 20), (64, 21), (64, 22), (64, 23), (64, 24), (64, 25), (64, 26), (64, 28), (64, 31), (64, 32)] S ((f_X12_best S _o a1 a2).2) := by
  unfold f_X12_best
  repeat' (first | with_reducible refine frpr1 ?_ | with_reducible exact Fr.refl _ _ | with_reducible refine Fr.lP (fun q : Int64 × HSt => q.2) (fun _ _ => ?_) | with_reducible refine Fr.iteP (fun q : Int64 × HSt => q.2) ?_ ?_ | with_reducible refine Fr.l1 (fun _ _ => ?_) | with_reducible refine Fr.ite ?_ ?_ | with_reducible refine Fr.sE (by assumption) (by first | decide | simp only [List.mem_cons, List.not_mem_nil, or_false, true_or, or_true, eq_self_iff_true]) ?_ | with_reducible refine Fr.jE (by assumption) ?_ | with_reducible refine Fr.rE (by assumption) (by first | decide | simp only [List.mem_cons, List.not_mem_nil, or_false, true_or, or_true, eq_self_iff_true]) ?_ | with_reducible refine Fr.iE (by assumption) ?_ ?_ | with_reducible refine Fr.tr (w_X12_doTick _ _ _ _ _ _ _ (by assumption)) (by first | decide | simp only [List.mem_cons, List.not_mem_nil, or_false, forall_eq_or_imp, forall_eq, true_or, or_true, and_self, eq_self_iff_true]) ?_ | with_reducible refine Fr.tr (w_X12_first _ _ _ (by assumption)) (by first | decide | simp only [List.mem_cons, List.not_mem_nil, or_false, forall_eq_or_imp, forall_eq, true_or, or_true, and_self, eq_self_iff_true]) ?_ | with_reducible refine Fr.tr (w_X12_lookBest _ _ _ _ (by assumption)) (by first | decide | simp only [List.mem_cons, List.not_mem_nil, or_false, forall_eq_or_imp, forall_eq, true_or, or_true, and_self, eq_self_iff_true]) ?_ | with_reducible refine Fr.tr (wL_X12_best_51 _ _ _ _ _ _ (by assumption)) (by first | decide | simp only [List.mem_cons, List.not_mem_nil, or_false, forall_eq_or_imp, forall_eq, true_or, or_true, and_self, eq_self_iff_true]) ?_ | with_reducible refine Fr.tr (wL_X12_best_74 _ _ _ _ _ _ _ (by assumption)) (by first | decide | simp only [List.mem_cons, List.not_mem_nil, or_false, forall_eq_or_imp, forall_eq, true_or, or_true, and_self, eq_self_iff_true]) ?_)
theorem w_X12_best (S : HSt) (_o : Nat) (a1 : Int32) (a2 : Int32) (r : Int64 × HSt) (e : f_X12_best S _o a1 a2 = r) : Fr [(64, 0), (64, 20), (64, 21), (64, 22), (64, 23), (64, 24), (64, 25), (64, 26), (64, 28), (64, 31), (64, 32)] S r.2 := by
  rw [← e]
  exact v_X12_best S _o a1 a2
noncomputable def f_X12_layPath (S : HSt) (_o : Nat) (a1 : Int32) : HSt := bd ((sI S 64 20 (gI S 72 ((7 : Int32) * a1).toNatClampNeg))) fun S1 => bd ((sI S1 64 21 (gI S1 72 (((7 : Int32) * a1) + (1 : Int32)).toNatClampNeg))) fun S2 => bd ((sI S2 64 22 (gI S2 72 (((7 : Int32) * a1) + (2 : Int32)).toNatClampNeg))) fun S3 => bd ((sI S3 64 23 (gI S3 72 (((7 : Int32) * a1) + (3 : Int32)).toNatClampNeg))) fun S4 => bd ((sI S4 64 24 (gI S4 72 (((7 : Int32) * a1) + (4 : Int32)).toNatClampNeg))) fun S5 => bd ((if (gI S5 72 (((7 : Int32) * a1) + (5 : Int32)).toNatClampNeg) = (1 : Int32) then (1 : Int32) else (0 : Int32))) fun x7 => bd ((sI S5 64 25 x7)) fun S8 => bd ((sI S8 64 26 (gI S8 72 (((7 : Int32) * a1) + (6 : Int32)).toNatClampNeg))) fun S9 => S9
def p_X12_layPath (S : HSt) (_o : Nat) (a1 : Int32) : Prop := (vp_in ((7 : Int32) * a1) 42) ∧ (∀ S1 : HSt, (sI S 64 20 (gI S 72 ((7 : Int32) * a1).toNatClampNeg)) = S1 → vp_in (((7 : Int32) * a1) + (1 : Int32)) 42) ∧ (∀ S1 : HSt, (sI S 64 20 (gI S 72 ((7 : Int32) * a1).toNatClampNeg)) = S1 → ∀ S2 : HSt, (sI S1 64 21 (gI S1 72 (((7 : Int32) * a1) + (1 : Int32)).toNatClampNeg)) = S2 → vp_in (((7 : Int32) * a1) + (2 : Int32)) 42) ∧ (∀ S1 : HSt, (sI S 64 20 (gI S 72 ((7 : Int32) * a1).toNatClampNeg)) = S1 → ∀ S2 : HSt, (sI S1 64 21 (gI S1 72 (((7 : Int32) * a1) + (1 : Int32)).toNatClampNeg)) = S2 → ∀ S3 : HSt, (sI S2 64 22 (gI S2 72 (((7 : Int32) * a1) + (2 : Int32)).toNatClampNeg)) = S3 → vp_in (((7 : Int32) * a1) + (3 : Int32)) 42) ∧ (∀ S1 : HSt, (sI S 64 20 (gI S 72 ((7 : Int32) * a1).toNatClampNeg)) = S1 → ∀ S2 : HSt, (sI S1 64 21 (gI S1 72 (((7 : Int32) * a1) + (1 : Int32)).toNatClampNeg)) = S2 → ∀ S3 : HSt, (sI S2 64 22 (gI S2 72 (((7 : Int32) * a1) + (2 : Int32)).toNatClampNeg)) = S3 → ∀ S4 : HSt, (sI S3 64 23 (gI S3 72 (((7 : Int32) * a1) + (3 : Int32)).toNatClampNeg)) = S4 → vp_in (((7 : Int32) * a1) + (4 : Int32)) 42) ∧ (∀ S1 : HSt, (sI S 64 20 (gI S 72 ((7 : Int32) * a1).toNatClampNeg)) = S1 → ∀ S2 : HSt, (sI S1 64 21 (gI S1 72 (((7 : Int32) * a1) + (1 : Int32)).toNatClampNeg)) = S2 → ∀ S3 : HSt, (sI S2 64 22 (gI S2 72 (((7 : Int32) * a1) + (2 : Int32)).toNatClampNeg)) = S3 → ∀ S4 : HSt, (sI S3 64 23 (gI S3 72 (((7 : Int32) * a1) + (3 : Int32)).toNatClampNeg)) = S4 → ∀ S5 : HSt, (sI S4 64 24 (gI S4 72 (((7 : Int32) * a1) + (4 : Int32)).toNatClampNeg)) = S5 → vp_in (((7 : Int32) * a1) + (5 : Int32)) 42) ∧ (∀ S1 : HSt, (sI S 64 20 (gI S 72 ((7 : Int32) * a1).toNatClampNeg)) = S1 → ∀ S2 : HSt, (sI S1 64 21 (gI S1 72 (((7 : Int32) * a1) + (1 : Int32)).toNatClampNeg)) = S2 → ∀ S3 : HSt, (sI S2 64 22 (gI S2 72 (((7 : Int32) * a1) + (2 : Int32)).toNatClampNeg)) = S3 → ∀ S4 : HSt, (sI S3 64 23 (gI S3 72 (((7 : Int32) * a1) + (3 : Int32)).toNatClampNeg)) = S4 → ∀ S5 : HSt, (sI S4 64 24 (gI S4 72 (((7 : Int32) * a1) + (4 : Int32)).toNatClampNeg)) = S5 → ∀ x7 : Int32, (if (gI S5 72 (((7 : Int32) * a1) + (5 : Int32)).toNatClampNeg) = (1 : Int32) then (1 : Int32) else (0 : Int32)) = x7 → ∀ S8 : HSt, (sI S5 64 25 x7) = S8 → vp_in (((7 : Int32) * a1) + (6 : Int32)) 42)
set_option maxRecDepth 100000 in
theorem t_X12_layPath (G : GG) (l : Launch) {S : HSt} (hM : MS S) (a1 : Int32) (hp : p_X12_layPath S 64 a1) : AM G l yX12_layPath cX12_layPath 2 none (rmD 0 0 0) 0 0 [.ref 64, .int a1] S (FP none (f_X12_layPath S 64 a1)) := by
  obtain ⟨h0, h1, h2, h3, h4, h5, h6⟩ := hp
  refine AM.mk (by decide) (Nat.le_of_ble_eq_true rfl) ?_
  intro p e s m below meth c hC hSt _
  refine aw_aload_n hC 0 dX12_layPath_0 rfl rfl ?_
  refine aw_aload_n hC 0 dX12_layPath_1 rfl rfl ?_
  refine aw_getP (b := 72) hC hSt 33 (ms_lt 64 (by decide) hM) (ms_k 64 12 0 (by decide) hM) rfl (by decide) w_926 rfl (ms_p 33 72 (by decide) hM) dX12_layPath_2 ?_
  refine aw_bipush (v := 7) hC dX12_layPath_5 (by decide) ?_
  refine aw_iload_n hC 1 dX12_layPath_7 rfl rfl ?_
  refine aw_imul hC dX12_layPath_8 ?_
  refine aw_iald hC hSt (ms_lt 72 (by decide) hM) (ms_k 72 14 42 (by decide) hM) (vp_len (n := 42) (ms_l 72 14 42 (by decide) hM) (h0)) dX12_layPath_9 ?_
  refine aw_putI hC hSt 20 (ms_lt 64 (by decide) hM) (ms_k 64 12 0 (by decide) hM) rfl (by decide) w_1032 rfl rfl rfl rfl dX12_layPath_10 ?_
  generalize eS1 : (sI S 64 20 (gI S 72 ((7 : Int32) * a1).toNatClampNeg)) = S1
  have hM : MS S1 := MS.of (by rw [← eS1]; exact shp_sI _ _ _ _) hM
  refine aw_aload_n hC 0 dX12_layPath_13 rfl rfl ?_
  refine aw_aload_n hC 0 dX12_layPath_14 rfl rfl ?_
  refine aw_getP (b := 72) hC hSt 33 (ms_lt 64 (by decide) hM) (ms_k 64 12 0 (by decide) hM) rfl (by decide) w_926 rfl (ms_p 33 72 (by decide) hM) dX12_layPath_15 ?_
  refine aw_bipush (v := 7) hC dX12_layPath_18 (by decide) ?_
  refine aw_iload_n hC 1 dX12_layPath_20 rfl rfl ?_
  refine aw_imul hC dX12_layPath_21 ?_
  refine aw_iconst (v := 1) hC dX12_layPath_22 (by decide) ?_
  refine aw_iadd hC dX12_layPath_23 ?_
  refine aw_iald hC hSt (ms_lt 72 (by decide) hM) (ms_k 72 14 42 (by decide) hM) (vp_len (n := 42) (ms_l 72 14 42 (by decide) hM) (h1 S1 eS1)) dX12_layPath_24 ?_
  refine aw_putI hC hSt 21 (ms_lt 64 (by decide) hM) (ms_k 64 12 0 (by decide) hM) rfl (by decide) w_1033 rfl rfl rfl rfl dX12_layPath_25 ?_
  generalize eS2 : (sI S1 64 21 (gI S1 72 (((7 : Int32) * a1) + (1 : Int32)).toNatClampNeg)) = S2
  have hM : MS S2 := MS.of (by rw [← eS2]; exact shp_sI _ _ _ _) hM
  refine aw_aload_n hC 0 dX12_layPath_28 rfl rfl ?_
  refine aw_aload_n hC 0 dX12_layPath_29 rfl rfl ?_
  refine aw_getP (b := 72) hC hSt 33 (ms_lt 64 (by decide) hM) (ms_k 64 12 0 (by decide) hM) rfl (by decide) w_926 rfl (ms_p 33 72 (by decide) hM) dX12_layPath_30 ?_
  refine aw_bipush (v := 7) hC dX12_layPath_33 (by decide) ?_
  refine aw_iload_n hC 1 dX12_layPath_35 rfl rfl ?_
  refine aw_imul hC dX12_layPath_36 ?_
  refine aw_iconst (v := 2) hC dX12_layPath_37 (by decide) ?_
  refine aw_iadd hC dX12_layPath_38 ?_
  refine aw_iald hC hSt (ms_lt 72 (by decide) hM) (ms_k 72 14 42 (by decide) hM) (vp_len (n := 42) (ms_l 72 14 42 (by decide) hM) (h2 S1 eS1 S2 eS2)) dX12_layPath_39 ?_
  refine aw_putI hC hSt 22 (ms_lt 64 (by decide) hM) (ms_k 64 12 0 (by decide) hM) rfl (by decide) w_1034 rfl rfl rfl rfl dX12_layPath_40 ?_
  generalize eS3 : (sI S2 64 22 (gI S2 72 (((7 : Int32) * a1) + (2 : Int32)).toNatClampNeg)) = S3
  have hM : MS S3 := MS.of (by rw [← eS3]; exact shp_sI _ _ _ _) hM
  refine aw_aload_n hC 0 dX12_layPath_43 rfl rfl ?_
  refine aw_aload_n hC 0 dX12_layPath_44 rfl rfl ?_
  refine aw_getP (b := 72) hC hSt 33 (ms_lt 64 (by decide) hM) (ms_k 64 12 0 (by decide) hM) rfl (by decide) w_926 rfl (ms_p 33 72 (by decide) hM) dX12_layPath_45 ?_
  refine aw_bipush (v := 7) hC dX12_layPath_48 (by decide) ?_
  refine aw_iload_n hC 1 dX12_layPath_50 rfl rfl ?_
  refine aw_imul hC dX12_layPath_51 ?_
  refine aw_iconst (v := 3) hC dX12_layPath_52 (by decide) ?_
  refine aw_iadd hC dX12_layPath_53 ?_
  refine aw_iald hC hSt (ms_lt 72 (by decide) hM) (ms_k 72 14 42 (by decide) hM) (vp_len (n := 42) (ms_l 72 14 42 (by decide) hM) (h3 S1 eS1 S2 eS2 S3 eS3)) dX12_layPath_54 ?_
  refine aw_putI hC hSt 23 (ms_lt 64 (by decide) hM) (ms_k 64 12 0 (by decide) hM) rfl (by decide) w_1035 rfl rfl rfl rfl dX12_layPath_55 ?_
  generalize eS4 : (sI S3 64 23 (gI S3 72 (((7 : Int32) * a1) + (3 : Int32)).toNatClampNeg)) = S4
  have hM : MS S4 := MS.of (by rw [← eS4]; exact shp_sI _ _ _ _) hM
  refine aw_aload_n hC 0 dX12_layPath_58 rfl rfl ?_
  refine aw_aload_n hC 0 dX12_layPath_59 rfl rfl ?_
  refine aw_getP (b := 72) hC hSt 33 (ms_lt 64 (by decide) hM) (ms_k 64 12 0 (by decide) hM) rfl (by decide) w_926 rfl (ms_p 33 72 (by decide) hM) dX12_layPath_60 ?_
  refine aw_bipush (v := 7) hC dX12_layPath_63 (by decide) ?_
  refine aw_iload_n hC 1 dX12_layPath_65 rfl rfl ?_
  refine aw_imul hC dX12_layPath_66 ?_
  refine aw_iconst (v := 4) hC dX12_layPath_67 (by decide) ?_
  refine aw_iadd hC dX12_layPath_68 ?_
  refine aw_iald hC hSt (ms_lt 72 (by decide) hM) (ms_k 72 14 42 (by decide) hM) (vp_len (n := 42) (ms_l 72 14 42 (by decide) hM) (h4 S1 eS1 S2 eS2 S3 eS3 S4 eS4)) dX12_layPath_69 ?_
  refine aw_putI hC hSt 24 (ms_lt 64 (by decide) hM) (ms_k 64 12 0 (by decide) hM) rfl (by decide) w_1036 rfl rfl rfl rfl dX12_layPath_70 ?_
  generalize eS5 : (sI S4 64 24 (gI S4 72 (((7 : Int32) * a1) + (4 : Int32)).toNatClampNeg)) = S5
  have hM : MS S5 := MS.of (by rw [← eS5]; exact shp_sI _ _ _ _) hM
  refine aw_aload_n hC 0 dX12_layPath_73 rfl rfl ?_
  refine aw_aload_n hC 0 dX12_layPath_74 rfl rfl ?_
  refine aw_getP (b := 72) hC hSt 33 (ms_lt 64 (by decide) hM) (ms_k 64 12 0 (by decide) hM) rfl (by decide) w_926 rfl (ms_p 33 72 (by decide) hM) dX12_layPath_75 ?_
  refine aw_bipush (v := 7) hC dX12_layPath_78 (by decide) ?_
  refine aw_iload_n hC 1 dX12_layPath_80 rfl rfl ?_
  refine aw_imul hC dX12_layPath_81 ?_
  refine aw_iconst (v := 5) hC dX12_layPath_82 (by decide) ?_
  refine aw_iadd hC dX12_layPath_83 ?_
  refine aw_iald hC hSt (ms_lt 72 (by decide) hM) (ms_k 72 14 42 (by decide) hM) (vp_len (n := 42) (ms_l 72 14 42 (by decide) hM) (h5 S1 eS1 S2 eS2 S3 eS3 S4 eS4 S5 eS5)) dX12_layPath_84 ?_
  refine aw_iconst (v := 1) hC dX12_layPath_85 (by decide) ?_
  refine aw_cut (S' := S5) (pc' := 94) (lv' := [(0, .ref 64), (1, .int a1)]) (st' := [.int (if (gI S5 72 (((7 : Int32) * a1) + (5 : Int32)).toNatClampNeg) = (1 : Int32) then (1 : Int32) else (0 : Int32)), .ref 64]) ?_ (fun Jc6 => ?_)
  · generalize ex7 : (if (gI S5 72 (((7 : Int32) * a1) + (5 : Int32)).toNatClampNeg) = (1 : Int32) then (1 : Int32) else (0 : Int32)) = x7
    refine aw_putI hC hSt 25 (ms_lt 64 (by decide) hM) (ms_k 64 12 0 (by decide) hM) rfl (by decide) w_1037 rfl rfl (Bz.n (ex7 ▸ (Bz.ite (Or.inr rfl) (Or.inl rfl)))) (Bz.f (ex7 ▸ (Bz.ite (Or.inr rfl) (Or.inl rfl)))) dX12_layPath_94 ?_
    generalize eS8 : (sI S5 64 25 x7) = S8
    have hM : MS S8 := MS.of (by rw [← eS8]; exact shp_sI _ _ _ _) hM
    refine aw_aload_n hC 0 dX12_layPath_97 rfl rfl ?_
    refine aw_aload_n hC 0 dX12_layPath_98 rfl rfl ?_
    refine aw_getP (b := 72) hC hSt 33 (ms_lt 64 (by decide) hM) (ms_k 64 12 0 (by decide) hM) rfl (by decide) w_926 rfl (ms_p 33 72 (by decide) hM) dX12_layPath_99 ?_
    refine aw_bipush (v := 7) hC dX12_layPath_102 (by decide) ?_
    refine aw_iload_n hC 1 dX12_layPath_104 rfl rfl ?_
    refine aw_imul hC dX12_layPath_105 ?_
    refine aw_bipush (v := 6) hC dX12_layPath_106 (by decide) ?_
    refine aw_iadd hC dX12_layPath_108 ?_
    refine aw_iald hC hSt (ms_lt 72 (by decide) hM) (ms_k 72 14 42 (by decide) hM) (vp_len (n := 42) (ms_l 72 14 42 (by decide) hM) (h6 S1 eS1 S2 eS2 S3 eS3 S4 eS4 S5 eS5 x7 ex7 S8 eS8)) dX12_layPath_109 ?_
    refine aw_putI hC hSt 26 (ms_lt 64 (by decide) hM) (ms_k 64 12 0 (by decide) hM) rfl (by decide) w_1038 rfl rfl rfl rfl dX12_layPath_110 ?_
    generalize eS9 : (sI S8 64 26 (gI S8 72 (((7 : Int32) * a1) + (6 : Int32)).toNatClampNeg)) = S9
    have hM : MS S9 := MS.of (by rw [← eS9]; exact shp_sI _ _ _ _) hM
    refine aw_vret hC dX12_layPath_113 (Nat.le_refl _) (Nat.le_refl _) ?_
    exact FP.qV ((bd_eq eS1).trans ((bd_eq eS2).trans ((bd_eq eS3).trans ((bd_eq eS4).trans ((bd_eq eS5).trans ((bd_eq ex7).trans ((bd_eq eS8).trans ((bd_eq eS9).trans (rfl)))))))))
  · refine aw_icmp_ne hC 93 dX12_layPath_86 (by decide) (fun c6 => ?_) (fun c6 => ?_)
    · refine aw_iconst (v := 0) hC dX12_layPath_93 (by decide) ?_
      simp only [bd_def, if_neg c6] at Jc6 ⊢
      exact Jc6
    · refine aw_iconst (v := 1) hC dX12_layPath_89 (by decide) ?_
      refine aw_goto hC 94 dX12_layPath_90 (by decide) ?_
      simp only [bd_def, if_pos c6] at Jc6 ⊢
      exact Jc6
theorem q_X12_layPath (S : HSt) (_o : Nat) (a1 : Int32) : shp (f_X12_layPath S _o a1) = shp S := by
  unfold f_X12_layPath
  repeat' (first | with_reducible rfl | with_reducible refine (shp_sI _ _ _ _).trans ?_ | with_reducible refine (shp_sJ _ _ _ _).trans ?_ | with_reducible refine shi ?_ ?_ | with_reducible refine shb (fun _ _ => ?_) | (subst_vars; with_reducible rfl) | (subst_vars; with_reducible refine (shp_sI _ _ _ _).trans ?_) | (subst_vars; with_reducible refine (shp_sJ _ _ _ _).trans ?_) | (subst_vars; with_reducible refine shi ?_ ?_) | (subst_vars; with_reducible refine shb (fun _ _ => ?_)))
theorem v_X12_layPath (S : HSt) (_o : Nat) (a1 : Int32) : Fr [(64, 20), (64, 21), (64, 22), (64, 23), (64, 24), (64, 25), (64, 26)] S (f_X12_layPath S _o a1) := by
  unfold f_X12_layPath
  repeat' (first | with_reducible exact Fr.refl _ _ | with_reducible refine Fr.l1 (fun _ _ => ?_) | with_reducible refine Fr.ite ?_ ?_ | with_reducible refine Fr.sE (by assumption) (by first | decide | simp only [List.mem_cons, List.not_mem_nil, or_false, true_or, or_true, eq_self_iff_true]) ?_ | with_reducible refine Fr.jE (by assumption) ?_ | with_reducible refine Fr.rE (by assumption) (by first | decide | simp only [List.mem_cons, List.not_mem_nil, or_false, true_or, or_true, eq_self_iff_true]) ?_ | with_reducible refine Fr.iE (by assumption) ?_ ?_)
theorem w_X12_layPath (S : HSt) (_o : Nat) (a1 : Int32) (r : HSt) (e : f_X12_layPath S _o a1 = r) : Fr [(64, 20), (64, 21), (64, 22), (64, 23), (64, 24), (64, 25), (64, 26)] S r := by
  rw [← e]
  exact v_X12_layPath S _o a1
noncomputable def L_X12_keepPath_2 : Nat → HSt → Int32 → Int32 → Int32 × Int32 × HSt
  | 0, S, v1, v2 => (v1, v2, S)
  | n + 1, S, v1, v2 =>
    if (7 : Int32) ≤ v2 then ((pr (v1) (pr (v2) (S)))) else (bd ((sI S 72 (((7 : Int32) * v1) + v2).toNatClampNeg (f_X12_of S 64 v2))) fun S1002 => L_X12_keepPath_2 n S1002 v1 (v2 + (1 : Int32)))
def T_X12_keepPath_2 : Nat → HSt → Int32 → Int32 → Prop
  | 0, _, _, _ => False
  | n + 1, S, v1, v2 => ((¬ (7 : Int32) ≤ v2) → vp_in (((7 : Int32) * v1) + v2) 42) ∧ ((¬ (7 : Int32) ≤ v2) → ∀ S1002 : HSt, (sI S 72 (((7 : Int32) * v1) + v2).toNatClampNeg (f_X12_of S 64 v2)) = S1002 → T_X12_keepPath_2 n S1002 v1 (v2 + (1 : Int32)))
theorem qL_X12_keepPath_2 : ∀ (n : Nat) (S : HSt) (v1 : Int32) (v2 : Int32), shp (L_X12_keepPath_2 n S v1 v2).2.2 = shp S := by
  intro n
  induction n with
  | zero => intros; rfl
  | succ n ih =>
    intro S v1 v2
    unfold L_X12_keepPath_2
    repeat' (first | with_reducible refine shpr2 ?_ | with_reducible rfl | with_reducible refine (ih _ _ _).trans ?_ | with_reducible refine (shp_sI _ _ _ _).trans ?_ | with_reducible refine (shp_sJ _ _ _ _).trans ?_ | with_reducible refine shi ?_ ?_ | with_reducible refine shb (fun _ _ => ?_) | with_reducible refine shiP (fun q : Int32 × Int32 × HSt => q.2.2) ?_ ?_ | with_reducible refine shbP (fun q : Int32 × Int32 × HSt => q.2.2) (fun _ _ => ?_) | (subst_vars; with_reducible rfl) | (subst_vars; with_reducible refine (ih _ _ _).trans ?_) | (subst_vars; with_reducible refine (shp_sI _ _ _ _).trans ?_) | (subst_vars; with_reducible refine (shp_sJ _ _ _ _).trans ?_) | (subst_vars; with_reducible refine shi ?_ ?_) | (subst_vars; with_reducible refine shb (fun _ _ => ?_)))
theorem vL_X12_keepPath_2 : ∀ (n : Nat) (S : HSt) (v1 : Int32) (v2 : Int32), Fr [(72, 1000)] S (L_X12_keepPath_2 n S v1 v2).2.2 := by
  intro n
  induction n with
  | zero => intros; exact Fr.refl _ _
  | succ n ih =>
    intro S v1 v2
    unfold L_X12_keepPath_2
    repeat' (first | with_reducible refine frpr2 ?_ | with_reducible exact Fr.refl _ _ | with_reducible refine Fr.lP (fun q : Int32 × Int32 × HSt => q.2.2) (fun _ _ => ?_) | with_reducible refine Fr.iteP (fun q : Int32 × Int32 × HSt => q.2.2) ?_ ?_ | with_reducible refine Fr.l1 (fun _ _ => ?_) | with_reducible refine Fr.ite ?_ ?_ | with_reducible refine Fr.sE (by assumption) (by first | decide | simp only [List.mem_cons, List.not_mem_nil, or_false, true_or, or_true, eq_self_iff_true]) ?_ | with_reducible refine Fr.jE (by assumption) ?_ | with_reducible refine Fr.rE (by assumption) (by first | decide | simp only [List.mem_cons, List.not_mem_nil, or_false, true_or, or_true, eq_self_iff_true]) ?_ | with_reducible refine Fr.iE (by assumption) ?_ ?_ | with_reducible refine Fr.tr (ih _ _ _) (by first | decide | simp only [List.mem_cons, List.not_mem_nil, or_false, forall_eq_or_imp, forall_eq, true_or, or_true, and_self, eq_self_iff_true]) ?_)
theorem wL_X12_keepPath_2 (n : Nat) (S : HSt) (v1 : Int32) (v2 : Int32) (r : Int32 × Int32 × HSt) (e : L_X12_keepPath_2 n S v1 v2 = r) : Fr [(72, 1000)] S r.2.2 := by
  rw [← e]
  exact vL_X12_keepPath_2 n S v1 v2
set_option maxRecDepth 100000 in
theorem l_X12_keepPath_2 {p : Program} {l : Launch} {e : Env} {s : State} {m : MethodId} {args : Array Value} {below : List Frame} {meth : Method} {c : Code} {G : GG} {Q : State → Prop} (hC : ACx p s m args meth c cX12_keepPath RX12 3 none) (hSt : St G s)  : ∀ (n : Nat) (S : HSt) (v1 : Int32) (v2 : Int32), MS S → T_X12_keepPath_2 n S v1 v2 → AW p l e (rmD 1 0 0) s m args below meth c G 3 Q (L_X12_keepPath_2 n S v1 v2).2.2 0 0 30 [(0, .ref 64), (1, .int (L_X12_keepPath_2 n S v1 v2).1), (2, .int (L_X12_keepPath_2 n S v1 v2).2.1)] [] → AW p l e (rmD 1 0 0) s m args below meth c G 3 Q S 0 0 2 [(0, .ref 64), (1, .int v1), (2, .int v2)] [] := by
  intro n
  induction n with
  | zero => intro S v1 v2 _ hT; exact hT.elim
  | succ n ih =>
    intro S v1 v2 hM hT hk
    unfold T_X12_keepPath_2 at hT
    obtain ⟨h0, h1⟩ := hT
    refine aw_iload_n hC 2 dX12_keepPath_2 rfl rfl ?_
    refine aw_bipush (v := 7) hC dX12_keepPath_3 (by decide) ?_
    refine aw_icmp_ge hC 30 dX12_keepPath_5 (by decide) (fun c1001 => ?_) (fun c1001 => ?_)
    · refine aw_sub [0, 1, 2] rfl ?_
      have E : L_X12_keepPath_2 (n + 1) S v1 v2 = _ := (if_pos c1001).trans (rfl)
      rw [E] at hk
      exact hk
    · refine aw_aload_n hC 0 dX12_keepPath_8 rfl rfl ?_
      refine aw_getP (b := 72) hC hSt 33 (ms_lt 64 (by decide) hM) (ms_k 64 12 0 (by decide) hM) rfl (by decide) w_926 rfl (ms_p 33 72 (by decide) hM) dX12_keepPath_9 ?_
      refine aw_bipush (v := 7) hC dX12_keepPath_12 (by decide) ?_
      refine aw_iload_n hC 1 dX12_keepPath_14 rfl rfl ?_
      refine aw_imul hC dX12_keepPath_15 ?_
      refine aw_iload_n hC 2 dX12_keepPath_16 rfl rfl ?_
      refine aw_iadd hC dX12_keepPath_17 ?_
      refine aw_aload_n hC 0 dX12_keepPath_18 rfl rfl ?_
      refine aw_iload_n hC 2 dX12_keepPath_19 rfl rfl ?_
      refine aw_cV1r hC hSt (t_X12_of G l hM _) w_1039 w_1041 w_1042 w_1043 w_953 rfl rfl (by decide +kernel) ⟨Nat.le_of_ble_eq_true rfl, Nat.le_of_ble_eq_true rfl⟩ (ms_lt 64 (by decide) hM) (ms_k 64 12 0 (by decide) hM) rfl (Nat.le_of_ble_eq_true rfl) dX12_keepPath_20 ⟨Nat.zero_le _, Nat.zero_le _⟩ ?_
      refine aw_iast hC hSt (ms_lt 72 (by decide) hM) (ms_k 72 14 42 (by decide) hM) (vp_len (n := 42) (ms_l 72 14 42 (by decide) hM) (h0 c1001)) dX12_keepPath_23 ?_
      generalize eS1002 : (sI S 72 (((7 : Int32) * v1) + v2).toNatClampNeg (f_X12_of S 64 v2)) = S1002
      have hM : MS S1002 := MS.of (by rw [← eS1002]; exact shp_sI _ _ _ _) hM
      refine aw_iinc (v := (v2 + (1 : Int32))) hC 2 [(2, .int _), (0, .ref 64), (1, .int _)] dX12_keepPath_24 rfl rfl (by decide) rfl ?_
      refine aw_goto hC 2 dX12_keepPath_27 (by decide) ?_
      refine aw_sub [1, 2, 0] rfl ?_
      have hTn := (h1 c1001 S1002 eS1002)
      have hMn : MS S1002 := hM
      have E : L_X12_keepPath_2 (n + 1) S v1 v2 = _ := (if_neg c1001).trans ((bd_eq eS1002).trans (rfl))
      rw [E] at hk
      exact ih _ _ _ hMn hTn hk
noncomputable def f_X12_keepPath (S : HSt) (_o : Nat) (a1 : Int32) : HSt := bd (L_X12_keepPath_2 1000 S a1 (0 : Int32)) fun r1 => r1.2.2
def p_X12_keepPath (S : HSt) (_o : Nat) (a1 : Int32) : Prop := (T_X12_keepPath_2 1000 S a1 (0 : Int32))
set_option maxRecDepth 100000 in
theorem t_X12_keepPath (G : GG) (l : Launch) {S : HSt} (hM : MS S) (a1 : Int32) (hp : p_X12_keepPath S 64 a1) : AM G l yX12_keepPath cX12_keepPath 3 none (rmD 1 0 0) 0 0 [.ref 64, .int a1] S (FP none (f_X12_keepPath S 64 a1)) := by
  have h0 := hp
  unfold p_X12_keepPath at h0
  refine AM.mk (by decide) (Nat.le_of_ble_eq_true rfl) ?_
  intro p e s m below meth c hC hSt _
  refine aw_iconst (v := 0) hC dX12_keepPath_0 (by decide) ?_
  refine aw_istore_n hC [(2, .int _), (0, .ref 64), (1, .int _)] dX12_keepPath_1 rfl (by decide) rfl ?_
  refine aw_sub [1, 2, 0] rfl ?_
  refine l_X12_keepPath_2 hC hSt 1000 _ _ _ hM (h0) ?_
  generalize er1 : L_X12_keepPath_2 1000 S a1 (0 : Int32) = r1
  have hM : MS r1.2.2 := MS.of (by rw [← er1]; exact qL_X12_keepPath_2 _ _ _ _) hM
  refine aw_vret hC dX12_keepPath_30 (Nat.le_refl _) (Nat.le_refl _) ?_
  exact FP.qV ((bd_eq er1).trans (rfl))
theorem q_X12_keepPath (S : HSt) (_o : Nat) (a1 : Int32) : shp (f_X12_keepPath S _o a1) = shp S := by
  unfold f_X12_keepPath
  repeat' (first | with_reducible rfl | with_reducible refine (qL_X12_keepPath_2 _ _ _ _).trans ?_ | with_reducible refine (shp_sI _ _ _ _).trans ?_ | with_reducible refine (shp_sJ _ _ _ _).trans ?_ | with_reducible refine shi ?_ ?_ | with_reducible refine shb (fun _ _ => ?_) | (subst_vars; with_reducible rfl) | (subst_vars; with_reducible refine (qL_X12_keepPath_2 _ _ _ _).trans ?_) | (subst_vars; with_reducible refine (shp_sI _ _ _ _).trans ?_) | (subst_vars; with_reducible refine (shp_sJ _ _ _ _).trans ?_) | (subst_vars; with_reducible refine shi ?_ ?_) | (subst_vars; with_reducible refine shb (fun _ _ => ?_)))
theorem v_X12_keepPath (S : HSt) (_o : Nat) (a1 : Int32) : Fr [(72, 1000)] S (f_X12_keepPath S _o a1) := by
  unfold f_X12_keepPath
  repeat' (first | with_reducible exact Fr.refl _ _ | with_reducible refine Fr.l1 (fun _ _ => ?_) | with_reducible refine Fr.ite ?_ ?_ | with_reducible refine Fr.sE (by assumption) (by first | decide | simp only [List.mem_cons, List.not_mem_nil, or_false, true_or, or_true, eq_self_iff_true]) ?_ | with_reducible refine Fr.jE (by assumption) ?_ | with_reducible refine Fr.rE (by assumption) (by first | decide | simp only [List.mem_cons, List.not_mem_nil, or_false, true_or, or_true, eq_self_iff_true]) ?_ | with_reducible refine Fr.iE (by assumption) ?_ ?_ | with_reducible refine Fr.tr (wL_X12_keepPath_2 _ _ _ _ _ (by assumption)) (by first | decide | simp only [List.mem_cons, List.not_mem_nil, or_false, forall_eq_or_imp, forall_eq, true_or, or_true, and_self, eq_self_iff_true]) ?_)
theorem w_X12_keepPath (S : HSt) (_o : Nat) (a1 : Int32) (r : HSt) (e : f_X12_keepPath S _o a1 = r) : Fr [(72, 1000)] S r := by
  rw [← e]
  exact v_X12_keepPath S _o a1
noncomputable def F_X12_mayMove (S : HSt) (_o : Nat) (a1 : Int32) (a2 : Int32) : Int32 × HSt := bd ((if (6 : Int32) ≤ a1 then (if ((a2 >>> (((a1 - (6 : Int32)) / (2 : Int32)) &&& 31)) &&& (1 : Int32)) = 0 then (1 : Int32) else (0 : Int32)) else (if (f_X12_isStill S 64) = 0 then (1 : Int32) else (0 : Int32)))) fun x4 => pr (x4) (S)
noncomputable def f_X12_mayMove (S : HSt) (_o : Nat) (a1 : Int32) (a2 : Int32) : Int32 := (F_X12_mayMove S _o a1 a2).1
set_option maxRecDepth 100000 in
theorem t_X12_mayMove (G : GG) (l : Launch) {S : HSt} (hM : MS S) (a1 : Int32) (a2 : Int32)  : AM G l yX12_mayMove cX12_mayMove 3 (some .boolean) (rmD 1 0 0) 0 0 [.ref 64, .int a1, .int a2] S (FP (some (.int (f_X12_mayMove S 64 a1 a2))) (S)) := by
  refine AM.mk (by decide) (Nat.le_of_ble_eq_true rfl) ?_
  intro p e s m below meth c hC hSt _
  refine aw_iload_n hC 1 dX12_mayMove_0 rfl rfl ?_
  refine aw_bipush (v := 6) hC dX12_mayMove_1 (by decide) ?_
  refine aw_cut (S' := S) (pc' := 39) (lv' := [(0, .ref 64), (1, .int a1), (2, .int a2)]) (st' := [.int (if (6 : Int32) ≤ a1 then (if ((a2 >>> (((a1 - (6 : Int32)) / (2 : Int32)) &&& 31)) &&& (1 : Int32)) = 0 then (1 : Int32) else (0 : Int32)) else (if (f_X12_isStill S 64) = 0 then (1 : Int32) else (0 : Int32)))]) ?_ (fun Jc1 => ?_)
  · generalize ex4 : (if (6 : Int32) ≤ a1 then (if ((a2 >>> (((a1 - (6 : Int32)) / (2 : Int32)) &&& 31)) &&& (1 : Int32)) = 0 then (1 : Int32) else (0 : Int32)) else (if (f_X12_isStill S 64) = 0 then (1 : Int32) else (0 : Int32))) = x4
    refine aw_zret hC dX12_mayMove_39 (Nat.le_refl _) (Nat.le_refl _) (Bz.n (ex4 ▸ (Bz.ite (Bz.ite (Or.inr rfl) (Or.inl rfl)) (Bz.ite (Or.inr rfl) (Or.inl rfl))))) ?_
    exact FP.pI ((bd_eq ex4).trans (rfl))
  · refine aw_icmp_ge hC 21 dX12_mayMove_3 (by decide) (fun c1 => ?_) (fun c1 => ?_)
    · refine aw_iload_n hC 2 dX12_mayMove_21 rfl rfl ?_
      refine aw_iload_n hC 1 dX12_mayMove_22 rfl rfl ?_
      refine aw_bipush (v := 6) hC dX12_mayMove_23 (by decide) ?_
      refine aw_isub hC dX12_mayMove_25 ?_
      refine aw_iconst (v := 2) hC dX12_mayMove_26 (by decide) ?_
      refine aw_idiv hC dX12_mayMove_27 (by decide) ?_
      refine aw_ishr hC dX12_mayMove_28 ?_
      refine aw_iconst (v := 1) hC dX12_mayMove_29 (by decide) ?_
      refine aw_iand hC dX12_mayMove_30 ?_
      refine aw_if_ne hC 38 dX12_mayMove_31 (by decide) (fun c2 => ?_) (fun c2 => ?_)
      · refine aw_iconst (v := 0) hC dX12_mayMove_38 (by decide) ?_
        simp only [bd_def, if_pos c1, if_neg c2] at Jc1 ⊢
        exact Jc1
      · refine aw_iconst (v := 1) hC dX12_mayMove_34 (by decide) ?_
        refine aw_goto hC 39 dX12_mayMove_35 (by decide) ?_
        simp only [bd_def, if_pos c1, if_pos c2] at Jc1 ⊢
        exact Jc1
    · refine aw_aload_n hC 0 dX12_mayMove_6 rfl rfl ?_
      refine aw_cV0r hC hSt (t_X12_isStill G l hM ) w_1099 w_1118 w_1119 w_1120 w_953 rfl rfl (by decide +kernel) ⟨Nat.le_of_ble_eq_true rfl, Nat.le_of_ble_eq_true rfl⟩ (ms_lt 64 (by decide) hM) (ms_k 64 12 0 (by decide) hM) rfl (Nat.le_of_ble_eq_true rfl) dX12_mayMove_7 ⟨Nat.zero_le _, Nat.zero_le _⟩ ?_
      refine aw_if_ne hC 17 dX12_mayMove_10 (by decide) (fun c3 => ?_) (fun c3 => ?_)
      · refine aw_iconst (v := 0) hC dX12_mayMove_17 (by decide) ?_
        refine aw_goto hC 39 dX12_mayMove_18 (by decide) ?_
        simp only [bd_def, if_neg c1, if_neg c3] at Jc1 ⊢
        exact Jc1
      · refine aw_iconst (v := 1) hC dX12_mayMove_13 (by decide) ?_
        refine aw_goto hC 39 dX12_mayMove_14 (by decide) ?_
        simp only [bd_def, if_neg c1, if_pos c3] at Jc1 ⊢
        exact Jc1
theorem b_X12_mayMove (S : HSt) (_o : Nat) (a1 : Int32) (a2 : Int32) : Bz (f_X12_mayMove S _o a1 a2) := by
  unfold f_X12_mayMove F_X12_mayMove
  (try dsimp only [bd])
  (repeat' split) <;> first | exact Or.inl rfl | exact Or.inr rfl | exact b_X12_isStill _ _
noncomputable def f_X12_doMove (S : HSt) (_o : Nat) (a1 : Int32) (a2 : Int32) : HSt := bd ((sI S 74 (a2 + (1 : Int32)).toNatClampNeg (gI S 74 a2.toNatClampNeg))) fun S1 => bd ((sI S1 75 (a2 + (1 : Int32)).toNatClampNeg (gI S1 75 a2.toNatClampNeg))) fun S2 => bd ((if (6 : Int32) ≤ a1 then (bd (((a1 - (6 : Int32)) / (2 : Int32))) fun x4 => bd ((sI S2 74 (a2 + (1 : Int32)).toNatClampNeg ((gI S2 74 (a2 + (1 : Int32)).toNatClampNeg) ||| ((1 : Int32) <<< (x4 &&& 31))))) fun S5 => bd ((if (a1 - a1 / (2 : Int32) * (2 : Int32)) = (1 : Int32) then (1 : Int32) else (0 : Int32))) fun x7 => bd (f_X12_counts S5 64 x7 x4) fun r8 => bd ((sI r8.2 75 (a2 + (1 : Int32)).toNatClampNeg ((gI S5 75 (a2 + (1 : Int32)).toNatClampNeg) + r8.1))) fun S9 => bd (f_X12_shut S9 64) fun r10 => r10) else (bd ((if (a1 - a1 / (2 : Int32) * (2 : Int32)) = 0 then (4 : Int32) else (8 : Int32))) fun x12 => bd (f_X12_doTick S2 64 (0 : Int32) ((a1 / (2 : Int32)) + (1 : Int32)) x12 (-1000000 : Int32)) fun r13 => r13))) fun S14 => bd (f_X12_keepPath S14 64 (a2 + (1 : Int32))) fun r15 => r15
def p_X12_doMove (S : HSt) (_o : Nat) (a1 : Int32) (a2 : Int32) : Prop := (vp_in a2 6) ∧ (vp_in (a2 + (1 : Int32)) 6) ∧ (∀ S1 : HSt, (sI S 74 (a2 + (1 : Int32)).toNatClampNeg (gI S 74 a2.toNatClampNeg)) = S1 → vp_in a2 6) ∧ (∀ S1 : HSt, (sI S 74 (a2 + (1 : Int32)).toNatClampNeg (gI S 74 a2.toNatClampNeg)) = S1 → vp_in (a2 + (1 : Int32)) 6) ∧ (∀ S1 : HSt, (sI S 74 (a2 + (1 : Int32)).toNatClampNeg (gI S 74 a2.toNatClampNeg)) = S1 → ∀ S2 : HSt, (sI S1 75 (a2 + (1 : Int32)).toNatClampNeg (gI S1 75 a2.toNatClampNeg)) = S2 → ((6 : Int32) ≤ a1) → ∀ x4 : Int32, ((a1 - (6 : Int32)) / (2 : Int32)) = x4 → vp_in (a2 + (1 : Int32)) 6) ∧ (∀ S1 : HSt, (sI S 74 (a2 + (1 : Int32)).toNatClampNeg (gI S 74 a2.toNatClampNeg)) = S1 → ∀ S2 : HSt, (sI S1 75 (a2 + (1 : Int32)).toNatClampNeg (gI S1 75 a2.toNatClampNeg)) = S2 → ((6 : Int32) ≤ a1) → ∀ x4 : Int32, ((a1 - (6 : Int32)) / (2 : Int32)) = x4 → vp_in (a2 + (1 : Int32)) 6) ∧ (∀ S1 : HSt, (sI S 74 (a2 + (1 : Int32)).toNatClampNeg (gI S 74 a2.toNatClampNeg)) = S1 → ∀ S2 : HSt, (sI S1 75 (a2 + (1 : Int32)).toNatClampNeg (gI S1 75 a2.toNatClampNeg)) = S2 → ((6 : Int32) ≤ a1) → ∀ x4 : Int32, ((a1 - (6 : Int32)) / (2 : Int32)) = x4 → ∀ S5 : HSt, (sI S2 74 (a2 + (1 : Int32)).toNatClampNeg ((gI S2 74 (a2 + (1 : Int32)).toNatClampNeg) ||| ((1 : Int32) <<< (x4 &&& 31)))) = S5 → vp_in (a2 + (1 : Int32)) 6) ∧ (∀ S1 : HSt, (sI S 74 (a2 + (1 : Int32)).toNatClampNeg (gI S 74 a2.toNatClampNeg)) = S1 → ∀ S2 : HSt, (sI S1 75 (a2 + (1 : Int32)).toNatClampNeg (gI S1 75 a2.toNatClampNeg)) = S2 → ((6 : Int32) ≤ a1) → ∀ x4 : Int32, ((a1 - (6 : Int32)) / (2 : Int32)) = x4 → ∀ S5 : HSt, (sI S2 74 (a2 + (1 : Int32)).toNatClampNeg ((gI S2 74 (a2 + (1 : Int32)).toNatClampNeg) ||| ((1 : Int32) <<< (x4 &&& 31)))) = S5 → ∀ x7 : Int32, (if (a1 - a1 / (2 : Int32) * (2 : Int32)) = (1 : Int32) then (1 : Int32) else (0 : Int32)) = x7 → p_X12_counts S5 64 x7 x4) ∧ (∀ S1 : HSt, (sI S 74 (a2 + (1 : Int32)).toNatClampNeg (gI S 74 a2.toNatClampNeg)) = S1 → ∀ S2 : HSt, (sI S1 75 (a2 + (1 : Int32)).toNatClampNeg (gI S1 75 a2.toNatClampNeg)) = S2 → ((6 : Int32) ≤ a1) → ∀ x4 : Int32, ((a1 - (6 : Int32)) / (2 : Int32)) = x4 → ∀ S5 : HSt, (sI S2 74 (a2 + (1 : Int32)).toNatClampNeg ((gI S2 74 (a2 + (1 : Int32)).toNatClampNeg) ||| ((1 : Int32) <<< (x4 &&& 31)))) = S5 → ∀ x7 : Int32, (if (a1 - a1 / (2 : Int32) * (2 : Int32)) = (1 : Int32) then (1 : Int32) else (0 : Int32)) = x7 → ∀ r8, f_X12_counts S5 64 x7 x4 = r8 → vp_in (a2 + (1 : Int32)) 6) ∧ (∀ S1 : HSt, (sI S 74 (a2 + (1 : Int32)).toNatClampNeg (gI S 74 a2.toNatClampNeg)) = S1 → ∀ S2 : HSt, (sI S1 75 (a2 + (1 : Int32)).toNatClampNeg (gI S1 75 a2.toNatClampNeg)) = S2 → (¬ (6 : Int32) ≤ a1) → ∀ x12 : Int32, (if (a1 - a1 / (2 : Int32) * (2 : Int32)) = 0 then (4 : Int32) else (8 : Int32)) = x12 → p_X12_doTick S2 64 (0 : Int32) ((a1 / (2 : Int32)) + (1 : Int32)) x12 (-1000000 : Int32)) ∧ (∀ S1 : HSt, (sI S 74 (a2 + (1 : Int32)).toNatClampNeg (gI S 74 a2.toNatClampNeg)) = S1 → ∀ S2 : HSt, (sI S1 75 (a2 + (1 : Int32)).toNatClampNeg (gI S1 75 a2.toNatClampNeg)) = S2 → ∀ S14 : HSt, (if (6 : Int32) ≤ a1 then (bd (((a1 - (6 : Int32)) / (2 : Int32))) fun x4 => bd ((sI S2 74 (a2 + (1 : Int32)).toNatClampNeg ((gI S2 74 (a2 + (1 : Int32)).toNatClampNeg) ||| ((1 : Int32) <<< (x4 &&& 31))))) fun S5 => bd ((if (a1 - a1 / (2 : Int32) * (2 : Int32)) = (1 : Int32) then (1 : Int32) else (0 : Int32))) fun x7 => bd (f_X12_counts S5 64 x7 x4) fun r8 => bd ((sI r8.2 75 (a2 + (1 : Int32)).toNatClampNeg ((gI S5 75 (a2 + (1 : Int32)).toNatClampNeg) + r8.1))) fun S9 => bd (f_X12_shut S9 64) fun r10 => r10) else (bd ((if (a1 - a1 / (2 : Int32) * (2 : Int32)) = 0 then (4 : Int32) else (8 : Int32))) fun x12 => bd (f_X12_doTick S2 64 (0 : Int32) ((a1 / (2 : Int32)) + (1 : Int32)) x12 (-1000000 : Int32)) fun r13 => r13)) = S14 → p_X12_keepPath S14 64 (a2 + (1 : Int32)))
set_option maxRecDepth 100000 in
theorem t_X12_doMove (G : GG) (l : Launch) {S : HSt} (hM : MS S) (a1 : Int32) (a2 : Int32) (hp : p_X12_doMove S 64 a1 a2) : AM G l yX12_doMove cX12_doMove 4 none (rmD 5 0 0) 0 0 [.ref 64, .int a1, .int a2] S (FP none (f_X12_doMove S 64 a1 a2)) := by
  obtain ⟨h0, h1, h2, h3, h4, h5, h6, h7, h8, h9, h10⟩ := hp
  refine AM.mk (by decide) (Nat.le_of_ble_eq_true rfl) ?_
  intro p e s m below meth c hC hSt _
  refine aw_aload_n hC 0 dX12_doMove_0 rfl rfl ?_
  refine aw_getP (b := 74) hC hSt 35 (ms_lt 64 (by decide) hM) (ms_k 64 12 0 (by decide) hM) rfl (by decide) w_928 rfl (ms_p 35 74 (by decide) hM) dX12_doMove_1 ?_
  refine aw_iload_n hC 2 dX12_doMove_4 rfl rfl ?_
  refine aw_iconst (v := 1) hC dX12_doMove_5 (by decide) ?_
  refine aw_iadd hC dX12_doMove_6 ?_
  refine aw_aload_n hC 0 dX12_doMove_7 rfl rfl ?_
  refine aw_getP (b := 74) hC hSt 35 (ms_lt 64 (by decide) hM) (ms_k 64 12 0 (by decide) hM) rfl (by decide) w_928 rfl (ms_p 35 74 (by decide) hM) dX12_doMove_8 ?_
  refine aw_iload_n hC 2 dX12_doMove_11 rfl rfl ?_
  refine aw_iald hC hSt (ms_lt 74 (by decide) hM) (ms_k 74 14 6 (by decide) hM) (vp_len (n := 6) (ms_l 74 14 6 (by decide) hM) (h0)) dX12_doMove_12 ?_
  refine aw_iast hC hSt (ms_lt 74 (by decide) hM) (ms_k 74 14 6 (by decide) hM) (vp_len (n := 6) (ms_l 74 14 6 (by decide) hM) (h1)) dX12_doMove_13 ?_
  generalize eS1 : (sI S 74 (a2 + (1 : Int32)).toNatClampNeg (gI S 74 a2.toNatClampNeg)) = S1
  have hM : MS S1 := MS.of (by rw [← eS1]; exact shp_sI _ _ _ _) hM
  refine aw_aload_n hC 0 dX12_doMove_14 rfl rfl ?_
  refine aw_getP (b := 75) hC hSt 36 (ms_lt 64 (by decide) hM) (ms_k 64 12 0 (by decide) hM) rfl (by decide) w_929 rfl (ms_p 36 75 (by decide) hM) dX12_doMove_15 ?_
  refine aw_iload_n hC 2 dX12_doMove_18 rfl rfl ?_
  refine aw_iconst (v := 1) hC dX12_doMove_19 (by decide) ?_
  refine aw_iadd hC dX12_doMove_20 ?_
  refine aw_aload_n hC 0 dX12_doMove_21 rfl rfl ?_
  refine aw_getP (b := 75) hC hSt 36 (ms_lt 64 (by decide) hM) (ms_k 64 12 0 (by decide) hM) rfl (by decide) w_929 rfl (ms_p 36 75 (by decide) hM) dX12_doMove_22 ?_
  refine aw_iload_n hC 2 dX12_doMove_25 rfl rfl ?_
  refine aw_iald hC hSt (ms_lt 75 (by decide) hM) (ms_k 75 14 6 (by decide) hM) (vp_len (n := 6) (ms_l 75 14 6 (by decide) hM) (h2 S1 eS1)) dX12_doMove_26 ?_
  refine aw_iast hC hSt (ms_lt 75 (by decide) hM) (ms_k 75 14 6 (by decide) hM) (vp_len (n := 6) (ms_l 75 14 6 (by decide) hM) (h3 S1 eS1)) dX12_doMove_27 ?_
  generalize eS2 : (sI S1 75 (a2 + (1 : Int32)).toNatClampNeg (gI S1 75 a2.toNatClampNeg)) = S2
  have hM : MS S2 := MS.of (by rw [← eS2]; exact shp_sI _ _ _ _) hM
  refine aw_iload_n hC 1 dX12_doMove_28 rfl rfl ?_
  refine aw_bipush (v := 6) hC dX12_doMove_29 (by decide) ?_
  refine aw_cut (S' := (if (6 : Int32) ≤ a1 then (bd (((a1 - (6 : Int32)) / (2 : Int32))) fun x4 => bd ((sI S2 74 (a2 + (1 : Int32)).toNatClampNeg ((gI S2 74 (a2 + (1 : Int32)).toNatClampNeg) ||| ((1 : Int32) <<< (x4 &&& 31))))) fun S5 => bd ((if (a1 - a1 / (2 : Int32) * (2 : Int32)) = (1 : Int32) then (1 : Int32) else (0 : Int32))) fun x7 => bd (f_X12_counts S5 64 x7 x4) fun r8 => bd ((sI r8.2 75 (a2 + (1 : Int32)).toNatClampNeg ((gI S5 75 (a2 + (1 : Int32)).toNatClampNeg) + r8.1))) fun S9 => bd (f_X12_shut S9 64) fun r10 => r10) else (bd ((if (a1 - a1 / (2 : Int32) * (2 : Int32)) = 0 then (4 : Int32) else (8 : Int32))) fun x12 => bd (f_X12_doTick S2 64 (0 : Int32) ((a1 / (2 : Int32)) + (1 : Int32)) x12 (-1000000 : Int32)) fun r13 => r13))) (pc' := 114) (lv' := [(0, .ref 64), (1, .int a1), (2, .int a2)]) (st' := []) ?_ (fun Jc3 => ?_)
  · generalize eS14 : (if (6 : Int32) ≤ a1 then (bd (((a1 - (6 : Int32)) / (2 : Int32))) fun x4 => bd ((sI S2 74 (a2 + (1 : Int32)).toNatClampNeg ((gI S2 74 (a2 + (1 : Int32)).toNatClampNeg) ||| ((1 : Int32) <<< (x4 &&& 31))))) fun S5 => bd ((if (a1 - a1 / (2 : Int32) * (2 : Int32)) = (1 : Int32) then (1 : Int32) else (0 : Int32))) fun x7 => bd (f_X12_counts S5 64 x7 x4) fun r8 => bd ((sI r8.2 75 (a2 + (1 : Int32)).toNatClampNeg ((gI S5 75 (a2 + (1 : Int32)).toNatClampNeg) + r8.1))) fun S9 => bd (f_X12_shut S9 64) fun r10 => r10) else (bd ((if (a1 - a1 / (2 : Int32) * (2 : Int32)) = 0 then (4 : Int32) else (8 : Int32))) fun x12 => bd (f_X12_doTick S2 64 (0 : Int32) ((a1 / (2 : Int32)) + (1 : Int32)) x12 (-1000000 : Int32)) fun r13 => r13)) = S14
    have hM : MS S14 := MS.of (by rw [← eS14]; repeat' (first | with_reducible rfl | with_reducible refine (q_X12_counts _ _ _ _).trans ?_ | with_reducible refine (q_X12_doTick _ _ _ _ _ _).trans ?_ | with_reducible refine (q_X12_keepPath _ _ _).trans ?_ | with_reducible refine (q_X12_shut _ _).trans ?_ | with_reducible refine (shp_sI _ _ _ _).trans ?_ | with_reducible refine (shp_sJ _ _ _ _).trans ?_ | with_reducible refine shi ?_ ?_ | with_reducible refine shb (fun _ _ => ?_) | (subst_vars; with_reducible rfl) | (subst_vars; with_reducible refine (q_X12_counts _ _ _ _).trans ?_) | (subst_vars; with_reducible refine (q_X12_doTick _ _ _ _ _ _).trans ?_) | (subst_vars; with_reducible refine (q_X12_keepPath _ _ _).trans ?_) | (subst_vars; with_reducible refine (q_X12_shut _ _).trans ?_) | (subst_vars; with_reducible refine (shp_sI _ _ _ _).trans ?_) | (subst_vars; with_reducible refine (shp_sJ _ _ _ _).trans ?_) | (subst_vars; with_reducible refine shi ?_ ?_) | (subst_vars; with_reducible refine shb (fun _ _ => ?_)))) hM
    refine aw_aload_n hC 0 dX12_doMove_114 rfl rfl ?_
    refine aw_iload_n hC 2 dX12_doMove_115 rfl rfl ?_
    refine aw_iconst (v := 1) hC dX12_doMove_116 (by decide) ?_
    refine aw_iadd hC dX12_doMove_117 ?_
    refine aw_cV1v hC hSt (t_X12_keepPath G l hM _ (h10 S1 eS1 S2 eS2 S14 eS14)) w_1207 w_1209 w_1210 w_1211 w_953 rfl rfl (by decide +kernel) ⟨Nat.le_of_ble_eq_true rfl, Nat.le_of_ble_eq_true rfl⟩ (ms_lt 64 (by decide) hM) (ms_k 64 12 0 (by decide) hM) rfl (Nat.le_of_ble_eq_true rfl) dX12_doMove_118 ⟨Nat.zero_le _, Nat.zero_le _⟩ ?_
    generalize er15 : f_X12_keepPath S14 64 (a2 + (1 : Int32)) = r15
    have hM : MS r15 := MS.of (by rw [← er15]; exact q_X12_keepPath _ _ _) hM
    refine aw_vret hC dX12_doMove_121 (Nat.le_refl _) (Nat.le_refl _) ?_
    exact FP.qV ((bd_eq eS1).trans ((bd_eq eS2).trans ((bd_eq eS14).trans ((bd_eq er15).trans (rfl)))))
  · refine aw_icmp_ge hC 61 dX12_doMove_31 (by decide) (fun c3 => ?_) (fun c3 => ?_)
    · refine aw_iload_n hC 1 dX12_doMove_61 rfl rfl ?_
      refine aw_bipush (v := 6) hC dX12_doMove_62 (by decide) ?_
      refine aw_isub hC dX12_doMove_64 ?_
      refine aw_iconst (v := 2) hC dX12_doMove_65 (by decide) ?_
      refine aw_idiv hC dX12_doMove_66 (by decide) ?_
      refine aw_istore_n hC [(3, .int _), (0, .ref 64), (1, .int _), (2, .int _)] dX12_doMove_67 rfl (by decide) rfl ?_
      generalize ex4 : ((a1 - (6 : Int32)) / (2 : Int32)) = x4
      refine aw_aload_n hC 1 dX12_doMove_68 rfl rfl ?_
      refine aw_getP (b := 74) hC hSt 35 (ms_lt 64 (by decide) hM) (ms_k 64 12 0 (by decide) hM) rfl (by decide) w_928 rfl (ms_p 35 74 (by decide) hM) dX12_doMove_69 ?_
      refine aw_iload_n hC 3 dX12_doMove_72 rfl rfl ?_
      refine aw_iconst (v := 1) hC dX12_doMove_73 (by decide) ?_
      refine aw_iadd hC dX12_doMove_74 ?_
      refine aw_dup2_11 hC dX12_doMove_75 rfl rfl ?_
      refine aw_iald hC hSt (ms_lt 74 (by decide) hM) (ms_k 74 14 6 (by decide) hM) (vp_len (n := 6) (ms_l 74 14 6 (by decide) hM) (h4 S1 eS1 S2 eS2 c3 x4 ex4)) dX12_doMove_76 ?_
      refine aw_iconst (v := 1) hC dX12_doMove_77 (by decide) ?_
      refine aw_iload_n hC 0 dX12_doMove_78 rfl rfl ?_
      refine aw_ishl hC dX12_doMove_79 ?_
      refine aw_ior hC dX12_doMove_80 ?_
      refine aw_iast hC hSt (ms_lt 74 (by decide) hM) (ms_k 74 14 6 (by decide) hM) (vp_len (n := 6) (ms_l 74 14 6 (by decide) hM) (h5 S1 eS1 S2 eS2 c3 x4 ex4)) dX12_doMove_81 ?_
      generalize eS5 : (sI S2 74 (a2 + (1 : Int32)).toNatClampNeg ((gI S2 74 (a2 + (1 : Int32)).toNatClampNeg) ||| ((1 : Int32) <<< (x4 &&& 31)))) = S5
      have hM : MS S5 := MS.of (by rw [← eS5]; exact shp_sI _ _ _ _) hM
      refine aw_aload_n hC 1 dX12_doMove_82 rfl rfl ?_
      refine aw_getP (b := 75) hC hSt 36 (ms_lt 64 (by decide) hM) (ms_k 64 12 0 (by decide) hM) rfl (by decide) w_929 rfl (ms_p 36 75 (by decide) hM) dX12_doMove_83 ?_
      refine aw_iload_n hC 3 dX12_doMove_86 rfl rfl ?_
      refine aw_iconst (v := 1) hC dX12_doMove_87 (by decide) ?_
      refine aw_iadd hC dX12_doMove_88 ?_
      refine aw_dup2_11 hC dX12_doMove_89 rfl rfl ?_
      refine aw_iald hC hSt (ms_lt 75 (by decide) hM) (ms_k 75 14 6 (by decide) hM) (vp_len (n := 6) (ms_l 75 14 6 (by decide) hM) (h6 S1 eS1 S2 eS2 c3 x4 ex4 S5 eS5)) dX12_doMove_90 ?_
      refine aw_aload_n hC 1 dX12_doMove_91 rfl rfl ?_
      refine aw_iload_n hC 2 dX12_doMove_92 rfl rfl ?_
      refine aw_iconst (v := 2) hC dX12_doMove_93 (by decide) ?_
      refine aw_irem hC dX12_doMove_94 (by decide) ?_
      refine aw_iconst (v := 1) hC dX12_doMove_95 (by decide) ?_
      refine aw_cut (S' := S5) (pc' := 104) (lv' := [(3, .int x4), (0, .ref 64), (1, .int a1), (2, .int a2)]) (st' := [.int (if (a1 - a1 / (2 : Int32) * (2 : Int32)) = (1 : Int32) then (1 : Int32) else (0 : Int32)), .ref 64, .int (gI S5 75 (a2 + (1 : Int32)).toNatClampNeg), .int (a2 + (1 : Int32)), .ref 75]) ?_ (fun Jc6 => ?_)
      · generalize ex7 : (if (a1 - a1 / (2 : Int32) * (2 : Int32)) = (1 : Int32) then (1 : Int32) else (0 : Int32)) = x7
        refine aw_iload_n hC 0 dX12_doMove_104 rfl rfl ?_
        refine aw_cV2r hC hSt (t_X12_counts G l hM _ _ (h7 S1 eS1 S2 eS2 c3 x4 ex4 S5 eS5 x7 ex7)) w_1146 w_1195 w_1196 w_1197 w_953 rfl rfl (by decide +kernel) ⟨Nat.le_of_ble_eq_true rfl, Nat.le_of_ble_eq_true rfl⟩ (ms_lt 64 (by decide) hM) (ms_k 64 12 0 (by decide) hM) rfl (Nat.le_of_ble_eq_true rfl) dX12_doMove_105 ⟨Nat.zero_le _, Nat.zero_le _⟩ ?_
        generalize er8 : f_X12_counts S5 64 x7 x4 = r8
        have hM : MS r8.2 := MS.of (by rw [← er8]; exact q_X12_counts _ _ _ _) hM
        refine aw_iadd hC dX12_doMove_108 ?_
        refine aw_iast hC hSt (ms_lt 75 (by decide) hM) (ms_k 75 14 6 (by decide) hM) (vp_len (n := 6) (ms_l 75 14 6 (by decide) hM) (h8 S1 eS1 S2 eS2 c3 x4 ex4 S5 eS5 x7 ex7 r8 er8)) dX12_doMove_109 ?_
        generalize eS9 : (sI r8.2 75 (a2 + (1 : Int32)).toNatClampNeg ((gI S5 75 (a2 + (1 : Int32)).toNatClampNeg) + r8.1)) = S9
        have hM : MS S9 := MS.of (by rw [← eS9]; exact shp_sI _ _ _ _) hM
        refine aw_aload_n hC 1 dX12_doMove_110 rfl rfl ?_
        refine aw_cV0v hC hSt (t_X12_shut G l hM ) w_1111 w_1113 w_1114 w_1115 w_953 rfl rfl (by decide +kernel) ⟨Nat.le_of_ble_eq_true rfl, Nat.le_of_ble_eq_true rfl⟩ (ms_lt 64 (by decide) hM) (ms_k 64 12 0 (by decide) hM) rfl (Nat.le_of_ble_eq_true rfl) dX12_doMove_111 ⟨Nat.zero_le _, Nat.zero_le _⟩ ?_
        generalize er10 : f_X12_shut S9 64 = r10
        have hM : MS r10 := MS.of (by rw [← er10]; exact q_X12_shut _ _) hM
        refine aw_sub [1, 2, 3] rfl ?_
        subst er10
        subst eS9
        subst er8
        subst ex7
        subst eS5
        subst ex4
        simp only [bd_def, if_pos c3] at Jc3 ⊢
        exact Jc3
      · refine aw_icmp_ne hC 103 dX12_doMove_96 (by decide) (fun c6 => ?_) (fun c6 => ?_)
        · refine aw_iconst (v := 0) hC dX12_doMove_103 (by decide) ?_
          simp only [bd_def, if_neg c6] at Jc6 ⊢
          exact Jc6
        · refine aw_iconst (v := 1) hC dX12_doMove_99 (by decide) ?_
          refine aw_goto hC 104 dX12_doMove_100 (by decide) ?_
          simp only [bd_def, if_pos c6] at Jc6 ⊢
          exact Jc6
    · refine aw_aload_n hC 0 dX12_doMove_34 rfl rfl ?_
      refine aw_iconst (v := 0) hC dX12_doMove_35 (by decide) ?_
      refine aw_iload_n hC 1 dX12_doMove_36 rfl rfl ?_
      refine aw_iconst (v := 2) hC dX12_doMove_37 (by decide) ?_
      refine aw_idiv hC dX12_doMove_38 (by decide) ?_
      refine aw_iconst (v := 1) hC dX12_doMove_39 (by decide) ?_
      refine aw_iadd hC dX12_doMove_40 ?_
      refine aw_iload_n hC 1 dX12_doMove_41 rfl rfl ?_
      refine aw_iconst (v := 2) hC dX12_doMove_42 (by decide) ?_
      refine aw_irem hC dX12_doMove_43 (by decide) ?_
      refine aw_cut (S' := S2) (pc' := 53) (lv' := [(0, .ref 64), (1, .int a1), (2, .int a2)]) (st' := [.int (if (a1 - a1 / (2 : Int32) * (2 : Int32)) = 0 then (4 : Int32) else (8 : Int32)), .int ((a1 / (2 : Int32)) + (1 : Int32)), .int (0 : Int32), .ref 64]) ?_ (fun Jc11 => ?_)
      · generalize ex12 : (if (a1 - a1 / (2 : Int32) * (2 : Int32)) = 0 then (4 : Int32) else (8 : Int32)) = x12
        refine aw_ldc (v := -1000000) hC w_923 dX12_doMove_53 ?_
        refine aw_cV4v hC hSt (t_X12_doTick G l hM _ _ _ _ (h9 S1 eS1 S2 eS2 c3 x12 ex12)) w_1110 w_1155 w_1156 w_1157 w_953 rfl rfl (by decide +kernel) ⟨Nat.le_of_ble_eq_true rfl, Nat.le_of_ble_eq_true rfl⟩ (ms_lt 64 (by decide) hM) (ms_k 64 12 0 (by decide) hM) rfl (Nat.le_of_ble_eq_true rfl) dX12_doMove_55 ⟨Nat.zero_le _, Nat.zero_le _⟩ ?_
        generalize er13 : f_X12_doTick S2 64 (0 : Int32) ((a1 / (2 : Int32)) + (1 : Int32)) x12 (-1000000 : Int32) = r13
        have hM : MS r13 := MS.of (by rw [← er13]; exact q_X12_doTick _ _ _ _ _ _) hM
        refine aw_goto hC 114 dX12_doMove_58 (by decide) ?_
        subst er13
        subst ex12
        simp only [bd_def, if_neg c3] at Jc3 ⊢
        exact Jc3
      · refine aw_if_ne hC 51 dX12_doMove_44 (by decide) (fun c11 => ?_) (fun c11 => ?_)
        · refine aw_bipush (v := 8) hC dX12_doMove_51 (by decide) ?_
          simp only [bd_def, if_neg c11] at Jc11 ⊢
          exact Jc11
        · refine aw_iconst (v := 4) hC dX12_doMove_47 (by decide) ?_
          refine aw_goto hC 53 dX12_doMove_48 (by decide) ?_
          simp only [bd_def, if_pos c11] at Jc11 ⊢
          exact Jc11
theorem q_X12_doMove (S : HSt) (_o : Nat) (a1 : Int32) (a2 : Int32) : shp (f_X12_doMove S _o a1 a2) = shp S := by
  unfold f_X12_doMove
  repeat' (first | with_reducible rfl | with_reducible refine (q_X12_counts _ _ _ _).trans ?_ | with_reducible refine (q_X12_doTick _ _ _ _ _ _).trans ?_ | with_reducible refine (q_X12_keepPath _ _ _).trans ?_ | with_reducible refine (q_X12_shut _ _).trans ?_ | with_reducible refine (shp_sI _ _ _ _).trans ?_ | with_reducible refine (shp_sJ _ _ _ _).trans ?_ | with_reducible refine shi ?_ ?_ | with_reducible refine shb (fun _ _ => ?_) | (subst_vars; with_reducible rfl) | (subst_vars; with_reducible refine (q_X12_counts _ _ _ _).trans ?_) | (subst_vars; with_reducible refine (q_X12_doTick _ _ _ _ _ _).trans ?_) | (subst_vars; with_reducible refine (q_X12_keepPath _ _ _).trans ?_) | (subst_vars; with_reducible refine (q_X12_shut _ _).trans ?_) | (subst_vars; with_reducible refine (shp_sI _ _ _ _).trans ?_) | (subst_vars; with_reducible refine (shp_sJ _ _ _ _).trans ?_) | (subst_vars; with_reducible refine shi ?_ ?_) | (subst_vars; with_reducible refine shb (fun _ _ => ?_)))
theorem v_X12_doMove (S : HSt) (_o : Nat) (a1 : Int32) (a2 : Int32) : Fr [(64, 20), (64, 21), (64, 22), (64, 23), (64, 24), (64, 25), (64, 26), (64, 28), (72, 1000), (74, 1000), (75, 1000)] S (f_X12_doMove S _o a1 a2) := by
  unfold f_X12_doMove
  repeat' (first | with_reducible exact Fr.refl _ _ | with_reducible refine Fr.l1 (fun _ _ => ?_) | with_reducible refine Fr.ite ?_ ?_ | with_reducible refine Fr.sE (by assumption) (by first | decide | simp only [List.mem_cons, List.not_mem_nil, or_false, true_or, or_true, eq_self_iff_true]) ?_ | with_reducible refine Fr.jE (by assumption) ?_ | with_reducible refine Fr.rE (by assumption) (by first | decide | simp only [List.mem_cons, List.not_mem_nil, or_false, true_or, or_true, eq_self_iff_true]) ?_ | with_reducible refine Fr.iE (by assumption) ?_ ?_ | with_reducible refine Fr.tr (w_X12_counts _ _ _ _ _ (by assumption)) (by first | decide | simp only [List.mem_cons, List.not_mem_nil, or_false, forall_eq_or_imp, forall_eq, true_or, or_true, and_self, eq_self_iff_true]) ?_ | with_reducible refine Fr.tr (w_X12_doTick _ _ _ _ _ _ _ (by assumption)) (by first | decide | simp only [List.mem_cons, List.not_mem_nil, or_false, forall_eq_or_imp, forall_eq, true_or, or_true, and_self, eq_self_iff_true]) ?_ | with_reducible refine Fr.tr (w_X12_keepPath _ _ _ _ (by assumption)) (by first | decide | simp only [List.mem_cons, List.not_mem_nil, or_false, forall_eq_or_imp, forall_eq, true_or, or_true, and_self, eq_self_iff_true]) ?_ | with_reducible refine Fr.tr (w_X12_shut _ _ _ (by assumption)) (by first | decide | simp only [List.mem_cons, List.not_mem_nil, or_false, forall_eq_or_imp, forall_eq, true_or, or_true, and_self, eq_self_iff_true]) ?_)
theorem w_X12_doMove (S : HSt) (_o : Nat) (a1 : Int32) (a2 : Int32) (r : HSt) (e : f_X12_doMove S _o a1 a2 = r) : Fr [(64, 20), (64, 21), (64, 22), (64, 23), (64, 24), (64, 25), (64, 26), (64, 28), (72, 1000), (74, 1000), (75, 1000)] S r := by
  rw [← e]
  exact v_X12_doMove S _o a1 a2
noncomputable def L_X12_lookRow_39 : Nat → HSt → Int32 → Int32 → Int32 × Int32 × HSt
  | 0, S, v1, v2 => (v1, v2, S)
  | n + 1, S, v1, v2 =>
    if v1 ≤ v2 then ((pr (v1) (pr (v2) (S)))) else (bd ((sI S 76 v2.toNatClampNeg (gI S 73 v2.toNatClampNeg))) fun S1005 => L_X12_lookRow_39 n S1005 v1 (v2 + (1 : Int32)))
def T_X12_lookRow_39 : Nat → HSt → Int32 → Int32 → Prop
  | 0, _, _, _ => False
  | n + 1, S, v1, v2 => ((¬ v1 ≤ v2) → vp_in v2 6) ∧ ((¬ v1 ≤ v2) → vp_in v2 5) ∧ ((¬ v1 ≤ v2) → ∀ S1005 : HSt, (sI S 76 v2.toNatClampNeg (gI S 73 v2.toNatClampNeg)) = S1005 → T_X12_lookRow_39 n S1005 v1 (v2 + (1 : Int32)))
theorem qL_X12_lookRow_39 : ∀ (n : Nat) (S : HSt) (v1 : Int32) (v2 : Int32), shp (L_X12_lookRow_39 n S v1 v2).2.2 = shp S := by
  intro n
  induction n with
  | zero => intros; rfl
  | succ n ih =>
    intro S v1 v2
    unfold L_X12_lookRow_39
    repeat' (first | with_reducible refine shpr2 ?_ | with_reducible rfl | with_reducible refine (ih _ _ _).trans ?_ | with_reducible refine (shp_sI _ _ _ _).trans ?_ | with_reducible refine (shp_sJ _ _ _ _).trans ?_ | with_reducible refine shi ?_ ?_ | with_reducible refine shb (fun _ _ => ?_) | with_reducible refine shiP (fun q : Int32 × Int32 × HSt => q.2.2) ?_ ?_ | with_reducible refine shbP (fun q : Int32 × Int32 × HSt => q.2.2) (fun _ _ => ?_) | (subst_vars; with_reducible rfl) | (subst_vars; with_reducible refine (ih _ _ _).trans ?_) | (subst_vars; with_reducible refine (shp_sI _ _ _ _).trans ?_) | (subst_vars; with_reducible refine (shp_sJ _ _ _ _).trans ?_) | (subst_vars; with_reducible refine shi ?_ ?_) | (subst_vars; with_reducible refine shb (fun _ _ => ?_)))
theorem vL_X12_lookRow_39 : ∀ (n : Nat) (S : HSt) (v1 : Int32) (v2 : Int32), Fr [(76, 1000)] S (L_X12_lookRow_39 n S v1 v2).2.2 := by
  intro n
  induction n with
  | zero => intros; exact Fr.refl _ _
  | succ n ih =>
    intro S v1 v2
    unfold L_X12_lookRow_39
    repeat' (first | with_reducible refine frpr2 ?_ | with_reducible exact Fr.refl _ _ | with_reducible refine Fr.lP (fun q : Int32 × Int32 × HSt => q.2.2) (fun _ _ => ?_) | with_reducible refine Fr.iteP (fun q : Int32 × Int32 × HSt => q.2.2) ?_ ?_ | with_reducible refine Fr.l1 (fun _ _ => ?_) | with_reducible refine Fr.ite ?_ ?_ | with_reducible refine Fr.sE (by assumption) (by first | decide | simp only [List.mem_cons, List.not_mem_nil, or_false, true_or, or_true, eq_self_iff_true]) ?_ | with_reducible refine Fr.jE (by assumption) ?_ | with_reducible refine Fr.rE (by assumption) (by first | decide | simp only [List.mem_cons, List.not_mem_nil, or_false, true_or, or_true, eq_self_iff_true]) ?_ | with_reducible refine Fr.iE (by assumption) ?_ ?_ | with_reducible refine Fr.tr (ih _ _ _) (by first | decide | simp only [List.mem_cons, List.not_mem_nil, or_false, forall_eq_or_imp, forall_eq, true_or, or_true, and_self, eq_self_iff_true]) ?_)
theorem wL_X12_lookRow_39 (n : Nat) (S : HSt) (v1 : Int32) (v2 : Int32) (r : Int32 × Int32 × HSt) (e : L_X12_lookRow_39 n S v1 v2 = r) : Fr [(76, 1000)] S r.2.2 := by
  rw [← e]
  exact vL_X12_lookRow_39 n S v1 v2
set_option maxRecDepth 100000 in
theorem l_X12_lookRow_39 {p : Program} {l : Launch} {e : Env} {s : State} {m : MethodId} {args : Array Value} {below : List Frame} {meth : Method} {c : Code} {G : GG} {Q : State → Prop} (hC : ACx p s m args meth c cX12_lookRow RX12 3 none) (hSt : St G s)  : ∀ (n : Nat) (S : HSt) (v1 : Int32) (v2 : Int32), MS S → T_X12_lookRow_39 n S v1 v2 → AW p l e (rmD 0 0 0) s m args below meth c G 3 Q (L_X12_lookRow_39 n S v1 v2).2.2 0 0 62 [(0, .ref 64), (1, .int (L_X12_lookRow_39 n S v1 v2).1), (2, .int (L_X12_lookRow_39 n S v1 v2).2.1)] [] → AW p l e (rmD 0 0 0) s m args below meth c G 3 Q S 0 0 39 [(0, .ref 64), (1, .int v1), (2, .int v2)] [] := by
  intro n
  induction n with
  | zero => intro S v1 v2 _ hT; exact hT.elim
  | succ n ih =>
    intro S v1 v2 hM hT hk
    unfold T_X12_lookRow_39 at hT
    obtain ⟨h0, h1, h2⟩ := hT
    refine aw_iload_n hC 2 dX12_lookRow_39 rfl rfl ?_
    refine aw_iload_n hC 1 dX12_lookRow_40 rfl rfl ?_
    refine aw_icmp_ge hC 62 dX12_lookRow_41 (by decide) (fun c1004 => ?_) (fun c1004 => ?_)
    · refine aw_sub [0, 1, 2] rfl ?_
      have E : L_X12_lookRow_39 (n + 1) S v1 v2 = _ := (if_pos c1004).trans (rfl)
      rw [E] at hk
      exact hk
    · refine aw_aload_n hC 0 dX12_lookRow_44 rfl rfl ?_
      refine aw_getP (b := 76) hC hSt 37 (ms_lt 64 (by decide) hM) (ms_k 64 12 0 (by decide) hM) rfl (by decide) w_930 rfl (ms_p 37 76 (by decide) hM) dX12_lookRow_45 ?_
      refine aw_iload_n hC 2 dX12_lookRow_48 rfl rfl ?_
      refine aw_aload_n hC 0 dX12_lookRow_49 rfl rfl ?_
      refine aw_getP (b := 73) hC hSt 34 (ms_lt 64 (by decide) hM) (ms_k 64 12 0 (by decide) hM) rfl (by decide) w_927 rfl (ms_p 34 73 (by decide) hM) dX12_lookRow_50 ?_
      refine aw_iload_n hC 2 dX12_lookRow_53 rfl rfl ?_
      refine aw_iald hC hSt (ms_lt 73 (by decide) hM) (ms_k 73 14 6 (by decide) hM) (vp_len (n := 6) (ms_l 73 14 6 (by decide) hM) (h0 c1004)) dX12_lookRow_54 ?_
      refine aw_iast hC hSt (ms_lt 76 (by decide) hM) (ms_k 76 14 5 (by decide) hM) (vp_len (n := 5) (ms_l 76 14 5 (by decide) hM) (h1 c1004)) dX12_lookRow_55 ?_
      generalize eS1005 : (sI S 76 v2.toNatClampNeg (gI S 73 v2.toNatClampNeg)) = S1005
      have hM : MS S1005 := MS.of (by rw [← eS1005]; exact shp_sI _ _ _ _) hM
      refine aw_iinc (v := (v2 + (1 : Int32))) hC 2 [(2, .int _), (0, .ref 64), (1, .int _)] dX12_lookRow_56 rfl rfl (by decide) rfl ?_
      refine aw_goto hC 39 dX12_lookRow_59 (by decide) ?_
      refine aw_sub [1, 2, 0] rfl ?_
      have hTn := (h2 c1004 S1005 eS1005)
      have hMn : MS S1005 := hM
      have E : L_X12_lookRow_39 (n + 1) S v1 v2 = _ := (if_neg c1004).trans ((bd_eq eS1005).trans (rfl))
      rw [E] at hk
      exact ih _ _ _ hMn hTn hk
noncomputable def f_X12_lookRow (S : HSt) (_o : Nat) (a1 : Int32) : HSt := bd ((if (gI S 64 38) = (-1000000 : Int32) then (bd ((sI S 64 38 a1)) fun S2 => bd ((sI S2 64 39 (gI S2 75 a1.toNatClampNeg))) fun S3 => bd (L_X12_lookRow_39 1000 S3 a1 (0 : Int32)) fun r4 => r4.1) else (if (gI S 75 a1.toNatClampNeg) ≤ (gI S 64 39) then a1 else (bd ((sI S 64 38 a1)) fun S6 => bd ((sI S6 64 39 (gI S6 75 a1.toNatClampNeg))) fun S7 => bd (L_X12_lookRow_39 1000 S7 a1 (0 : Int32)) fun r8 => r8.1)))) fun x9 => bd ((if (gI S 64 38) = (-1000000 : Int32) then (bd ((sI S 64 38 a1)) fun S2 => bd ((sI S2 64 39 (gI S2 75 a1.toNatClampNeg))) fun S3 => bd (L_X12_lookRow_39 1000 S3 a1 (0 : Int32)) fun r4 => r4.2.2) else (if (gI S 75 a1.toNatClampNeg) ≤ (gI S 64 39) then S else (bd ((sI S 64 38 a1)) fun S6 => bd ((sI S6 64 39 (gI S6 75 a1.toNatClampNeg))) fun S7 => bd (L_X12_lookRow_39 1000 S7 a1 (0 : Int32)) fun r8 => r8.2.2)))) fun S10 => S10
def p_X12_lookRow (S : HSt) (_o : Nat) (a1 : Int32) : Prop := (((gI S 64 38) = (-1000000 : Int32)) → ∀ S2 : HSt, (sI S 64 38 a1) = S2 → vp_in a1 6) ∧ (((gI S 64 38) = (-1000000 : Int32)) → ∀ S2 : HSt, (sI S 64 38 a1) = S2 → ∀ S3 : HSt, (sI S2 64 39 (gI S2 75 a1.toNatClampNeg)) = S3 → T_X12_lookRow_39 1000 S3 a1 (0 : Int32)) ∧ ((¬ (gI S 64 38) = (-1000000 : Int32)) → vp_in a1 6) ∧ ((¬ (gI S 64 38) = (-1000000 : Int32)) → (¬ (gI S 75 a1.toNatClampNeg) ≤ (gI S 64 39)) → ∀ S6 : HSt, (sI S 64 38 a1) = S6 → vp_in a1 6) ∧ ((¬ (gI S 64 38) = (-1000000 : Int32)) → (¬ (gI S 75 a1.toNatClampNeg) ≤ (gI S 64 39)) → ∀ S6 : HSt, (sI S 64 38 a1) = S6 → ∀ S7 : HSt, (sI S6 64 39 (gI S6 75 a1.toNatClampNeg)) = S7 → T_X12_lookRow_39 1000 S7 a1 (0 : Int32))
set_option maxRecDepth 100000 in
theorem t_X12_lookRow (G : GG) (l : Launch) {S : HSt} (hM : MS S) (a1 : Int32) (hp : p_X12_lookRow S 64 a1) : AM G l yX12_lookRow cX12_lookRow 3 none (rmD 0 0 0) 0 0 [.ref 64, .int a1] S (FP none (f_X12_lookRow S 64 a1)) := by
  obtain ⟨h0, h1, h2, h3, h4⟩ := hp
  refine AM.mk (by decide) (Nat.le_of_ble_eq_true rfl) ?_
  intro p e s m below meth c hC hSt _
  refine aw_aload_n hC 0 dX12_lookRow_0 rfl rfl ?_
  refine aw_getI hC hSt 38 (ms_lt 64 (by decide) hM) (ms_k 64 12 0 (by decide) hM) rfl (by decide) w_1214 rfl dX12_lookRow_1 ?_
  refine aw_ldc (v := -1000000) hC w_923 dX12_lookRow_4 ?_
  refine aw_cut (S' := (if (gI S 64 38) = (-1000000 : Int32) then (bd ((sI S 64 38 a1)) fun S2 => bd ((sI S2 64 39 (gI S2 75 a1.toNatClampNeg))) fun S3 => bd (L_X12_lookRow_39 1000 S3 a1 (0 : Int32)) fun r4 => r4.2.2) else (if (gI S 75 a1.toNatClampNeg) ≤ (gI S 64 39) then S else (bd ((sI S 64 38 a1)) fun S6 => bd ((sI S6 64 39 (gI S6 75 a1.toNatClampNeg))) fun S7 => bd (L_X12_lookRow_39 1000 S7 a1 (0 : Int32)) fun r8 => r8.2.2)))) (pc' := 62) (lv' := [(0, .ref 64), (1, .int (if (gI S 64 38) = (-1000000 : Int32) then (bd ((sI S 64 38 a1)) fun S2 => bd ((sI S2 64 39 (gI S2 75 a1.toNatClampNeg))) fun S3 => bd (L_X12_lookRow_39 1000 S3 a1 (0 : Int32)) fun r4 => r4.1) else (if (gI S 75 a1.toNatClampNeg) ≤ (gI S 64 39) then a1 else (bd ((sI S 64 38 a1)) fun S6 => bd ((sI S6 64 39 (gI S6 75 a1.toNatClampNeg))) fun S7 => bd (L_X12_lookRow_39 1000 S7 a1 (0 : Int32)) fun r8 => r8.1))))]) (st' := []) ?_ (fun Jc1 => ?_)
  · generalize ex9 : (if (gI S 64 38) = (-1000000 : Int32) then (bd ((sI S 64 38 a1)) fun S2 => bd ((sI S2 64 39 (gI S2 75 a1.toNatClampNeg))) fun S3 => bd (L_X12_lookRow_39 1000 S3 a1 (0 : Int32)) fun r4 => r4.1) else (if (gI S 75 a1.toNatClampNeg) ≤ (gI S 64 39) then a1 else (bd ((sI S 64 38 a1)) fun S6 => bd ((sI S6 64 39 (gI S6 75 a1.toNatClampNeg))) fun S7 => bd (L_X12_lookRow_39 1000 S7 a1 (0 : Int32)) fun r8 => r8.1))) = x9
    generalize eS10 : (if (gI S 64 38) = (-1000000 : Int32) then (bd ((sI S 64 38 a1)) fun S2 => bd ((sI S2 64 39 (gI S2 75 a1.toNatClampNeg))) fun S3 => bd (L_X12_lookRow_39 1000 S3 a1 (0 : Int32)) fun r4 => r4.2.2) else (if (gI S 75 a1.toNatClampNeg) ≤ (gI S 64 39) then S else (bd ((sI S 64 38 a1)) fun S6 => bd ((sI S6 64 39 (gI S6 75 a1.toNatClampNeg))) fun S7 => bd (L_X12_lookRow_39 1000 S7 a1 (0 : Int32)) fun r8 => r8.2.2))) = S10
    have hM : MS S10 := MS.of (by rw [← eS10]; repeat' (first | with_reducible rfl | with_reducible refine (qL_X12_lookRow_39 _ _ _ _).trans ?_ | with_reducible refine (shp_sI _ _ _ _).trans ?_ | with_reducible refine (shp_sJ _ _ _ _).trans ?_ | with_reducible refine shi ?_ ?_ | with_reducible refine shb (fun _ _ => ?_) | (subst_vars; with_reducible rfl) | (subst_vars; with_reducible refine (qL_X12_lookRow_39 _ _ _ _).trans ?_) | (subst_vars; with_reducible refine (shp_sI _ _ _ _).trans ?_) | (subst_vars; with_reducible refine (shp_sJ _ _ _ _).trans ?_) | (subst_vars; with_reducible refine shi ?_ ?_) | (subst_vars; with_reducible refine shb (fun _ _ => ?_)))) hM
    refine aw_vret hC dX12_lookRow_62 (Nat.le_refl _) (Nat.le_refl _) ?_
    exact FP.qV ((bd_eq ex9).trans ((bd_eq eS10).trans (rfl)))
  · refine aw_icmp_eq hC 22 dX12_lookRow_6 (by decide) (fun c1 => ?_) (fun c1 => ?_)
    · refine aw_aload_n hC 0 dX12_lookRow_22 rfl rfl ?_
      refine aw_iload_n hC 1 dX12_lookRow_23 rfl rfl ?_
      refine aw_putI hC hSt 38 (ms_lt 64 (by decide) hM) (ms_k 64 12 0 (by decide) hM) rfl (by decide) w_1214 rfl rfl rfl rfl dX12_lookRow_24 ?_
      generalize eS2 : (sI S 64 38 a1) = S2
      have hM : MS S2 := MS.of (by rw [← eS2]; exact shp_sI _ _ _ _) hM
      refine aw_aload_n hC 0 dX12_lookRow_27 rfl rfl ?_
      refine aw_aload_n hC 0 dX12_lookRow_28 rfl rfl ?_
      refine aw_getP (b := 75) hC hSt 36 (ms_lt 64 (by decide) hM) (ms_k 64 12 0 (by decide) hM) rfl (by decide) w_929 rfl (ms_p 36 75 (by decide) hM) dX12_lookRow_29 ?_
      refine aw_iload_n hC 1 dX12_lookRow_32 rfl rfl ?_
      refine aw_iald hC hSt (ms_lt 75 (by decide) hM) (ms_k 75 14 6 (by decide) hM) (vp_len (n := 6) (ms_l 75 14 6 (by decide) hM) (h0 c1 S2 eS2)) dX12_lookRow_33 ?_
      refine aw_putI hC hSt 39 (ms_lt 64 (by decide) hM) (ms_k 64 12 0 (by decide) hM) rfl (by decide) w_1215 rfl rfl rfl rfl dX12_lookRow_34 ?_
      generalize eS3 : (sI S2 64 39 (gI S2 75 a1.toNatClampNeg)) = S3
      have hM : MS S3 := MS.of (by rw [← eS3]; exact shp_sI _ _ _ _) hM
      refine aw_iconst (v := 0) hC dX12_lookRow_37 (by decide) ?_
      refine aw_istore_n hC [(2, .int _), (0, .ref 64), (1, .int _)] dX12_lookRow_38 rfl (by decide) rfl ?_
      refine aw_sub [1, 2, 0] rfl ?_
      refine l_X12_lookRow_39 hC hSt 1000 _ _ _ hM (h1 c1 S2 eS2 S3 eS3) ?_
      generalize er4 : L_X12_lookRow_39 1000 S3 a1 (0 : Int32) = r4
      have hM : MS r4.2.2 := MS.of (by rw [← er4]; exact qL_X12_lookRow_39 _ _ _ _) hM
      refine aw_sub [0, 1] rfl ?_
      subst er4
      subst eS3
      subst eS2
      simp only [bd_def, if_pos c1] at Jc1 ⊢
      exact Jc1
    · refine aw_aload_n hC 0 dX12_lookRow_9 rfl rfl ?_
      refine aw_getP (b := 75) hC hSt 36 (ms_lt 64 (by decide) hM) (ms_k 64 12 0 (by decide) hM) rfl (by decide) w_929 rfl (ms_p 36 75 (by decide) hM) dX12_lookRow_10 ?_
      refine aw_iload_n hC 1 dX12_lookRow_13 rfl rfl ?_
      refine aw_iald hC hSt (ms_lt 75 (by decide) hM) (ms_k 75 14 6 (by decide) hM) (vp_len (n := 6) (ms_l 75 14 6 (by decide) hM) (h2 c1)) dX12_lookRow_14 ?_
      refine aw_aload_n hC 0 dX12_lookRow_15 rfl rfl ?_
      refine aw_getI hC hSt 39 (ms_lt 64 (by decide) hM) (ms_k 64 12 0 (by decide) hM) rfl (by decide) w_1215 rfl dX12_lookRow_16 ?_
      refine aw_icmp_le hC 62 dX12_lookRow_19 (by decide) (fun c5 => ?_) (fun c5 => ?_)
      · simp only [bd_def, if_neg c1, if_pos c5] at Jc1 ⊢
        exact Jc1
      · refine aw_aload_n hC 0 dX12_lookRow_22 rfl rfl ?_
        refine aw_iload_n hC 1 dX12_lookRow_23 rfl rfl ?_
        refine aw_putI hC hSt 38 (ms_lt 64 (by decide) hM) (ms_k 64 12 0 (by decide) hM) rfl (by decide) w_1214 rfl rfl rfl rfl dX12_lookRow_24 ?_
        generalize eS6 : (sI S 64 38 a1) = S6
        have hM : MS S6 := MS.of (by rw [← eS6]; exact shp_sI _ _ _ _) hM
        refine aw_aload_n hC 0 dX12_lookRow_27 rfl rfl ?_
        refine aw_aload_n hC 0 dX12_lookRow_28 rfl rfl ?_
        refine aw_getP (b := 75) hC hSt 36 (ms_lt 64 (by decide) hM) (ms_k 64 12 0 (by decide) hM) rfl (by decide) w_929 rfl (ms_p 36 75 (by decide) hM) dX12_lookRow_29 ?_
        refine aw_iload_n hC 1 dX12_lookRow_32 rfl rfl ?_
        refine aw_iald hC hSt (ms_lt 75 (by decide) hM) (ms_k 75 14 6 (by decide) hM) (vp_len (n := 6) (ms_l 75 14 6 (by decide) hM) (h3 c1 c5 S6 eS6)) dX12_lookRow_33 ?_
        refine aw_putI hC hSt 39 (ms_lt 64 (by decide) hM) (ms_k 64 12 0 (by decide) hM) rfl (by decide) w_1215 rfl rfl rfl rfl dX12_lookRow_34 ?_
        generalize eS7 : (sI S6 64 39 (gI S6 75 a1.toNatClampNeg)) = S7
        have hM : MS S7 := MS.of (by rw [← eS7]; exact shp_sI _ _ _ _) hM
        refine aw_iconst (v := 0) hC dX12_lookRow_37 (by decide) ?_
        refine aw_istore_n hC [(2, .int _), (0, .ref 64), (1, .int _)] dX12_lookRow_38 rfl (by decide) rfl ?_
        refine aw_sub [1, 2, 0] rfl ?_
        refine l_X12_lookRow_39 hC hSt 1000 _ _ _ hM (h4 c1 c5 S6 eS6 S7 eS7) ?_
        generalize er8 : L_X12_lookRow_39 1000 S7 a1 (0 : Int32) = r8
        have hM : MS r8.2.2 := MS.of (by rw [← er8]; exact qL_X12_lookRow_39 _ _ _ _) hM
        refine aw_sub [0, 1] rfl ?_
        subst er8
        subst eS7
        subst eS6
        simp only [bd_def, if_neg c1, if_neg c5] at Jc1 ⊢
        exact Jc1
theorem q_X12_lookRow (S : HSt) (_o : Nat) (a1 : Int32) : shp (f_X12_lookRow S _o a1) = shp S := by
  unfold f_X12_lookRow
  repeat' (first | with_reducible rfl | with_reducible refine (qL_X12_lookRow_39 _ _ _ _).trans ?_ | with_reducible refine (shp_sI _ _ _ _).trans ?_ | with_reducible refine (shp_sJ _ _ _ _).trans ?_ | with_reducible refine shi ?_ ?_ | with_reducible refine shb (fun _ _ => ?_) | (subst_vars; with_reducible rfl) | (subst_vars; with_reducible refine (qL_X12_lookRow_39 _ _ _ _).trans ?_) | (subst_vars; with_reducible refine (shp_sI _ _ _ _).trans ?_) | (subst_vars; with_reducible refine (shp_sJ _ _ _ _).trans ?_) | (subst_vars; with_reducible refine shi ?_ ?_) | (subst_vars; with_reducible refine shb (fun _ _ => ?_)))
theorem v_X12_lookRow (S : HSt) (_o : Nat) (a1 : Int32) : Fr [(64, 38), (64, 39), (76, 1000)] S (f_X12_lookRow S _o a1) := by
  unfold f_X12_lookRow
  repeat' (first | with_reducible exact Fr.refl _ _ | with_reducible refine Fr.l1 (fun _ _ => ?_) | with_reducible refine Fr.ite ?_ ?_ | with_reducible refine Fr.sE (by assumption) (by first | decide | simp only [List.mem_cons, List.not_mem_nil, or_false, true_or, or_true, eq_self_iff_true]) ?_ | with_reducible refine Fr.jE (by assumption) ?_ | with_reducible refine Fr.rE (by assumption) (by first | decide | simp only [List.mem_cons, List.not_mem_nil, or_false, true_or, or_true, eq_self_iff_true]) ?_ | with_reducible refine Fr.iE (by assumption) ?_ ?_ | with_reducible refine Fr.tr (wL_X12_lookRow_39 _ _ _ _ _ (by assumption)) (by first | decide | simp only [List.mem_cons, List.not_mem_nil, or_false, forall_eq_or_imp, forall_eq, true_or, or_true, and_self, eq_self_iff_true]) ?_)
theorem w_X12_lookRow (S : HSt) (_o : Nat) (a1 : Int32) (r : HSt) (e : f_X12_lookRow S _o a1 = r) : Fr [(64, 38), (64, 39), (76, 1000)] S r := by
  rw [← e]
  exact v_X12_lookRow S _o a1