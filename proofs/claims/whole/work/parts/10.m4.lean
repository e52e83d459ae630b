noncomputable def L_X12_score_24 : Nat → HSt → Int64 → Int32 → Int64 × Int32 × HSt
  | 0, S, v1, v3 => (v1, v3, S)
  | n + 1, S, v1, v3 =>
    if (gI S 68 (5 : Int32).toNatClampNeg) ≤ v3 then ((pr (v1) (pr (v3) (S)))) else (bd ((if (f_X12_isThrow S 64 v3) = 0 then (0 : Int64) else (bd ((if (f_X12_deed S 64 v3 (0 : Int32)) = (5 : Int32) then (1 : Int32) else (0 : Int32))) fun x1007 => bd (f_X12_counts S 64 x1007 (f_X12_deed S 64 v3 (1 : Int32))) fun r1008 => r1008.1.toInt64))) fun x1009 => bd ((if (f_X12_isThrow S 64 v3) = 0 then S else (bd ((if (f_X12_deed S 64 v3 (0 : Int32)) = (5 : Int32) then (1 : Int32) else (0 : Int32))) fun x1007 => bd (f_X12_counts S 64 x1007 (f_X12_deed S 64 v3 (1 : Int32))) fun r1008 => r1008.2))) fun S1010 => bd ((v1 + x1009)) fun x1011 => bd (f_X12_doAct S1010 64 v3) fun r1012 => L_X12_score_24 n r1012 x1011 (v3 + (1 : Int32)))
def T_X12_score_24 : Nat → HSt → Int64 → Int32 → Prop
  | 0, _, _, _ => False
  | n + 1, S, v1, v3 => ((¬ (gI S 68 (5 : Int32).toNatClampNeg) ≤ v3) → p_X12_isThrow S 64 v3) ∧ ((¬ (gI S 68 (5 : Int32).toNatClampNeg) ≤ v3) → (¬ (f_X12_isThrow S 64 v3) = 0) → p_X12_deed S 64 v3 (0 : Int32)) ∧ ((¬ (gI S 68 (5 : Int32).toNatClampNeg) ≤ v3) → (¬ (f_X12_isThrow S 64 v3) = 0) → ∀ x1007 : Int32, (if (f_X12_deed S 64 v3 (0 : Int32)) = (5 : Int32) then (1 : Int32) else (0 : Int32)) = x1007 → p_X12_deed S 64 v3 (1 : Int32)) ∧ ((¬ (gI S 68 (5 : Int32).toNatClampNeg) ≤ v3) → (¬ (f_X12_isThrow S 64 v3) = 0) → ∀ x1007 : Int32, (if (f_X12_deed S 64 v3 (0 : Int32)) = (5 : Int32) then (1 : Int32) else (0 : Int32)) = x1007 → p_X12_counts S 64 x1007 (f_X12_deed S 64 v3 (1 : Int32))) ∧ ((¬ (gI S 68 (5 : Int32).toNatClampNeg) ≤ v3) → ∀ x1009 : Int64, (if (f_X12_isThrow S 64 v3) = 0 then (0 : Int64) else (bd ((if (f_X12_deed S 64 v3 (0 : Int32)) = (5 : Int32) then (1 : Int32) else (0 : Int32))) fun x1007 => bd (f_X12_counts S 64 x1007 (f_X12_deed S 64 v3 (1 : Int32))) fun r1008 => r1008.1.toInt64)) = x1009 → ∀ S1010 : HSt, (if (f_X12_isThrow S 64 v3) = 0 then S else (bd ((if (f_X12_deed S 64 v3 (0 : Int32)) = (5 : Int32) then (1 : Int32) else (0 : Int32))) fun x1007 => bd (f_X12_counts S 64 x1007 (f_X12_deed S 64 v3 (1 : Int32))) fun r1008 => r1008.2)) = S1010 → ∀ x1011 : Int64, (v1 + x1009) = x1011 → p_X12_doAct S1010 64 v3) ∧ ((¬ (gI S 68 (5 : Int32).toNatClampNeg) ≤ v3) → ∀ x1009 : Int64, (if (f_X12_isThrow S 64 v3) = 0 then (0 : Int64) else (bd ((if (f_X12_deed S 64 v3 (0 : Int32)) = (5 : Int32) then (1 : Int32) else (0 : Int32))) fun x1007 => bd (f_X12_counts S 64 x1007 (f_X12_deed S 64 v3 (1 : Int32))) fun r1008 => r1008.1.toInt64)) = x1009 → ∀ S1010 : HSt, (if (f_X12_isThrow S 64 v3) = 0 then S else (bd ((if (f_X12_deed S 64 v3 (0 : Int32)) = (5 : Int32) then (1 : Int32) else (0 : Int32))) fun x1007 => bd (f_X12_counts S 64 x1007 (f_X12_deed S 64 v3 (1 : Int32))) fun r1008 => r1008.2)) = S1010 → ∀ x1011 : Int64, (v1 + x1009) = x1011 → ∀ r1012, f_X12_doAct S1010 64 v3 = r1012 → T_X12_score_24 n r1012 x1011 (v3 + (1 : Int32)))
theorem qL_X12_score_24 : ∀ (n : Nat) (S : HSt) (v1 : Int64) (v3 : Int32), shp (L_X12_score_24 n S v1 v3).2.2 = shp S := by
  intro n
  induction n with
  | zero => intros; rfl
  | succ n ih =>
    intro S v1 v3
    unfold L_X12_score_24
    repeat' (first | with_reducible refine shpr2 ?_ | with_reducible rfl | with_reducible refine (ih _ _ _).trans ?_ | with_reducible refine (q_X12_counts _ _ _ _).trans ?_ | with_reducible refine (q_X12_doAct _ _ _).trans ?_ | with_reducible refine (q_X12_first _ _).trans ?_ | with_reducible refine (shp_sI _ _ _ _).trans ?_ | with_reducible refine (shp_sJ _ _ _ _).trans ?_ | with_reducible refine shi ?_ ?_ | with_reducible refine shb (fun _ _ => ?_) | with_reducible refine shiP (fun q : Int64 × Int32 × HSt => q.2.2) ?_ ?_ | with_reducible refine shbP (fun q : Int64 × Int32 × HSt => q.2.2) (fun _ _ => ?_) | (subst_vars; with_reducible rfl) | (subst_vars; with_reducible refine (ih _ _ _).trans ?_) | (subst_vars; with_reducible refine (q_X12_counts _ _ _ _).trans ?_) | (subst_vars; with_reducible refine (q_X12_doAct _ _ _).trans ?_) | (subst_vars; with_reducible refine (q_X12_first _ _).trans ?_) | (subst_vars; with_reducible refine (shp_sI _ _ _ _).trans ?_) | (subst_vars; with_reducible refine (shp_sJ _ _ _ _).trans ?_) | (subst_vars; with_reducible refine shi ?_ ?_) | (subst_vars; with_reducible refine shb (fun _ _ => ?_)))
set_option maxRecDepth 100000 in
theorem l_X12_score_24 {p : Program} {l : Launch} {e : Env} {s : State} {m : MethodId} {args : Array Value} {below : List Frame} {meth : Method} {c : Code} {G : GG} {Q : State → Prop} (hC : ACx p s m args meth c cX12_score RX12 4 (some .long)) (hSt : St G s)  : ∀ (n : Nat) (S : HSt) (v1 : Int64) (v3 : Int32), MS S → T_X12_score_24 n S v1 v3 → AW p l e (rmD 5 0 0) s m args below meth c G 4 Q (L_X12_score_24 n S v1 v3).2.2 0 0 86 [(0, .ref 64), (1, .long (L_X12_score_24 n S v1 v3).1), (3, .int (L_X12_score_24 n S v1 v3).2.1)] [] → AW p l e (rmD 5 0 0) s m args below meth c G 4 Q S 0 0 24 [(0, .ref 64), (1, .long v1), (3, .int v3)] [] := by
  intro n
  induction n with
  | zero => intro S v1 v3 _ hT; exact hT.elim
  | succ n ih =>
    intro S v1 v3 hM hT hk
    unfold T_X12_score_24 at hT
    obtain ⟨h0, h1, h2, h3, h4, h5⟩ := hT
    refine aw_iload_n hC 2 dX12_score_24 rfl rfl ?_
    refine aw_aload_n hC 0 dX12_score_25 rfl rfl ?_
    refine aw_getP (b := 68) hC hSt 5 (ms_lt 64 (by decide) hM) (ms_k 64 12 0 (by decide) hM) rfl (by decide) w_920 rfl (ms_p 5 68 (by decide) hM) dX12_score_26 ?_
    refine aw_iconst (v := 5) hC dX12_score_29 (by decide) ?_
    refine aw_iald hC hSt (ms_lt 68 (by decide) hM) (ms_k 68 14 172 (by decide) hM) (vp_len (n := 172) (ms_l 68 14 172 (by decide) hM) (by unfold vp_in; decide)) dX12_score_30 ?_
    refine aw_icmp_ge hC 86 dX12_score_31 (by decide) (fun c1004 => ?_) (fun c1004 => ?_)
    · refine aw_sub [0, 1, 2] rfl ?_
      have E : L_X12_score_24 (n + 1) S v1 v3 = _ := (if_pos c1004).trans (rfl)
      rw [E] at hk
      exact hk
    · refine aw_lload_n hC 1 dX12_score_34 rfl rfl ?_
      refine aw_aload_n hC 0 dX12_score_35 rfl rfl ?_
      refine aw_iload_n hC 2 dX12_score_36 rfl rfl ?_
      refine aw_cV1r hC hSt (t_X12_isThrow G l hM _ (h0 c1004)) w_1189 w_1191 w_1192 w_1193 w_953 rfl rfl (by decide +kernel) ⟨Nat.le_of_ble_eq_true rfl, Nat.le_of_ble_eq_true rfl⟩ (ms_lt 64 (by decide) hM) (ms_k 64 12 0 (by decide) hM) rfl (Nat.le_of_ble_eq_true rfl) dX12_score_37 ⟨Nat.zero_le _, Nat.zero_le _⟩ ?_
      refine aw_cut (S' := (if (f_X12_isThrow S 64 v3) = 0 then S else (bd ((if (f_X12_deed S 64 v3 (0 : Int32)) = (5 : Int32) then (1 : Int32) else (0 : Int32))) fun x1007 => bd (f_X12_counts S 64 x1007 (f_X12_deed S 64 v3 (1 : Int32))) fun r1008 => r1008.2))) (pc' := 73) (lv' := [(0, .ref 64), (1, .long v1), (3, .int v3)]) (st' := [.long (if (f_X12_isThrow S 64 v3) = 0 then (0 : Int64) else (bd ((if (f_X12_deed S 64 v3 (0 : Int32)) = (5 : Int32) then (1 : Int32) else (0 : Int32))) fun x1007 => bd (f_X12_counts S 64 x1007 (f_X12_deed S 64 v3 (1 : Int32))) fun r1008 => r1008.1.toInt64)), .long v1]) ?_ (fun Jc1005 => ?_)
      · generalize ex1009 : (if (f_X12_isThrow S 64 v3) = 0 then (0 : Int64) else (bd ((if (f_X12_deed S 64 v3 (0 : Int32)) = (5 : Int32) then (1 : Int32) else (0 : Int32))) fun x1007 => bd (f_X12_counts S 64 x1007 (f_X12_deed S 64 v3 (1 : Int32))) fun r1008 => r1008.1.toInt64)) = x1009
        generalize eS1010 : (if (f_X12_isThrow S 64 v3) = 0 then S else (bd ((if (f_X12_deed S 64 v3 (0 : Int32)) = (5 : Int32) then (1 : Int32) else (0 : Int32))) fun x1007 => bd (f_X12_counts S 64 x1007 (f_X12_deed S 64 v3 (1 : Int32))) fun r1008 => r1008.2)) = S1010
        have hM : MS S1010 := MS.of (by rw [← eS1010]; repeat' (first | with_reducible rfl | with_reducible refine (q_X12_counts _ _ _ _).trans ?_ | with_reducible refine (q_X12_doAct _ _ _).trans ?_ | with_reducible refine (shp_sI _ _ _ _).trans ?_ | with_reducible refine (shp_sJ _ _ _ _).trans ?_ | with_reducible refine shi ?_ ?_ | with_reducible refine shb (fun _ _ => ?_) | (subst_vars; with_reducible rfl) | (subst_vars; with_reducible refine (q_X12_counts _ _ _ _).trans ?_) | (subst_vars; with_reducible refine (q_X12_doAct _ _ _).trans ?_) | (subst_vars; with_reducible refine (shp_sI _ _ _ _).trans ?_) | (subst_vars; with_reducible refine (shp_sJ _ _ _ _).trans ?_) | (subst_vars; with_reducible refine shi ?_ ?_) | (subst_vars; with_reducible refine shb (fun _ _ => ?_)))) hM
        refine aw_ladd hC dX12_score_73 ?_
        refine aw_lstore_n hC [(1, .long _), (0, .ref 64), (3, .int _)] dX12_score_74 rfl (by decide) rfl ?_
        generalize ex1011 : (v1 + x1009) = x1011
        refine aw_aload_n hC 1 dX12_score_75 rfl rfl ?_
        refine aw_iload_n hC 2 dX12_score_76 rfl rfl ?_
        refine aw_cV1v hC hSt (t_X12_doAct G l hM _ (h4 c1004 x1009 ex1009 S1010 eS1010 x1011 ex1011)) w_1184 w_1185 w_1186 w_1187 w_953 rfl rfl (by decide +kernel) ⟨Nat.le_of_ble_eq_true rfl, Nat.le_of_ble_eq_true rfl⟩ (ms_lt 64 (by decide) hM) (ms_k 64 12 0 (by decide) hM) rfl (Nat.le_of_ble_eq_true rfl) dX12_score_77 ⟨Nat.zero_le _, Nat.zero_le _⟩ ?_
        generalize er1012 : f_X12_doAct S1010 64 v3 = r1012
        have hM : MS r1012 := MS.of (by rw [← er1012]; exact q_X12_doAct _ _ _) hM
        refine aw_iinc (v := (v3 + (1 : Int32))) hC 2 [(3, .int _), (1, .long _), (0, .ref 64)] dX12_score_80 rfl rfl (by decide) rfl ?_
        refine aw_goto hC 24 dX12_score_83 (by decide) ?_
        refine aw_sub [2, 1, 0] rfl ?_
        have hTn := (h5 c1004 x1009 ex1009 S1010 eS1010 x1011 ex1011 r1012 er1012)
        have hMn : MS r1012 := hM
        have E : L_X12_score_24 (n + 1) S v1 v3 = _ := (if_neg c1004).trans ((bd_eq ex1009).trans ((bd_eq eS1010).trans ((bd_eq ex1011).trans ((bd_eq er1012).trans (rfl)))))
        rw [E] at hk
        exact ih _ _ _ hMn hTn hk
      · refine aw_if_eq hC 72 dX12_score_40 (by decide) (fun c1005 => ?_) (fun c1005 => ?_)
        · refine aw_lconst (v := 0) hC dX12_score_72 (by decide) ?_
          simp only [bd_def, if_pos c1005] at Jc1005 ⊢
          exact Jc1005
        · refine aw_aload_n hC 0 dX12_score_43 rfl rfl ?_
          refine aw_aload_n hC 0 dX12_score_44 rfl rfl ?_
          refine aw_iload_n hC 2 dX12_score_45 rfl rfl ?_
          refine aw_iconst (v := 0) hC dX12_score_46 (by decide) ?_
          refine aw_cV2r hC hSt (t_X12_deed G l hM _ _ (h1 c1004 c1005)) w_1080 w_1088 w_1089 w_1090 w_953 rfl rfl (by decide +kernel) ⟨Nat.le_of_ble_eq_true rfl, Nat.le_of_ble_eq_true rfl⟩ (ms_lt 64 (by decide) hM) (ms_k 64 12 0 (by decide) hM) rfl (Nat.le_of_ble_eq_true rfl) dX12_score_47 ⟨Nat.zero_le _, Nat.zero_le _⟩ ?_
          refine aw_iconst (v := 5) hC dX12_score_50 (by decide) ?_
          refine aw_cut (S' := S) (pc' := 59) (lv' := [(0, .ref 64), (1, .long v1), (3, .int v3)]) (st' := [.int (if (f_X12_deed S 64 v3 (0 : Int32)) = (5 : Int32) then (1 : Int32) else (0 : Int32)), .ref 64, .long v1]) ?_ (fun Jc1006 => ?_)
          · generalize ex1007 : (if (f_X12_deed S 64 v3 (0 : Int32)) = (5 : Int32) then (1 : Int32) else (0 : Int32)) = x1007
            refine aw_aload_n hC 0 dX12_score_59 rfl rfl ?_
            refine aw_iload_n hC 2 dX12_score_60 rfl rfl ?_
            refine aw_iconst (v := 1) hC dX12_score_61 (by decide) ?_
            refine aw_cV2r hC hSt (t_X12_deed G l hM _ _ (h2 c1004 c1005 x1007 ex1007)) w_1080 w_1088 w_1089 w_1090 w_953 rfl rfl (by decide +kernel) ⟨Nat.le_of_ble_eq_true rfl, Nat.le_of_ble_eq_true rfl⟩ (ms_lt 64 (by decide) hM) (ms_k 64 12 0 (by decide) hM) rfl (Nat.le_of_ble_eq_true rfl) dX12_score_62 ⟨Nat.zero_le _, Nat.zero_le _⟩ ?_
            refine aw_cV2r hC hSt (t_X12_counts G l hM _ _ (h3 c1004 c1005 x1007 ex1007)) w_1146 w_1195 w_1196 w_1197 w_953 rfl rfl (by decide +kernel) ⟨Nat.le_of_ble_eq_true rfl, Nat.le_of_ble_eq_true rfl⟩ (ms_lt 64 (by decide) hM) (ms_k 64 12 0 (by decide) hM) rfl (Nat.le_of_ble_eq_true rfl) dX12_score_65 ⟨Nat.zero_le _, Nat.zero_le _⟩ ?_
            generalize er1008 : f_X12_counts S 64 x1007 (f_X12_deed S 64 v3 (1 : Int32)) = r1008
            have hM : MS r1008.2 := MS.of (by rw [← er1008]; exact q_X12_counts _ _ _ _) hM
            refine aw_i2l hC dX12_score_68 ?_
            refine aw_goto hC 73 dX12_score_69 (by decide) ?_
            subst er1008
            subst ex1007
            simp only [bd_def, if_neg c1005] at Jc1005 ⊢
            exact Jc1005
          · refine aw_icmp_ne hC 58 dX12_score_51 (by decide) (fun c1006 => ?_) (fun c1006 => ?_)
            · refine aw_iconst (v := 0) hC dX12_score_58 (by decide) ?_
              simp only [bd_def, if_neg c1006] at Jc1006 ⊢
              exact Jc1006
            · refine aw_iconst (v := 1) hC dX12_score_54 (by decide) ?_
              refine aw_goto hC 59 dX12_score_55 (by decide) ?_
              simp only [bd_def, if_pos c1006] at Jc1006 ⊢
              exact Jc1006
noncomputable def f_X12_score (S : HSt) (_o : Nat)  : Int64 × HSt := bd ((sI S 64 0 (0 : Int32))) fun S1 => if (gI S1 64 7) = 0 then (pr ((-9000000000000000002 : Int64)) (S1)) else (bd (f_X12_first S1 64) fun r3 => bd (L_X12_score_24 1000 r3 (0 : Int64) (0 : Int32)) fun r4 => pr (r4.1) (r4.2.2))
def p_X12_score (S : HSt) (_o : Nat)  : Prop := (∀ S1 : HSt, (sI S 64 0 (0 : Int32)) = S1 → (¬ (gI S1 64 7) = 0) → ∀ r3, f_X12_first S1 64 = r3 → T_X12_score_24 1000 r3 (0 : Int64) (0 : Int32))
set_option maxRecDepth 100000 in
theorem t_X12_score (G : GG) (l : Launch) {S : HSt} (hM : MS S)  (hp : p_X12_score S 64) : AM G l yX12_score cX12_score 4 (some .long) (rmD 5 0 0) 0 0 [.ref 64] S (FP (some (.long (f_X12_score S 64).1)) ((f_X12_score S 64).2)) := by
  have h0 := hp
  unfold p_X12_score at h0
  refine AM.mk (by decide) (Nat.le_of_ble_eq_true rfl) ?_
  intro p e s m below meth c hC hSt _
  refine aw_aload_n hC 0 dX12_score_0 rfl rfl ?_
  refine aw_iconst (v := 0) hC dX12_score_1 (by decide) ?_
  refine aw_putI hC hSt 0 (ms_lt 64 (by decide) hM) (ms_k 64 12 0 (by decide) hM) rfl (by decide) w_955 rfl rfl rfl rfl dX12_score_2 ?_
  generalize eS1 : (sI S 64 0 (0 : Int32)) = S1
  have hM : MS S1 := MS.of (by rw [← eS1]; exact shp_sI _ _ _ _) hM
  refine aw_aload_n hC 0 dX12_score_5 rfl rfl ?_
  refine aw_getI hC hSt 7 (ms_lt 64 (by decide) hM) (ms_k 64 12 0 (by decide) hM) rfl (by decide) w_1051 rfl dX12_score_6 ?_
  refine aw_if_ne hC 16 dX12_score_9 (by decide) (fun c2 => ?_) (fun c2 => ?_)
  · refine aw_aload_n hC 0 dX12_score_16 rfl rfl ?_
    refine aw_cV0v hC hSt (t_X12_first G l hM ) w_1031 w_1071 w_1072 w_1073 w_953 rfl rfl (by decide +kernel) ⟨Nat.le_of_ble_eq_true rfl, Nat.le_of_ble_eq_true rfl⟩ (ms_lt 64 (by decide) hM) (ms_k 64 12 0 (by decide) hM) rfl (Nat.le_of_ble_eq_true rfl) dX12_score_17 ⟨Nat.zero_le _, Nat.zero_le _⟩ ?_
    generalize er3 : f_X12_first S1 64 = r3
    have hM : MS r3 := MS.of (by rw [← er3]; exact q_X12_first _ _) hM
    refine aw_lconst (v := 0) hC dX12_score_20 (by decide) ?_
    refine aw_lstore_n hC [(1, .long _), (0, .ref 64)] dX12_score_21 rfl (by decide) rfl ?_
    refine aw_iconst (v := 0) hC dX12_score_22 (by decide) ?_
    refine aw_istore_n hC [(3, .int _), (1, .long _), (0, .ref 64)] dX12_score_23 rfl (by decide) rfl ?_
    refine aw_sub [2, 1, 0] rfl ?_
    refine l_X12_score_24 hC hSt 1000 _ _ _ hM (h0 S1 eS1 c2 r3 er3) ?_
    generalize er4 : L_X12_score_24 1000 r3 (0 : Int64) (0 : Int32) = r4
    have hM : MS r4.2.2 := MS.of (by rw [← er4]; exact qL_X12_score_24 _ _ _ _) hM
    refine aw_lload_n hC 1 dX12_score_86 rfl rfl ?_
    refine aw_lret hC dX12_score_87 (Nat.le_refl _) (Nat.le_refl _) ?_
    exact FP.qJ ((bd_eq eS1).trans ((if_neg c2).trans ((bd_eq er3).trans ((bd_eq er4).trans (rfl)))))
  · refine aw_ldc2 (v := -9000000000000000002) hC w_1151 dX12_score_12 ?_
    refine aw_lret hC dX12_score_15 (Nat.le_refl _) (Nat.le_refl _) ?_
    exact FP.qJ ((bd_eq eS1).trans ((if_pos c2).trans (rfl)))
theorem q_X12_score (S : HSt) (_o : Nat)  : shp ((f_X12_score S _o).2) = shp S := by
  unfold f_X12_score
  repeat' (first | with_reducible refine shpr1 ?_ | with_reducible rfl | with_reducible refine (q_X12_counts _ _ _ _).trans ?_ | with_reducible refine (q_X12_doAct _ _ _).trans ?_ | with_reducible refine (q_X12_first _ _).trans ?_ | with_reducible refine (qL_X12_score_24 _ _ _ _).trans ?_ | with_reducible refine (shp_sI _ _ _ _).trans ?_ | with_reducible refine (shp_sJ _ _ _ _).trans ?_ | with_reducible refine shi ?_ ?_ | with_reducible refine shb (fun _ _ => ?_) | with_reducible refine shiP (fun q : Int64 × HSt => q.2) ?_ ?_ | with_reducible refine shbP (fun q : Int64 × HSt => q.2) (fun _ _ => ?_) | (subst_vars; with_reducible rfl) | (subst_vars; with_reducible refine (q_X12_counts _ _ _ _).trans ?_) | (subst_vars; with_reducible refine (q_X12_doAct _ _ _).trans ?_) | (subst_vars; with_reducible refine (q_X12_first _ _).trans ?_) | (subst_vars; with_reducible refine (qL_X12_score_24 _ _ _ _).trans ?_) | (subst_vars; with_reducible refine (shp_sI _ _ _ _).trans ?_) | (subst_vars; with_reducible refine (shp_sJ _ _ _ _).trans ?_) | (subst_vars; with_reducible refine shi ?_ ?_) | (subst_vars; with_reducible refine shb (fun _ _ => ?_)))
noncomputable def L_X12_lookBest_2 : Nat → HSt → Int32 → Int32 → Int32 × Int32 × HSt
  | 0, S, v1, v2 => (v1, v2, S)
  | n + 1, S, v1, v2 =>
    if (2 : Int32) ≤ v2 then ((pr (v1) (pr (v2) (S)))) else (bd ((if v2 = (1 : Int32) then (1 : Int32) else (0 : Int32))) fun x1003 => bd (f_X12_oddsOf S 64 x1003 v1) fun r1004 => bd (r1004.1) fun x1005 => bd ((if x1005 ≤ (gI r1004.2 64 32) then r1004.2 else (bd ((sI r1004.2 64 32 x1005)) fun S1007 => bd ((sI S1007 64 31 (((2 : Int32) * (gI S1007 64 24)) + v2))) fun S1008 => S1008))) fun S1009 => L_X12_lookBest_2 n S1009 v1 (v2 + (1 : Int32)))
def T_X12_lookBest_2 : Nat → HSt → Int32 → Int32 → Prop
  | 0, _, _, _ => False
  | n + 1, S, v1, v2 => ((¬ (2 : Int32) ≤ v2) → ∀ x1003 : Int32, (if v2 = (1 : Int32) then (1 : Int32) else (0 : Int32)) = x1003 → p_X12_oddsOf S 64 x1003 v1) ∧ ((¬ (2 : Int32) ≤ v2) → ∀ x1003 : Int32, (if v2 = (1 : Int32) then (1 : Int32) else (0 : Int32)) = x1003 → ∀ r1004, f_X12_oddsOf S 64 x1003 v1 = r1004 → ∀ x1005 : Int32, r1004.1 = x1005 → ∀ S1009 : HSt, (if x1005 ≤ (gI r1004.2 64 32) then r1004.2 else (bd ((sI r1004.2 64 32 x1005)) fun S1007 => bd ((sI S1007 64 31 (((2 : Int32) * (gI S1007 64 24)) + v2))) fun S1008 => S1008)) = S1009 → T_X12_lookBest_2 n S1009 v1 (v2 + (1 : Int32)))
theorem qL_X12_lookBest_2 : ∀ (n : Nat) (S : HSt) (v1 : Int32) (v2 : Int32), shp (L_X12_lookBest_2 n S v1 v2).2.2 = shp S := by
  intro n
  induction n with
  | zero => intros; rfl
  | succ n ih =>
    intro S v1 v2
    unfold L_X12_lookBest_2
    repeat' (first | with_reducible refine shpr2 ?_ | with_reducible rfl | with_reducible refine (ih _ _ _).trans ?_ | with_reducible refine (q_X12_oddsOf _ _ _ _).trans ?_ | with_reducible refine (shp_sI _ _ _ _).trans ?_ | with_reducible refine (shp_sJ _ _ _ _).trans ?_ | with_reducible refine shi ?_ ?_ | with_reducible refine shb (fun _ _ => ?_) | with_reducible refine shiP (fun q : Int32 × Int32 × HSt => q.2.2) ?_ ?_ | with_reducible refine shbP (fun q : Int32 × Int32 × HSt => q.2.2) (fun _ _ => ?_) | (subst_vars; with_reducible rfl) | (subst_vars; with_reducible refine (ih _ _ _).trans ?_) | (subst_vars; with_reducible refine (q_X12_oddsOf _ _ _ _).trans ?_) | (subst_vars; with_reducible refine (shp_sI _ _ _ _).trans ?_) | (subst_vars; with_reducible refine (shp_sJ _ _ _ _).trans ?_) | (subst_vars; with_reducible refine shi ?_ ?_) | (subst_vars; with_reducible refine shb (fun _ _ => ?_)))
set_option maxRecDepth 100000 in
theorem l_X12_lookBest_2 {p : Program} {l : Launch} {e : Env} {s : State} {m : MethodId} {args : Array Value} {below : List Frame} {meth : Method} {c : Code} {G : GG} {Q : State → Prop} (hC : ACx p s m args meth c cX12_lookBest RX12 4 none) (hSt : St G s)  : ∀ (n : Nat) (S : HSt) (v1 : Int32) (v2 : Int32), MS S → T_X12_lookBest_2 n S v1 v2 → AW p l e (rmD 4 0 0) s m args below meth c G 4 Q (L_X12_lookBest_2 n S v1 v2).2.2 0 0 54 [(0, .ref 64), (1, .int (L_X12_lookBest_2 n S v1 v2).1), (2, .int (L_X12_lookBest_2 n S v1 v2).2.1)] [] → AW p l e (rmD 4 0 0) s m args below meth c G 4 Q S 0 0 2 [(0, .ref 64), (1, .int v1), (2, .int v2)] [] := by
  intro n
  induction n with
  | zero => intro S v1 v2 _ hT; exact hT.elim
  | succ n ih =>
    intro S v1 v2 hM hT hk
    unfold T_X12_lookBest_2 at hT
    obtain ⟨h0, h1⟩ := hT
    refine aw_iload_n hC 2 dX12_lookBest_2 rfl rfl ?_
    refine aw_iconst (v := 2) hC dX12_lookBest_3 (by decide) ?_
    refine aw_icmp_ge hC 54 dX12_lookBest_4 (by decide) (fun c1001 => ?_) (fun c1001 => ?_)
    · refine aw_sub [0, 1, 2] rfl ?_
      have E : L_X12_lookBest_2 (n + 1) S v1 v2 = _ := (if_pos c1001).trans (rfl)
      rw [E] at hk
      exact hk
    · refine aw_aload_n hC 0 dX12_lookBest_7 rfl rfl ?_
      refine aw_iload_n hC 2 dX12_lookBest_8 rfl rfl ?_
      refine aw_iconst (v := 1) hC dX12_lookBest_9 (by decide) ?_
      refine aw_cut (S' := S) (pc' := 18) (lv' := [(0, .ref 64), (1, .int v1), (2, .int v2)]) (st' := [.int (if v2 = (1 : Int32) then (1 : Int32) else (0 : Int32)), .ref 64]) ?_ (fun Jc1002 => ?_)
      · generalize ex1003 : (if v2 = (1 : Int32) then (1 : Int32) else (0 : Int32)) = x1003
        refine aw_iload_n hC 1 dX12_lookBest_18 rfl rfl ?_
        refine aw_cV2r hC hSt (t_X12_oddsOf G l hM _ _ (h0 c1001 x1003 ex1003)) w_1134 w_1140 w_1141 w_1142 w_953 rfl rfl (by decide +kernel) ⟨Nat.le_of_ble_eq_true rfl, Nat.le_of_ble_eq_true rfl⟩ (ms_lt 64 (by decide) hM) (ms_k 64 12 0 (by decide) hM) rfl (Nat.le_of_ble_eq_true rfl) dX12_lookBest_19 ⟨Nat.zero_le _, Nat.zero_le _⟩ ?_
        generalize er1004 : f_X12_oddsOf S 64 x1003 v1 = r1004
        have hM : MS r1004.2 := MS.of (by rw [← er1004]; exact q_X12_oddsOf _ _ _ _) hM
        refine aw_istore_n hC [(3, .int _), (0, .ref 64), (1, .int _), (2, .int _)] dX12_lookBest_22 rfl (by decide) rfl ?_
        generalize ex1005 : r1004.1 = x1005
        refine aw_iload_n hC 0 dX12_lookBest_23 rfl rfl ?_
        refine aw_aload_n hC 1 dX12_lookBest_24 rfl rfl ?_
        refine aw_getI hC hSt 32 (ms_lt 64 (by decide) hM) (ms_k 64 12 0 (by decide) hM) rfl (by decide) w_1199 rfl dX12_lookBest_25 ?_
        refine aw_cut (S' := (if x1005 ≤ (gI r1004.2 64 32) then r1004.2 else (bd ((sI r1004.2 64 32 x1005)) fun S1007 => bd ((sI S1007 64 31 (((2 : Int32) * (gI S1007 64 24)) + v2))) fun S1008 => S1008))) (pc' := 48) (lv' := [(3, .int x1005), (0, .ref 64), (1, .int v1), (2, .int v2)]) (st' := []) ?_ (fun Jc1006 => ?_)
        · generalize eS1009 : (if x1005 ≤ (gI r1004.2 64 32) then r1004.2 else (bd ((sI r1004.2 64 32 x1005)) fun S1007 => bd ((sI S1007 64 31 (((2 : Int32) * (gI S1007 64 24)) + v2))) fun S1008 => S1008)) = S1009
          have hM : MS S1009 := MS.of (by rw [← eS1009]; repeat' (first | with_reducible rfl | with_reducible refine (q_X12_oddsOf _ _ _ _).trans ?_ | with_reducible refine (shp_sI _ _ _ _).trans ?_ | with_reducible refine (shp_sJ _ _ _ _).trans ?_ | with_reducible refine shi ?_ ?_ | with_reducible refine shb (fun _ _ => ?_) | (subst_vars; with_reducible rfl) | (subst_vars; with_reducible refine (q_X12_oddsOf _ _ _ _).trans ?_) | (subst_vars; with_reducible refine (shp_sI _ _ _ _).trans ?_) | (subst_vars; with_reducible refine (shp_sJ _ _ _ _).trans ?_) | (subst_vars; with_reducible refine shi ?_ ?_) | (subst_vars; with_reducible refine shb (fun _ _ => ?_)))) hM
          refine aw_iinc (v := (v2 + (1 : Int32))) hC 3 [(2, .int _), (3, .int _), (0, .ref 64), (1, .int _)] dX12_lookBest_48 rfl rfl (by decide) rfl ?_
          refine aw_goto hC 2 dX12_lookBest_51 (by decide) ?_
          refine aw_sub [2, 3, 0] rfl ?_
          have hTn := (h1 c1001 x1003 ex1003 r1004 er1004 x1005 ex1005 S1009 eS1009)
          have hMn : MS S1009 := hM
          have E : L_X12_lookBest_2 (n + 1) S v1 v2 = _ := (if_neg c1001).trans ((bd_eq ex1003).trans ((bd_eq er1004).trans ((bd_eq ex1005).trans ((bd_eq eS1009).trans (rfl)))))
          rw [E] at hk
          exact ih _ _ _ hMn hTn hk
        · refine aw_icmp_le hC 48 dX12_lookBest_28 (by decide) (fun c1006 => ?_) (fun c1006 => ?_)
          · simp only [bd_def, if_pos c1006] at Jc1006 ⊢
            exact Jc1006
          · refine aw_aload_n hC 1 dX12_lookBest_31 rfl rfl ?_
            refine aw_iload_n hC 0 dX12_lookBest_32 rfl rfl ?_
            refine aw_putI hC hSt 32 (ms_lt 64 (by decide) hM) (ms_k 64 12 0 (by decide) hM) rfl (by decide) w_1199 rfl rfl rfl rfl dX12_lookBest_33 ?_
            generalize eS1007 : (sI r1004.2 64 32 x1005) = S1007
            have hM : MS S1007 := MS.of (by rw [← eS1007]; exact shp_sI _ _ _ _) hM
            refine aw_aload_n hC 1 dX12_lookBest_36 rfl rfl ?_
            refine aw_iconst (v := 2) hC dX12_lookBest_37 (by decide) ?_
            refine aw_aload_n hC 1 dX12_lookBest_38 rfl rfl ?_
            refine aw_getI hC hSt 24 (ms_lt 64 (by decide) hM) (ms_k 64 12 0 (by decide) hM) rfl (by decide) w_1036 rfl dX12_lookBest_39 ?_
            refine aw_imul hC dX12_lookBest_42 ?_
            refine aw_iload_n hC 3 dX12_lookBest_43 rfl rfl ?_
            refine aw_iadd hC dX12_lookBest_44 ?_
            refine aw_putI hC hSt 31 (ms_lt 64 (by decide) hM) (ms_k 64 12 0 (by decide) hM) rfl (by decide) w_1200 rfl rfl rfl rfl dX12_lookBest_45 ?_
            generalize eS1008 : (sI S1007 64 31 (((2 : Int32) * (gI S1007 64 24)) + v2)) = S1008
            have hM : MS S1008 := MS.of (by rw [← eS1008]; exact shp_sI _ _ _ _) hM
            subst eS1008
            subst eS1007
            simp only [bd_def, if_neg c1006] at Jc1006 ⊢
            exact Jc1006
      · refine aw_icmp_ne hC 17 dX12_lookBest_10 (by decide) (fun c1002 => ?_) (fun c1002 => ?_)
        · refine aw_iconst (v := 0) hC dX12_lookBest_17 (by decide) ?_
          simp only [bd_def, if_neg c1002] at Jc1002 ⊢
          exact Jc1002
        · refine aw_iconst (v := 1) hC dX12_lookBest_13 (by decide) ?_
          refine aw_goto hC 18 dX12_lookBest_14 (by decide) ?_
          simp only [bd_def, if_pos c1002] at Jc1002 ⊢
          exact Jc1002
noncomputable def f_X12_lookBest (S : HSt) (_o : Nat) (a1 : Int32) : HSt := bd (L_X12_lookBest_2 1000 S a1 (0 : Int32)) fun r1 => r1.2.2
def p_X12_lookBest (S : HSt) (_o : Nat) (a1 : Int32) : Prop := (T_X12_lookBest_2 1000 S a1 (0 : Int32))
set_option maxRecDepth 100000 in
theorem t_X12_lookBest (G : GG) (l : Launch) {S : HSt} (hM : MS S) (a1 : Int32) (hp : p_X12_lookBest S 64 a1) : AM G l yX12_lookBest cX12_lookBest 4 none (rmD 4 0 0) 0 0 [.ref 64, .int a1] S (FP none (f_X12_lookBest S 64 a1)) := by
  have h0 := hp
  unfold p_X12_lookBest at h0
  refine AM.mk (by decide) (Nat.le_of_ble_eq_true rfl) ?_
  intro p e s m below meth c hC hSt _
  refine aw_iconst (v := 0) hC dX12_lookBest_0 (by decide) ?_
  refine aw_istore_n hC [(2, .int _), (0, .ref 64), (1, .int _)] dX12_lookBest_1 rfl (by decide) rfl ?_
  refine aw_sub [1, 2, 0] rfl ?_
  refine l_X12_lookBest_2 hC hSt 1000 _ _ _ hM (h0) ?_
  generalize er1 : L_X12_lookBest_2 1000 S a1 (0 : Int32) = r1
  have hM : MS r1.2.2 := MS.of (by rw [← er1]; exact qL_X12_lookBest_2 _ _ _ _) hM
  refine aw_vret hC dX12_lookBest_54 (Nat.le_refl _) (Nat.le_refl _) ?_
  exact FP.qV ((bd_eq er1).trans (rfl))
theorem q_X12_lookBest (S : HSt) (_o : Nat) (a1 : Int32) : shp (f_X12_lookBest S _o a1) = shp S := by
  unfold f_X12_lookBest
  repeat' (first | with_reducible rfl | with_reducible refine (q_X12_oddsOf _ _ _ _).trans ?_ | with_reducible refine (qL_X12_lookBest_2 _ _ _ _).trans ?_ | with_reducible refine (shp_sI _ _ _ _).trans ?_ | with_reducible refine (shp_sJ _ _ _ _).trans ?_ | with_reducible refine shi ?_ ?_ | with_reducible refine shb (fun _ _ => ?_) | (subst_vars; with_reducible rfl) | (subst_vars; with_reducible refine (q_X12_oddsOf _ _ _ _).trans ?_) | (subst_vars; with_reducible refine (qL_X12_lookBest_2 _ _ _ _).trans ?_) | (subst_vars; with_reducible refine (shp_sI _ _ _ _).trans ?_) | (subst_vars; with_reducible refine (shp_sJ _ _ _ _).trans ?_) | (subst_vars; with_reducible refine shi ?_ ?_) | (subst_vars; with_reducible refine shb (fun _ _ => ?_)))
noncomputable def L_X12_best_74 : Nat → HSt → Int32 → Int32 → Int32 → Int32 → Int32 × Int32 × Int32 × Int32 × HSt
  | 0, S, v1, v2, v3, v4 => (v1, v2, v3, v4, S)
  | n + 1, S, v1, v2, v3, v4 =>
    if (f_X12_deed S 64 v3 (1 : Int32)) ≤ v4 then ((pr (v1) (pr (v2) (pr (v3) (pr (v4) (S)))))) else (if (f_X12_isStill S 64) = 0 then (bd ((if (f_X12_deed S 64 v3 (0 : Int32)) = (3 : Int32) then (1 : Int32) else (0 : Int32))) fun x2013 => bd (f_X12_doTick S 64 x2013 (f_X12_deed S 64 v3 (2 : Int32)) (f_X12_deed S 64 v3 (3 : Int32)) (f_X12_deed S 64 v3 (4 : Int32))) fun r2014 => bd (f_X12_lookBest r2014 64 v1) fun r2015 => L_X12_best_74 n r2015 v1 v2 v3 (v4 + (1 : Int32))) else ((pr (v1) (pr (v2) (pr (v3) (pr (v4) (S)))))))
def T_X12_best_74 : Nat → HSt → Int32 → Int32 → Int32 → Int32 → Prop
  | 0, _, _, _, _, _ => False
  | n + 1, S, v1, v2, v3, v4 => (p_X12_deed S 64 v3 (1 : Int32)) ∧ ((¬ (f_X12_deed S 64 v3 (1 : Int32)) ≤ v4) → ((f_X12_isStill S 64) = 0) → p_X12_deed S 64 v3 (0 : Int32)) ∧ ((¬ (f_X12_deed S 64 v3 (1 : Int32)) ≤ v4) → ((f_X12_isStill S 64) = 0) → ∀ x2013 : Int32, (if (f_X12_deed S 64 v3 (0 : Int32)) = (3 : Int32) then (1 : Int32) else (0 : Int32)) = x2013 → p_X12_deed S 64 v3 (2 : Int32)) ∧ ((¬ (f_X12_deed S 64 v3 (1 : Int32)) ≤ v4) → ((f_X12_isStill S 64) = 0) → ∀ x2013 : Int32, (if (f_X12_deed S 64 v3 (0 : Int32)) = (3 : Int32) then (1 : Int32) else (0 : Int32)) = x2013 → p_X12_deed S 64 v3 (3 : Int32)) ∧ ((¬ (f_X12_deed S 64 v3 (1 : Int32)) ≤ v4) → ((f_X12_isStill S 64) = 0) → ∀ x2013 : Int32, (if (f_X12_deed S 64 v3 (0 : Int32)) = (3 : Int32) then (1 : Int32) else (0 : Int32)) = x2013 → p_X12_deed S 64 v3 (4 : Int32)) ∧ ((¬ (f_X12_deed S 64 v3 (1 : Int32)) ≤ v4) → ((f_X12_isStill S 64) = 0) → ∀ x2013 : Int32, (if (f_X12_deed S 64 v3 (0 : Int32)) = (3 : Int32) then (1 : Int32) else (0 : Int32)) = x2013 → p_X12_doTick S 64 x2013 (f_X12_deed S 64 v3 (2 : Int32)) (f_X12_deed S 64 v3 (3 : Int32)) (f_X12_deed S 64 v3 (4 : Int32))) ∧ ((¬ (f_X12_deed S 64 v3 (1 : Int32)) ≤ v4) → ((f_X12_isStill S 64) = 0) → ∀ x2013 : Int32, (if (f_X12_deed S 64 v3 (0 : Int32)) = (3 : Int32) then (1 : Int32) else (0 : Int32)) = x2013 → ∀ r2014, f_X12_doTick S 64 x2013 (f_X12_deed S 64 v3 (2 : Int32)) (f_X12_deed S 64 v3 (3 : Int32)) (f_X12_deed S 64 v3 (4 : Int32)) = r2014 → p_X12_lookBest r2014 64 v1) ∧ ((¬ (f_X12_deed S 64 v3 (1 : Int32)) ≤ v4) → ((f_X12_isStill S 64) = 0) → ∀ x2013 : Int32, (if (f_X12_deed S 64 v3 (0 : Int32)) = (3 : Int32) then (1 : Int32) else (0 : Int32)) = x2013 → ∀ r2014, f_X12_doTick S 64 x2013 (f_X12_deed S 64 v3 (2 : Int32)) (f_X12_deed S 64 v3 (3 : Int32)) (f_X12_deed S 64 v3 (4 : Int32)) = r2014 → ∀ r2015, f_X12_lookBest r2014 64 v1 = r2015 → T_X12_best_74 n r2015 v1 v2 v3 (v4 + (1 : Int32)))
theorem qL_X12_best_74 : ∀ (n : Nat) (S : HSt) (v1 : Int32) (v2 : Int32) (v3 : Int32) (v4 : Int32), shp (L_X12_best_74 n S v1 v2 v3 v4).2.2.2.2 = shp S := by
  intro n
  induction n with
  | zero => intros; rfl
  | succ n ih =>
    intro S v1 v2 v3 v4
    unfold L_X12_best_74
    repeat' (first | with_reducible refine shpr4 ?_ | with_reducible rfl | with_reducible refine (ih _ _ _ _ _).trans ?_ | with_reducible refine (q_X12_doTick _ _ _ _ _ _).trans ?_ | with_reducible refine (q_X12_first _ _).trans ?_ | with_reducible refine (q_X12_lookBest _ _ _).trans ?_ | with_reducible refine (shp_sI _ _ _ _).trans ?_ | with_reducible refine (shp_sJ _ _ _ _).trans ?_ | with_reducible refine shi ?_ ?_ | with_reducible refine shb (fun _ _ => ?_) | with_reducible refine shiP (fun q : Int32 × Int32 × Int32 × Int32 × HSt => q.2.2.2.2) ?_ ?_ | with_reducible refine shbP (fun q : Int32 × Int32 × Int32 × Int32 × HSt => q.2.2.2.2) (fun _ _ => ?_) | (subst_vars; with_reducible rfl) | (subst_vars; with_reducible refine (ih _ _ _ _ _).trans ?_) | (subst_vars; with_reducible refine (q_X12_doTick _ _ _ _ _ _).trans ?_) | (subst_vars; with_reducible refine (q_X12_first _ _).trans ?_) | (subst_vars; with_reducible refine (q_X12_lookBest _ _ _).trans ?_) | (subst_vars; with_reducible refine (shp_sI _ _ _ _).trans ?_) | (subst_vars; with_reducible refine (shp_sJ _ _ _ _).trans ?_) | (subst_vars; with_reducible refine shi ?_ ?_) | (subst_vars; with_reducible refine shb (fun _ _ => ?_)))
set_option maxRecDepth 100000 in
theorem l_X12_best_74 {p : Program} {l : Launch} {e : Env} {s : State} {m : MethodId} {args : Array Value} {below : List Frame} {meth : Method} {c : Code} {G : GG} {Q : State → Prop} (hC : ACx p s m args meth c cX12_best RX12 5 (some .long)) (hSt : St G s)  : ∀ (n : Nat) (S : HSt) (v1 : Int32) (v2 : Int32) (v3 : Int32) (v4 : Int32), MS S → T_X12_best_74 n S v1 v2 v3 v4 → AW p l e (rmD 5 0 0) s m args below meth c G 5 Q (L_X12_best_74 n S v1 v2 v3 v4).2.2.2.2 0 0 140 [(0, .ref 64), (1, .int (L_X12_best_74 n S v1 v2 v3 v4).1), (2, .int (L_X12_best_74 n S v1 v2 v3 v4).2.1), (3, .int (L_X12_best_74 n S v1 v2 v3 v4).2.2.1), (4, .int (L_X12_best_74 n S v1 v2 v3 v4).2.2.2.1)] [] → AW p l e (rmD 5 0 0) s m args below meth c G 5 Q S 0 0 74 [(0, .ref 64), (1, .int v1), (2, .int v2), (3, .int v3), (4, .int v4)] [] := by
  intro n
  induction n with
  | zero => intro S v1 v2 v3 v4 _ hT; exact hT.elim
  | succ n ih =>
    intro S v1 v2 v3 v4 hM hT hk
    unfold T_X12_best_74 at hT
    obtain ⟨h0, h1, h2, h3, h4, h5, h6, h7⟩ := hT
    refine aw_iload hC 4 dX12_best_74 rfl ?_
    refine aw_aload_n hC 0 dX12_best_76 rfl rfl ?_
    refine aw_iload_n hC 3 dX12_best_77 rfl rfl ?_
    refine aw_iconst (v := 1) hC dX12_best_78 (by decide) ?_
    refine aw_cV2r hC hSt (t_X12_deed G l hM _ _ (h0)) w_1080 w_1088 w_1089 w_1090 w_953 rfl rfl (by decide +kernel) ⟨Nat.le_of_ble_eq_true rfl, Nat.le_of_ble_eq_true rfl⟩ (ms_lt 64 (by decide) hM) (ms_k 64 12 0 (by decide) hM) rfl (Nat.le_of_ble_eq_true rfl) dX12_best_79 ⟨Nat.zero_le _, Nat.zero_le _⟩ ?_
    refine aw_icmp_ge hC 140 dX12_best_82 (by decide) (fun c2010 => ?_) (fun c2010 => ?_)
    · refine aw_sub [0, 1, 2, 3, 4] rfl ?_
      have E : L_X12_best_74 (n + 1) S v1 v2 v3 v4 = _ := (if_pos c2010).trans (rfl)
      rw [E] at hk
      exact hk
    · refine aw_aload_n hC 0 dX12_best_85 rfl rfl ?_
      refine aw_cV0r hC hSt (t_X12_isStill G l hM ) w_1099 w_1118 w_1119 w_1120 w_953 rfl rfl (by decide +kernel) ⟨Nat.le_of_ble_eq_true rfl, Nat.le_of_ble_eq_true rfl⟩ (ms_lt 64 (by decide) hM) (ms_k 64 12 0 (by decide) hM) rfl (Nat.le_of_ble_eq_true rfl) dX12_best_86 ⟨Nat.zero_le _, Nat.zero_le _⟩ ?_
      refine aw_if_ne hC 140 dX12_best_89 (by decide) (fun c2011 => ?_) (fun c2011 => ?_)
      · refine aw_sub [0, 1, 2, 3, 4] rfl ?_
        have E : L_X12_best_74 (n + 1) S v1 v2 v3 v4 = _ := (if_neg c2010).trans ((if_neg c2011).trans (rfl))
        rw [E] at hk
        exact hk
      · refine aw_aload_n hC 0 dX12_best_92 rfl rfl ?_
        refine aw_aload_n hC 0 dX12_best_93 rfl rfl ?_
        refine aw_iload_n hC 3 dX12_best_94 rfl rfl ?_
        refine aw_iconst (v := 0) hC dX12_best_95 (by decide) ?_
        refine aw_cV2r hC hSt (t_X12_deed G l hM _ _ (h1 c2010 c2011)) w_1080 w_1088 w_1089 w_1090 w_953 rfl rfl (by decide +kernel) ⟨Nat.le_of_ble_eq_true rfl, Nat.le_of_ble_eq_true rfl⟩ (ms_lt 64 (by decide) hM) (ms_k 64 12 0 (by decide) hM) rfl (Nat.le_of_ble_eq_true rfl) dX12_best_96 ⟨Nat.zero_le _, Nat.zero_le _⟩ ?_
        refine aw_iconst (v := 3) hC dX12_best_99 (by decide) ?_
        refine aw_cut (S' := S) (pc' := 108) (lv' := [(0, .ref 64), (1, .int v1), (2, .int v2), (3, .int v3), (4, .int v4)]) (st' := [.int (if (f_X12_deed S 64 v3 (0 : Int32)) = (3 : Int32) then (1 : Int32) else (0 : Int32)), .ref 64]) ?_ (fun Jc2012 => ?_)
        · generalize ex2013 : (if (f_X12_deed S 64 v3 (0 : Int32)) = (3 : Int32) then (1 : Int32) else (0 : Int32)) = x2013
          refine aw_aload_n hC 0 dX12_best_108 rfl rfl ?_
          refine aw_iload_n hC 3 dX12_best_109 rfl rfl ?_
          refine aw_iconst (v := 2) hC dX12_best_110 (by decide) ?_
          refine aw_cV2r hC hSt (t_X12_deed G l hM _ _ (h2 c2010 c2011 x2013 ex2013)) w_1080 w_1088 w_1089 w_1090 w_953 rfl rfl (by decide +kernel) ⟨Nat.le_of_ble_eq_true rfl, Nat.le_of_ble_eq_true rfl⟩ (ms_lt 64 (by decide) hM) (ms_k 64 12 0 (by decide) hM) rfl (Nat.le_of_ble_eq_true rfl) dX12_best_111 ⟨Nat.zero_le _, Nat.zero_le _⟩ ?_
          refine aw_aload_n hC 0 dX12_best_114 rfl rfl ?_
          refine aw_iload_n hC 3 dX12_best_115 rfl rfl ?_
          refine aw_iconst (v := 3) hC dX12_best_116 (by decide) ?_
          refine aw_cV2r hC hSt (t_X12_deed G l hM _ _ (h3 c2010 c2011 x2013 ex2013)) w_1080 w_1088 w_1089 w_1090 w_953 rfl rfl (by decide +kernel) ⟨Nat.le_of_ble_eq_true rfl, Nat.le_of_ble_eq_true rfl⟩ (ms_lt 64 (by decide) hM) (ms_k 64 12 0 (by decide) hM) rfl (Nat.le_of_ble_eq_true rfl) dX12_best_117 ⟨Nat.zero_le _, Nat.zero_le _⟩ ?_
          refine aw_aload_n hC 0 dX12_best_120 rfl rfl ?_
          refine aw_iload_n hC 3 dX12_best_121 rfl rfl ?_
          refine aw_iconst (v := 4) hC dX12_best_122 (by decide) ?_
          refine aw_cV2r hC hSt (t_X12_deed G l hM _ _ (h4 c2010 c2011 x2013 ex2013)) w_1080 w_1088 w_1089 w_1090 w_953 rfl rfl (by decide +kernel) ⟨Nat.le_of_ble_eq_true rfl, Nat.le_of_ble_eq_true rfl⟩ (ms_lt 64 (by decide) hM) (ms_k 64 12 0 (by decide) hM) rfl (Nat.le_of_ble_eq_true rfl) dX12_best_123 ⟨Nat.zero_le _, Nat.zero_le _⟩ ?_
          refine aw_cV4v hC hSt (t_X12_doTick G l hM _ _ _ _ (h5 c2010 c2011 x2013 ex2013)) w_1110 w_1155 w_1156 w_1157 w_953 rfl rfl (by decide +kernel) ⟨Nat.le_of_ble_eq_true rfl, Nat.le_of_ble_eq_true rfl⟩ (ms_lt 64 (by decide) hM) (ms_k 64 12 0 (by decide) hM) rfl (Nat.le_of_ble_eq_true rfl) dX12_best_126 ⟨Nat.zero_le _, Nat.zero_le _⟩ ?_
          generalize er2014 : f_X12_doTick S 64 x2013 (f_X12_deed S 64 v3 (2 : Int32)) (f_X12_deed S 64 v3 (3 : Int32)) (f_X12_deed S 64 v3 (4 : Int32)) = r2014
          have hM : MS r2014 := MS.of (by rw [← er2014]; exact q_X12_doTick _ _ _ _ _ _) hM
          refine aw_aload_n hC 0 dX12_best_129 rfl rfl ?_
          refine aw_iload_n hC 1 dX12_best_130 rfl rfl ?_
          refine aw_cV1v hC hSt (t_X12_lookBest G l hM _ (h6 c2010 c2011 x2013 ex2013 r2014 er2014)) w_1201 w_1202 w_1203 w_1204 w_953 rfl rfl (by decide +kernel) ⟨Nat.le_of_ble_eq_true rfl, Nat.le_of_ble_eq_true rfl⟩ (ms_lt 64 (by decide) hM) (ms_k 64 12 0 (by decide) hM) rfl (Nat.le_of_ble_eq_true rfl) dX12_best_131 ⟨Nat.zero_le _, Nat.zero_le _⟩ ?_
          generalize er2015 : f_X12_lookBest r2014 64 v1 = r2015
          have hM : MS r2015 := MS.of (by rw [← er2015]; exact q_X12_lookBest _ _ _) hM
          refine aw_iinc (v := (v4 + (1 : Int32))) hC 4 [(4, .int _), (0, .ref 64), (1, .int _), (2, .int _), (3, .int _)] dX12_best_134 rfl rfl (by decide) rfl ?_
          refine aw_goto hC 74 dX12_best_137 (by decide) ?_
          refine aw_sub [1, 2, 3, 4, 0] rfl ?_
          have hTn := (h7 c2010 c2011 x2013 ex2013 r2014 er2014 r2015 er2015)
          have hMn : MS r2015 := hM
          have E : L_X12_best_74 (n + 1) S v1 v2 v3 v4 = _ := (if_neg c2010).trans ((if_pos c2011).trans ((bd_eq ex2013).trans ((bd_eq er2014).trans ((bd_eq er2015).trans (rfl)))))
          rw [E] at hk
          exact ih _ _ _ _ _ hMn hTn hk
        · refine aw_icmp_ne hC 107 dX12_best_100 (by decide) (fun c2012 => ?_) (fun c2012 => ?_)
          · refine aw_iconst (v := 0) hC dX12_best_107 (by decide) ?_
            simp only [bd_def, if_neg c2012] at Jc2012 ⊢
            exact Jc2012
          · refine aw_iconst (v := 1) hC dX12_best_103 (by decide) ?_
            refine aw_goto hC 108 dX12_best_104 (by decide) ?_
            simp only [bd_def, if_pos c2012] at Jc2012 ⊢
            exact Jc2012
noncomputable def L_X12_best_51 : Nat → HSt → Int32 → Int32 → Int32 → Int32 × Int32 × Int32 × HSt
  | 0, S, v1, v2, v3 => (v1, v2, v3, S)
  | n + 1, S, v1, v2, v3 =>
    if (gI S 68 (5 : Int32).toNatClampNeg) ≤ v3 then ((pr (v1) (pr (v2) (pr (v3) (S))))) else (if (4 : Int32) ≤ (f_X12_deed S 64 v3 (0 : Int32)) then ((pr (v1) (pr (v2) (pr (v3) (S))))) else (bd (L_X12_best_74 1000 S v1 v2 v3 (0 : Int32)) fun r1010 => L_X12_best_51 n r1010.2.2.2.2 r1010.1 r1010.2.1 (r1010.2.2.1 + (1 : Int32))))
def T_X12_best_51 : Nat → HSt → Int32 → Int32 → Int32 → Prop
  | 0, _, _, _, _ => False
  | n + 1, S, v1, v2, v3 => ((¬ (gI S 68 (5 : Int32).toNatClampNeg) ≤ v3) → p_X12_deed S 64 v3 (0 : Int32)) ∧ ((¬ (gI S 68 (5 : Int32).toNatClampNeg) ≤ v3) → (¬ (4 : Int32) ≤ (f_X12_deed S 64 v3 (0 : Int32))) → T_X12_best_74 1000 S v1 v2 v3 (0 : Int32)) ∧ ((¬ (gI S 68 (5 : Int32).toNatClampNeg) ≤ v3) → (¬ (4 : Int32) ≤ (f_X12_deed S 64 v3 (0 : Int32))) → ∀ r1010, L_X12_best_74 1000 S v1 v2 v3 (0 : Int32) = r1010 → T_X12_best_51 n r1010.2.2.2.2 r1010.1 r1010.2.1 (r1010.2.2.1 + (1 : Int32)))
theorem qL_X12_best_51 : ∀ (n : Nat) (S : HSt) (v1 : Int32) (v2 : Int32) (v3 : Int32), shp (L_X12_best_51 n S v1 v2 v3).2.2.2 = shp S := by
  intro n
  induction n with
  | zero => intros; rfl
  | succ n ih =>
    intro S v1 v2 v3
    unfold L_X12_best_51
    repeat' (first | with_reducible refine shpr3 ?_ | with_reducible rfl | with_reducible refine (ih _ _ _ _).trans ?_ | with_reducible refine (q_X12_doTick _ _ _ _ _ _).trans ?_ | with_reducible refine (q_X12_first _ _).trans ?_ | with_reducible refine (q_X12_lookBest _ _ _).trans ?_ | with_reducible refine (qL_X12_best_74 _ _ _ _ _ _).trans ?_ | with_reducible refine (shp_sI _ _ _ _).trans ?_ | with_reducible refine (shp_sJ _ _ _ _).trans ?_ | with_reducible refine shi ?_ ?_ | with_reducible refine shb (fun _ _ => ?_) | with_reducible refine shiP (fun q : Int32 × Int32 × Int32 × HSt => q.2.2.2) ?_ ?_ | with_reducible refine shbP (fun q : Int32 × Int32 × Int32 × HSt => q.2.2.2) (fun _ _ => ?_) | (subst_vars; with_reducible rfl) | (subst_vars; with_reducible refine (ih _ _ _ _).trans ?_) | (subst_vars; with_reducible refine (q_X12_doTick _ _ _ _ _ _).trans ?_) | (subst_vars; with_reducible refine (q_X12_first _ _).trans ?_) | (subst_vars; with_reducible refine (q_X12_lookBest _ _ _).trans ?_) | (subst_vars; with_reducible refine (qL_X12_best_74 _ _ _ _ _ _).trans ?_) | (subst_vars; with_reducible refine (shp_sI _ _ _ _).trans ?_) | (subst_vars; with_reducible refine (shp_sJ _ _ _ _).trans ?_) | (subst_vars; with_reducible refine shi ?_ ?_) | (subst_vars; with_reducible refine shb (fun _ _ => ?_)))
set_option maxRecDepth 100000 in
theorem l_X12_best_51 {p : Program} {l : Launch} {e : Env} {s : State} {m : MethodId} {args : Array Value} {below : List Frame} {meth : Method} {c : Code} {G : GG} {Q : State → Prop} (hC : ACx p s m args meth c cX12_best RX12 5 (some .long)) (hSt : St G s)  : ∀ (n : Nat) (S : HSt) (v1 : Int32) (v2 : Int32) (v3 : Int32), MS S → T_X12_best_51 n S v1 v2 v3 → AW p l e (rmD 5 0 0) s m args below meth c G 5 Q (L_X12_best_51 n S v1 v2 v3).2.2.2 0 0 146 [(0, .ref 64), (1, .int (L_X12_best_51 n S v1 v2 v3).1), (2, .int (L_X12_best_51 n S v1 v2 v3).2.1), (3, .int (L_X12_best_51 n S v1 v2 v3).2.2.1)] [] → AW p l e (rmD 5 0 0) s m args below meth c G 5 Q S 0 0 51 [(0, .ref 64), (1, .int v1), (2, .int v2), (3, .int v3)] [] := by
  intro n
  induction n with
  | zero => intro S v1 v2 v3 _ hT; exact hT.elim
  | succ n ih =>
    intro S v1 v2 v3 hM hT hk
    unfold T_X12_best_51 at hT
    obtain ⟨h0, h1, h2⟩ := hT
    refine aw_iload_n hC 3 dX12_best_51 rfl rfl ?_
    refine aw_aload_n hC 0 dX12_best_52 rfl rfl ?_
    refine aw_getP (b := 68) hC hSt 5 (ms_lt 64 (by decide) hM) (ms_k 64 12 0 (by decide) hM) rfl (by decide) w_920 rfl (ms_p 5 68 (by decide) hM) dX12_best_53 ?_
    refine aw_iconst (v := 5) hC dX12_best_56 (by decide) ?_
    refine aw_iald hC hSt (ms_lt 68 (by decide) hM) (ms_k 68 14 172 (by decide) hM) (vp_len (n := 172) (ms_l 68 14 172 (by decide) hM) (by unfold vp_in; decide)) dX12_best_57 ?_
    refine aw_icmp_ge hC 146 dX12_best_58 (by decide) (fun c1008 => ?_) (fun c1008 => ?_)
    · refine aw_sub [0, 1, 2, 3] rfl ?_
      have E : L_X12_best_51 (n + 1) S v1 v2 v3 = _ := (if_pos c1008).trans (rfl)
      rw [E] at hk
      exact hk
    · refine aw_aload_n hC 0 dX12_best_61 rfl rfl ?_
      refine aw_iload_n hC 3 dX12_best_62 rfl rfl ?_
      refine aw_iconst (v := 0) hC dX12_best_63 (by decide) ?_
      refine aw_cV2r hC hSt (t_X12_deed G l hM _ _ (h0 c1008)) w_1080 w_1088 w_1089 w_1090 w_953 rfl rfl (by decide +kernel) ⟨Nat.le_of_ble_eq_true rfl, Nat.le_of_ble_eq_true rfl⟩ (ms_lt 64 (by decide) hM) (ms_k 64 12 0 (by decide) hM) rfl (Nat.le_of_ble_eq_true rfl) dX12_best_64 ⟨Nat.zero_le _, Nat.zero_le _⟩ ?_
      refine aw_iconst (v := 4) hC dX12_best_67 (by decide) ?_
      refine aw_icmp_ge hC 146 dX12_best_68 (by decide) (fun c1009 => ?_) (fun c1009 => ?_)
      · refine aw_sub [0, 1, 2, 3] rfl ?_
        have E : L_X12_best_51 (n + 1) S v1 v2 v3 = _ := (if_neg c1008).trans ((if_pos c1009).trans (rfl))
        rw [E] at hk
        exact hk
      · refine aw_iconst (v := 0) hC dX12_best_71 (by decide) ?_
        refine aw_istore hC [(4, .int _), (0, .ref 64), (1, .int _), (2, .int _), (3, .int _)] dX12_best_72 (by decide) rfl ?_
        refine aw_sub [1, 2, 3, 4, 0] rfl ?_
        refine l_X12_best_74 hC hSt 1000 _ _ _ _ _ hM (h1 c1008 c1009) ?_
        generalize er1010 : L_X12_best_74 1000 S v1 v2 v3 (0 : Int32) = r1010
        have hM : MS r1010.2.2.2.2 := MS.of (by rw [← er1010]; exact qL_X12_best_74 _ _ _ _ _ _) hM
        refine aw_iinc (v := (r1010.2.2.1 + (1 : Int32))) hC 3 [(3, .int _), (0, .ref 64), (1, .int _), (2, .int _), (4, .int _)] dX12_best_140 rfl rfl (by decide) rfl ?_
        refine aw_goto hC 51 dX12_best_143 (by decide) ?_
        refine aw_sub [1, 2, 3, 0] rfl ?_
        have hTn := (h2 c1008 c1009 r1010 er1010)
        have hMn : MS r1010.2.2.2.2 := hM
        have E : L_X12_best_51 (n + 1) S v1 v2 v3 = _ := (if_neg c1008).trans ((if_neg c1009).trans ((bd_eq er1010).trans (rfl)))
        rw [E] at hk
        exact ih _ _ _ _ hMn hTn hk
noncomputable def f_X12_best (S : HSt) (_o : Nat) (a1 : Int32) (a2 : Int32) : Int64 × HSt := bd ((sI S 64 0 (0 : Int32))) fun S1 => if (f_X12_isBeast S1 64 a1) = 0 then (pr ((-9000000000000000001 : Int64)) (S1)) else (if (f_X12_in S1 a2.toInt64 (0 : Int64) (2 : Int64)) = 0 then (pr ((-9000000000000000001 : Int64)) (S1)) else (bd (f_X12_first S1 64) fun r4 => bd ((sI r4 64 31 (-1000000 : Int32))) fun S5 => bd ((sI S5 64 32 (0 : Int32))) fun S6 => bd (f_X12_lookBest S6 64 a1) fun r7 => bd (L_X12_best_51 1000 r7 a1 a2 (0 : Int32)) fun r8 => bd ((if r8.2.1 = 0 then (gI r8.2.2.2 64 31).toInt64 else (f_X12_partOf r8.2.2.2 (gI r8.2.2.2 64 32).toInt64 (f_X12_allOdds r8.2.2.2 64).toInt64 (r8.2.1 - (1 : Int32))))) fun x10 => pr (x10) (r8.2.2.2)))
def p_X12_best (S : HSt) (_o : Nat) (a1 : Int32) (a2 : Int32) : Prop := (∀ S1 : HSt, (sI S 64 0 (0 : Int32)) = S1 → (¬ (f_X12_isBeast S1 64 a1) = 0) → (¬ (f_X12_in S1 a2.toInt64 (0 : Int64) (2 : Int64)) = 0) → ∀ r4, f_X12_first S1 64 = r4 → ∀ S5 : HSt, (sI r4 64 31 (-1000000 : Int32)) = S5 → ∀ S6 : HSt, (sI S5 64 32 (0 : Int32)) = S6 → p_X12_lookBest S6 64 a1) ∧ (∀ S1 : HSt, (sI S 64 0 (0 : Int32)) = S1 → (¬ (f_X12_isBeast S1 64 a1) = 0) → (¬ (f_X12_in S1 a2.toInt64 (0 : Int64) (2 : Int64)) = 0) → ∀ r4, f_X12_first S1 64 = r4 → ∀ S5 : HSt, (sI r4 64 31 (-1000000 : Int32)) = S5 → ∀ S6 : HSt, (sI S5 64 32 (0 : Int32)) = S6 → ∀ r7, f_X12_lookBest S6 64 a1 = r7 → T_X12_best_51 1000 r7 a1 a2 (0 : Int32)) ∧ (∀ S1 : HSt, (sI S 64 0 (0 : Int32)) = S1 → (¬ (f_X12_isBeast S1 64 a1) = 0) → (¬ (f_X12_in S1 a2.toInt64 (0 : Int64) (2 : Int64)) = 0) → ∀ r4, f_X12_first S1 64 = r4 → ∀ S5 : HSt, (sI r4 64 31 (-1000000 : Int32)) = S5 → ∀ S6 : HSt, (sI S5 64 32 (0 : Int32)) = S6 → ∀ r7, f_X12_lookBest S6 64 a1 = r7 → ∀ r8, L_X12_best_51 1000 r7 a1 a2 (0 : Int32) = r8 → (¬ r8.2.1 = 0) → p_X12_allOdds r8.2.2.2 64) ∧ (∀ S1 : HSt, (sI S 64 0 (0 : Int32)) = S1 → (¬ (f_X12_isBeast S1 64 a1) = 0) → (¬ (f_X12_in S1 a2.toInt64 (0 : Int64) (2 : Int64)) = 0) → ∀ r4, f_X12_first S1 64 = r4 → ∀ S5 : HSt, (sI r4 64 31 (-1000000 : Int32)) = S5 → ∀ S6 : HSt, (sI S5 64 32 (0 : Int32)) = S6 → ∀ r7, f_X12_lookBest S6 64 a1 = r7 → ∀ r8, L_X12_best_51 1000 r7 a1 a2 (0 : Int32) = r8 → (¬ r8.2.1 = 0) → p_X12_partOf r8.2.2.2 (gI r8.2.2.2 64 32).toInt64 (f_X12_allOdds r8.2.2.2 64).toInt64 (r8.2.1 - (1 : Int32)))
set_option maxRecDepth 100000 in
theorem t_X12_best (G : GG) (l : Launch) {S : HSt} (hM : MS S) (a1 : Int32) (a2 : Int32) (hp : p_X12_best S 64 a1 a2) : AM G l yX12_best cX12_best 5 (some .long) (rmD 5 0 0) 0 0 [.ref 64, .int a1, .int a2] S (FP (some (.long (f_X12_best S 64 a1 a2).1)) ((f_X12_best S 64 a1 a2).2)) := by
  obtain ⟨h0, h1, h2, h3⟩ := hp
  refine AM.mk (by decide) (Nat.le_of_ble_eq_true rfl) ?_
  intro p e s m below meth c hC hSt _
  refine aw_aload_n hC 0 dX12_best_0 rfl rfl ?_
  refine aw_iconst (v := 0) hC dX12_best_1 (by decide) ?_
  refine aw_putI hC hSt 0 (ms_lt 64 (by decide) hM) (ms_k 64 12 0 (by decide) hM) rfl (by decide) w_955 rfl rfl rfl rfl dX12_best_2 ?_
  generalize eS1 : (sI S 64 0 (0 : Int32)) = S1
  have hM : MS S1 := MS.of (by rw [← eS1]; exact shp_sI _ _ _ _) hM
  refine aw_aload_n hC 0 dX12_best_5 rfl rfl ?_
  refine aw_iload_n hC 1 dX12_best_6 rfl rfl ?_
  refine aw_cV1r hC hSt (t_X12_isBeast G l hM _) w_1081 w_1159 w_1160 w_1161 w_953 rfl rfl (by decide +kernel) ⟨Nat.le_of_ble_eq_true rfl, Nat.le_of_ble_eq_true rfl⟩ (ms_lt 64 (by decide) hM) (ms_k 64 12 0 (by decide) hM) rfl (Nat.le_of_ble_eq_true rfl) dX12_best_7 ⟨Nat.zero_le _, Nat.zero_le _⟩ ?_
  refine aw_if_eq hC 25 dX12_best_10 (by decide) (fun c2 => ?_) (fun c2 => ?_)
  · refine aw_ldc2 (v := -9000000000000000001) hC w_957 dX12_best_25 ?_
    refine aw_lret hC dX12_best_28 (Nat.le_refl _) (Nat.le_refl _) ?_
    exact FP.qJ ((bd_eq eS1).trans ((if_pos c2).trans (rfl)))
  · refine aw_iload_n hC 2 dX12_best_13 rfl rfl ?_
    refine aw_i2l hC dX12_best_14 ?_
    refine aw_lconst (v := 0) hC dX12_best_15 (by decide) ?_
    refine aw_ldc2 (v := 2) hC w_956 dX12_best_16 ?_
    refine aw_cS3r hC hSt (t_X12_in G l  _ _ _) w_945 w_951 w_952 w_953 rfl rfl (by decide +kernel) ⟨Nat.le_of_ble_eq_true rfl, Nat.le_of_ble_eq_true rfl⟩ (Nat.le_of_ble_eq_true rfl) dX12_best_19 ⟨Nat.zero_le _, Nat.zero_le _⟩ ?_
    refine aw_if_ne hC 29 dX12_best_22 (by decide) (fun c3 => ?_) (fun c3 => ?_)
    · refine aw_aload_n hC 0 dX12_best_29 rfl rfl ?_
      refine aw_cV0v hC hSt (t_X12_first G l hM ) w_1031 w_1071 w_1072 w_1073 w_953 rfl rfl (by decide +kernel) ⟨Nat.le_of_ble_eq_true rfl, Nat.le_of_ble_eq_true rfl⟩ (ms_lt 64 (by decide) hM) (ms_k 64 12 0 (by decide) hM) rfl (Nat.le_of_ble_eq_true rfl) dX12_best_30 ⟨Nat.zero_le _, Nat.zero_le _⟩ ?_
      generalize er4 : f_X12_first S1 64 = r4
      have hM : MS r4 := MS.of (by rw [← er4]; exact q_X12_first _ _) hM
      refine aw_aload_n hC 0 dX12_best_33 rfl rfl ?_
      refine aw_ldc (v := -1000000) hC w_923 dX12_best_34 ?_
      refine aw_putI hC hSt 31 (ms_lt 64 (by decide) hM) (ms_k 64 12 0 (by decide) hM) rfl (by decide) w_1200 rfl rfl rfl rfl dX12_best_36 ?_
      generalize eS5 : (sI r4 64 31 (-1000000 : Int32)) = S5
      have hM : MS S5 := MS.of (by rw [← eS5]; exact shp_sI _ _ _ _) hM
      refine aw_aload_n hC 0 dX12_best_39 rfl rfl ?_
      refine aw_iconst (v := 0) hC dX12_best_40 (by decide) ?_
      refine aw_putI hC hSt 32 (ms_lt 64 (by decide) hM) (ms_k 64 12 0 (by decide) hM) rfl (by decide) w_1199 rfl rfl rfl rfl dX12_best_41 ?_
      generalize eS6 : (sI S5 64 32 (0 : Int32)) = S6
      have hM : MS S6 := MS.of (by rw [← eS6]; exact shp_sI _ _ _ _) hM
      refine aw_aload_n hC 0 dX12_best_44 rfl rfl ?_
      refine aw_iload_n hC 1 dX12_best_45 rfl rfl ?_
      refine aw_cV1v hC hSt (t_X12_lookBest G l hM _ (h0 S1 eS1 c2 c3 r4 er4 S5 eS5 S6 eS6)) w_1201 w_1202 w_1203 w_1204 w_953 rfl rfl (by decide +kernel) ⟨Nat.le_of_ble_eq_true rfl, Nat.le_of_ble_eq_true rfl⟩ (ms_lt 64 (by decide) hM) (ms_k 64 12 0 (by decide) hM) rfl (Nat.le_of_ble_eq_true rfl) dX12_best_46 ⟨Nat.zero_le _, Nat.zero_le _⟩ ?_
      generalize er7 : f_X12_lookBest S6 64 a1 = r7
      have hM : MS r7 := MS.of (by rw [← er7]; exact q_X12_lookBest _ _ _) hM
      refine aw_iconst (v := 0) hC dX12_best_49 (by decide) ?_
      refine aw_istore_n hC [(3, .int _), (0, .ref 64), (1, .int _), (2, .int _)] dX12_best_50 rfl (by decide) rfl ?_
      refine aw_sub [1, 2, 3, 0] rfl ?_
      refine l_X12_best_51 hC hSt 1000 _ _ _ _ hM (h1 S1 eS1 c2 c3 r4 er4 S5 eS5 S6 eS6 r7 er7) ?_
      generalize er8 : L_X12_best_51 1000 r7 a1 a2 (0 : Int32) = r8
      have hM : MS r8.2.2.2 := MS.of (by rw [← er8]; exact qL_X12_best_51 _ _ _ _ _) hM
      refine aw_iload_n hC 2 dX12_best_146 rfl rfl ?_
      refine aw_cut (S' := r8.2.2.2) (pc' := 174) (lv' := [(0, .ref 64), (1, .int r8.1), (2, .int r8.2.1), (3, .int r8.2.2.1)]) (st' := [.long (if r8.2.1 = 0 then (gI r8.2.2.2 64 31).toInt64 else (f_X12_partOf r8.2.2.2 (gI r8.2.2.2 64 32).toInt64 (f_X12_allOdds r8.2.2.2 64).toInt64 (r8.2.1 - (1 : Int32))))]) ?_ (fun Jc9 => ?_)
      · generalize ex10 : (if r8.2.1 = 0 then (gI r8.2.2.2 64 31).toInt64 else (f_X12_partOf r8.2.2.2 (gI r8.2.2.2 64 32).toInt64 (f_X12_allOdds r8.2.2.2 64).toInt64 (r8.2.1 - (1 : Int32)))) = x10
        refine aw_lret hC dX12_best_174 (Nat.le_refl _) (Nat.le_refl _) ?_
        exact FP.qJ ((bd_eq eS1).trans ((if_neg c2).trans ((if_neg c3).trans ((bd_eq er4).trans ((bd_eq eS5).trans ((bd_eq eS6).trans ((bd_eq er7).trans ((bd_eq er8).trans ((bd_eq ex10).trans (rfl))))))))))
      · refine aw_if_ne hC 158 dX12_best_147 (by decide) (fun c9 => ?_) (fun c9 => ?_)
        · refine aw_aload_n hC 0 dX12_best_158 rfl rfl ?_
          refine aw_getI hC hSt 32 (ms_lt 64 (by decide) hM) (ms_k 64 12 0 (by decide) hM) rfl (by decide) w_1199 rfl dX12_best_159 ?_
          refine aw_i2l hC dX12_best_162 ?_
          refine aw_aload_n hC 0 dX12_best_163 rfl rfl ?_
          refine aw_cV0r hC hSt (t_X12_allOdds G l hM  (h2 S1 eS1 c2 c3 r4 er4 S5 eS5 S6 eS6 r7 er7 r8 er8 c9)) w_1135 w_1143 w_1144 w_1145 w_953 rfl rfl (by decide +kernel) ⟨Nat.le_of_ble_eq_true rfl, Nat.le_of_ble_eq_true rfl⟩ (ms_lt 64 (by decide) hM) (ms_k 64 12 0 (by decide) hM) rfl (Nat.le_of_ble_eq_true rfl) dX12_best_164 ⟨Nat.zero_le _, Nat.zero_le _⟩ ?_
          refine aw_i2l hC dX12_best_167 ?_
          refine aw_iload_n hC 2 dX12_best_168 rfl rfl ?_
          refine aw_iconst (v := 1) hC dX12_best_169 (by decide) ?_
          refine aw_isub hC dX12_best_170 ?_
          refine aw_cS3r hC hSt (t_X12_partOf G l  _ _ _ (h3 S1 eS1 c2 c3 r4 er4 S5 eS5 S6 eS6 r7 er7 r8 er8 c9)) w_1137 w_1170 w_1171 w_953 rfl rfl (by decide +kernel) ⟨Nat.le_of_ble_eq_true rfl, Nat.le_of_ble_eq_true rfl⟩ (Nat.le_of_ble_eq_true rfl) dX12_best_171 ⟨Nat.zero_le _, Nat.zero_le _⟩ ?_
          simp only [bd_def, if_neg c9] at Jc9 ⊢
          exact Jc9
        · refine aw_aload_n hC 0 dX12_best_150 rfl rfl ?_
          refine aw_getI hC hSt 31 (ms_lt 64 (by decide) hM) (ms_k 64 12 0 (by decide) hM) rfl (by decide) w_1200 rfl dX12_best_151 ?_
          refine aw_i2l hC dX12_best_154 ?_
          refine aw_goto hC 174 dX12_best_155 (by decide) ?_
          simp only [bd_def, if_pos c9] at Jc9 ⊢
          exact Jc9
    · refine aw_ldc2 (v := -9000000000000000001) hC w_957 dX12_best_25 ?_
      refine aw_lret hC dX12_best_28 (Nat.le_refl _) (Nat.le_refl _) ?_
      exact FP.qJ ((bd_eq eS1).trans ((if_neg c2).trans ((if_pos c3).trans (rfl))))
theorem q_X12_best (S : HSt) (_o : Nat) (a1 : Int32) (a2 : Int32) : shp ((f_X12_best S _o a1 a2).2) = shp S := by
  unfold f_X12_best
  repeat' (first | with_reducible refine shpr1 ?_ | with_reducible rfl | with_reducible refine (q_X12_doTick _ _ _ _ _ _).trans ?_ | with_reducible refine (q_X12_first _ _).trans ?_ | with_reducible refine (q_X12_lookBest _ _ _).trans ?_ | with_reducible refine (qL_X12_best_51 _ _ _ _ _).trans ?_ | with_reducible refine (qL_X12_best_74 _ _ _ _ _ _).trans ?_ | with_reducible refine (shp_sI _ _ _ _).trans ?_ | with_reducible refine (shp_sJ _ _ _ _).trans ?_ | with_reducible refine shi ?_ ?_ | with_reducible refine shb (fun _ _ => ?_) | with_reducible refine shiP (fun q : Int64 × HSt => q.2) ?_ ?_ | with_reducible refine shbP (fun q : Int64 × HSt => q.2) (fun _ _ => ?_) | (subst_vars; with_reducible rfl) | (subst_vars; with_reducible refine (q_X12_doTick _ _ _ _ _ _).trans ?_) | (subst_vars; with_reducible refine (q_X12_first _ _).trans ?_) | (subst_vars; with_reducible refine (q_X12_lookBest _ _ _).trans ?_) | (subst_vars; with_reducible refine (qL_X12_best_51 _ _ _ _ _).trans ?_) | (subst_vars; with_reducible refine (qL_X12_best_74 _ _ _ _ _ _).trans ?_) | (subst_vars; with_reducible refine (shp_sI _ _ _ _).trans ?_) | (subst_vars; with_reducible refine (shp_sJ _ _ _ _).trans ?_) | (subst_vars; with_reducible refine shi ?_ ?_) | (subst_vars; with_reducible refine shb (fun _ _ => ?_)))
noncomputable def f_X12_layPath (S : HSt) (_o : Nat) (a1 : Int32) : HSt := bd ((sI S 64 20 (gI S 72 ((7 : Int32) * a1).toNatClampNeg))) fun S1 => bd ((sI S1 64 21 (gI S1 72 (((7 : Int32) * a1) + (1 : Int32)).toNatClampNeg))) fun S2 => bd ((sI S2 64 22 (gI S2 72 (((7 : Int32) * a1) + (2 : Int32)).toNatClampNeg))) fun S3 => bd ((sI S3 64 23 (gI S3 72 (((7 : Int32) * a1) + (3 : Int32)).toNatClampNeg))) fun S4 => bd ((sI S4 64 24 (gI S4 72 (((7 : Int32) * a1) + (4 : Int32)).toNatClampNeg))) fun S5 => bd ((if (gI S5 72 (((7 : Int32) * a1) + (5 : Int32)).toNatClampNeg) = (1 : Int32) then (1 : Int32) else (0 : Int32))) fun x7 => bd ((sI S5 64 25 x7)) fun S8 => bd ((sI S8 64 26 (gI S8 72 (((7 : Int32) * a1) + (6 : Int32)).toNatClampNeg))) fun S9 => S9
def p_X12_layPath (S : HSt) (_o : Nat) (a1 : Int32) : Prop := (vp_in ((7 : Int32) * a1) 42) ∧ (∀ S1 : HSt, (sI S 64 20 (gI S 72 ((7 : Int32) * a1).toNatClampNeg)) = S1 → vp_in (((7 : Int32) * a1) + (1 : Int32)) 42) ∧ (∀ S1 : HSt, (sI S 64 20 (gI S 72 ((7 : Int32) * a1).toNatClampNeg)) = S1 → ∀ S2 : HSt, (sI S1 64 21 (gI S1 72 (((7 : Int32) * a1) + (1 : Int32)).toNatClampNeg)) = S2 → vp_in (((7 : Int32) * a1) + (2 : Int32)) 42) ∧ (∀ S1 : HSt, (sI S 64 20 (gI S 72 ((7 : Int32) * a1).toNatClampNeg)) = S1 → ∀ S2 : HSt, (sI S1 64 21 (gI S1 72 (((7 : Int32) * a1) + (1 : Int32)).toNatClampNeg)) = S2 → ∀ S3 : HSt, (sI S2 64 22 (gI S2 72 (((7 : Int32) * a1) + (2 : Int32)).toNatClampNeg)) = S3 → vp_in (((7 : Int32) * a1) + (3 : Int32)) 42) ∧ (∀ S1 : HSt, (sI S 64 20 (gI S 72 ((7 : Int32) * a1).toNatClampNeg)) = S1 → ∀ S2 : HSt, (sI S1 64 21 (gI S1 72 (((7 : Int32) * a1) + (1 : Int32)).toNatClampNeg)) = S2 → ∀ S3 : HSt, (sI S2 64 22 (gI S2 72 (((7 : Int32) * a1) + (2 : Int32)).toNatClampNeg)) = S3 → ∀ S4 : HSt, (sI S3 64 23 (gI S3 72 (((7 : Int32) * a1) + (3 : Int32)).toNatClampNeg)) = S4 → vp_in (((7 : Int32) * a1) + (4 : Int32)) 42) ∧ (∀ S1 : HSt, (sI S 64 20 (gI S 72 ((7 : Int32) * a1).toNatClampNeg)) = S1 → ∀ S2 : HSt, (sI S1 64 21 (gI S1 72 (((7 : Int32) * a1) + (1 : Int32)).toNatClampNeg)) = S2 → ∀ S3 : HSt, (sI S2 64 22 (gI S2 72 (((7 : Int32) * a1) + (2 : Int32)).toNatClampNeg)) = S3 → ∀ S4 : HSt, (sI S3 64 23 (gI S3 72 (((7 : Int32) * a1) + (3 : Int32)).toNatClampNeg)) = S4 → ∀ S5 : HSt, (sI S4 64 24 (gI S4 72 (((7 : Int32) * a1) + (4 : Int32)).toNatClampNeg)) = S5 → vp_in (((7 : Int32) * a1) + (5 : Int32)) 42) ∧ (∀ S1 : HSt, (sI S 64 20 (gI S 72 ((7 : Int32) * a1).toNatClampNeg)) = S1 → ∀ S2 : HSt, (sI S1 64 21 (gI S1 72 (((7 : Int32) * a1) + (1 : Int32)).toNatClampNeg)) = S2 → ∀ S3 : HSt, (sI S2 64 22 (gI S2 72 (((7 : Int32) * a1) + (2 : Int32)).toNatClampNeg)) = S3 → ∀ S4 : HSt, (sI S3 64 23 (gI S3 72 (((7 : Int32) * a1) + (3 : Int32)).toNatClampNeg)) = S4 → ∀ S5 : HSt, (sI S4 64 24 (gI S4 72 (((7 : Int32) * a1) + (4 : Int32)).toNatClampNeg)) = S5 → ∀ x7 : Int32, (if (gI S5 72 (((7 : Int32) * a1) + (5 : Int32)).toNatClampNeg) = (1 : Int32) then (1 : Int32) else (0 : Int32)) = x7 → ∀ S8 : HSt, (sI S5 64 25 x7) = S8 → vp_in (((7 : Int32) * a1) + (6 : Int32)) 42)
set_option maxRecDepth 100000 in
theorem t_X12_layPath (G : GG) (l : Launch) {S : HSt} (hM : MS S) (a1 : Int32) (hp : p_X12_layPath S 64 a1) : AM G l yX12_layPath cX12_layPath 2 none (rmD 0 0 0) 0 0 [.ref 64, .int a1] S (FP none (f_X12_layPath S 64 a1)) := by
  obtain ⟨h0, h1, h2, h3, h4, h5, h6⟩ := hp
  refine AM.mk (by decide) (Nat.le_of_ble_eq_true rfl) ?_
  intro p e s m below meth c hC hSt _
  refine aw_aload_n hC 0 dX12_layPath_0 rfl rfl ?_
  refine aw_aload_n hC 0 dX12_layPath_1 rfl rfl ?_
  refine aw_getP (b := 72) hC hSt 33 (ms_lt 64 (by decide) hM) (ms_k 64 12 0 (by decide) hM) rfl (by decide) w_926 rfl (ms_p 33 72 (by decide) hM) dX12_layPath_2 ?_
  refine aw_bipush (v := 7) hC dX12_layPath_5 (by decide) ?_
  refine aw_iload_n hC 1 dX12_layPath_7 rfl rfl ?_
  refine aw_imul hC dX12_layPath_8 ?_
  refine aw_iald hC hSt (ms_lt 72 (by decide) hM) (ms_k 72 14 42 (by decide) hM) (vp_len (n := 42) (ms_l 72 14 42 (by decide) hM) (h0)) dX12_layPath_9 ?_
  refine aw_putI hC hSt 20 (ms_lt 64 (by decide) hM) (ms_k 64 12 0 (by decide) hM) rfl (by decide) w_1032 rfl rfl rfl rfl dX12_layPath_10 ?_
  generalize eS1 : (sI S 64 20 (gI S 72 ((7 : Int32) * a1).toNatClampNeg)) = S1
  have hM : MS S1 := MS.of (by rw [← eS1]; exact shp_sI _ _ _ _) hM
  refine aw_aload_n hC 0 dX12_layPath_13 rfl rfl ?_
  refine aw_aload_n hC 0 dX12_layPath_14 rfl rfl ?_
  refine aw_getP (b := 72) hC hSt 33 (ms_lt 64 (by decide) hM) (ms_k 64 12 0 (by decide) hM) rfl (by decide) w_926 rfl (ms_p 33 72 (by decide) hM) dX12_layPath_15 ?_
  refine aw_bipush (v := 7) hC dX12_layPath_18 (by decide) ?_
  refine aw_iload_n hC 1 dX12_layPath_20 rfl rfl ?_
  refine aw_imul hC dX12_layPath_21 ?_
  refine aw_iconst (v := 1) hC dX12_layPath_22 (by decide) ?_
  refine aw_iadd hC dX12_layPath_23 ?_
  refine aw_iald hC hSt (ms_lt 72 (by decide) hM) (ms_k 72 14 42 (by decide) hM) (vp_len (n := 42) (ms_l 72 14 42 (by decide) hM) (h1 S1 eS1)) dX12_layPath_24 ?_
  refine aw_putI hC hSt 21 (ms_lt 64 (by decide) hM) (ms_k 64 12 0 (by decide) hM) rfl (by decide) w_1033 rfl rfl rfl rfl dX12_layPath_25 ?_
  generalize eS2 : (sI S1 64 21 (gI S1 72 (((7 : Int32) * a1) + (1 : Int32)).toNatClampNeg)) = S2
  have hM : MS S2 := MS.of (by rw [← eS2]; exact shp_sI _ _ _ _) hM
  refine aw_aload_n hC 0 dX12_layPath_28 rfl rfl ?_
  refine aw_aload_n hC 0 dX12_layPath_29 rfl rfl ?_
  refine aw_getP (b := 72) hC hSt 33 (ms_lt 64 (by decide) hM) (ms_k 64 12 0 (by decide) hM) rfl (by decide) w_926 rfl (ms_p 33 72 (by decide) hM) dX12_layPath_30 ?_
  refine aw_bipush (v := 7) hC dX12_layPath_33 (by decide) ?_
  refine aw_iload_n hC 1 dX12_layPath_35 rfl rfl ?_
  refine aw_imul hC dX12_layPath_36 ?_
  refine aw_iconst (v := 2) hC dX12_layPath_37 (by decide) ?_
  refine aw_iadd hC dX12_layPath_38 ?_
  refine aw_iald hC hSt (ms_lt 72 (by decide) hM) (ms_k 72 14 42 (by decide) hM) (vp_len (n := 42) (ms_l 72 14 42 (by decide) hM) (h2 S1 eS1 S2 eS2)) dX12_layPath_39 ?_
  refine aw_putI hC hSt 22 (ms_lt 64 (by decide) hM) (ms_k 64 12 0 (by decide) hM) rfl (by decide) w_1034 rfl rfl rfl rfl dX12_layPath_40 ?_
  generalize eS3 : (sI S2 64 22 (gI S2 72 (((7 : Int32) * a1) + (2 : Int32)).toNatClampNeg)) = S3
  have hM : MS S3 := MS.of (by rw [← eS3]; exact shp_sI _ _ _ _) hM
  refine aw_aload_n hC 0 dX12_layPath_43 rfl rfl ?_
  refine aw_aload_n hC 0 dX12_layPath_44 rfl rfl ?_
  refine aw_getP (b := 72) hC hSt 33 (ms_lt 64 (by decide) hM) (ms_k 64 12 0 (by decide) hM) rfl (by decide) w_926 rfl (ms_p 33 72 (by decide) hM) dX12_layPath_45 ?_
  refine aw_bipush (v := 7) hC dX12_layPath_48 (by decide) ?_
  refine aw_iload_n hC 1 dX12_layPath_50 rfl rfl ?_
  refine aw_imul hC dX12_layPath_51 ?_
  refine aw_iconst (v := 3) hC dX12_layPath_52 (by decide) ?_
  refine aw_iadd hC dX12_layPath_53 ?_
  refine aw_iald hC hSt (ms_lt 72 (by decide) hM) (ms_k 72 14 42 (by decide) hM) (vp_len (n := 42) (ms_l 72 14 42 (by decide) hM) (h3 S1 eS1 S2 eS2 S3 eS3)) dX12_layPath_54 ?_
  refine aw_putI hC hSt 23 (ms_lt 64 (by decide) hM) (ms_k 64 12 0 (by decide) hM) rfl (by decide) w_1035 rfl rfl rfl rfl dX12_layPath_55 ?_
  generalize eS4 : (sI S3 64 23 (gI S3 72 (((7 : Int32) * a1) + (3 : Int32)).toNatClampNeg)) = S4
  have hM : MS S4 := MS.of (by rw [← eS4]; exact shp_sI _ _ _ _) hM
  refine aw_aload_n hC 0 dX12_layPath_58 rfl rfl ?_
  refine aw_aload_n hC 0 dX12_layPath_59 rfl rfl ?_
  refine aw_getP (b := 72) hC hSt 33 (ms_lt 64 (by decide) hM) (ms_k 64 12 0 (by decide) hM) rfl (by decide) w_926 rfl (ms_p 33 72 (by decide) hM) dX12_layPath_60 ?_
  refine aw_bipush (v := 7) hC dX12_layPath_63 (by decide) ?_
  refine aw_iload_n hC 1 dX12_layPath_65 rfl rfl ?_
  refine aw_imul hC dX12_layPath_66 ?_
  refine aw_iconst (v := 4) hC dX12_layPath_67 (by decide) ?_
  refine aw_iadd hC dX12_layPath_68 ?_
  refine aw_iald hC hSt (ms_lt 72 (by decide) hM) (ms_k 72 14 42 (by decide) hM) (vp_len (n := 42) (ms_l 72 14 42 (by decide) hM) (h4 S1 eS1 S2 eS2 S3 eS3 S4 eS4)) dX12_layPath_69 ?_
  refine aw_putI hC hSt 24 (ms_lt 64 (by decide) hM) (ms_k 64 12 0 (by decide) hM) rfl (by decide) w_1036 rfl rfl rfl rfl dX12_layPath_70 ?_
  generalize eS5 : (sI S4 64 24 (gI S4 72 (((7 : Int32) * a1) + (4 : Int32)).toNatClampNeg)) = S5
  have hM : MS S5 := MS.of (by rw [← eS5]; exact shp_sI _ _ _ _) hM
  refine aw_aload_n hC 0 dX12_layPath_73 rfl rfl ?_
  refine aw_aload_n hC 0 dX12_layPath_74 rfl rfl ?_
  refine aw_getP (b := 72) hC hSt 33 (ms_lt 64 (by decide) hM) (ms_k 64 12 0 (by decide) hM) rfl (by decide) w_926 rfl (ms_p 33 72 (by decide) hM) dX12_layPath_75 ?_
  refine aw_bipush (v := 7) hC dX12_layPath_78 (by decide) ?_
  refine aw_iload_n hC 1 dX12_layPath_80 rfl rfl ?_
  refine aw_imul hC dX12_layPath_81 ?_
  refine aw_iconst (v := 5) hC dX12_layPath_82 (by decide) ?_
  refine aw_iadd hC dX12_layPath_83 ?_
  refine aw_iald hC hSt (ms_lt 72 (by decide) hM) (ms_k 72 14 42 (by decide) hM) (vp_len (n := 42) (ms_l 72 14 42 (by decide) hM) (h5 S1 eS1 S2 eS2 S3 eS3 S4 eS4 S5 eS5)) dX12_layPath_84 ?_
  refine aw_iconst (v := 1) hC dX12_layPath_85 (by decide) ?_
  refine aw_cut (S' := S5) (pc' := 94) (lv' := [(0, .ref 64), (1, .int a1)]) (st' := [.int (if (gI S5 72 (((7 : Int32) * a1) + (5 : Int32)).toNatClampNeg) = (1 : Int32) then (1 : Int32) else (0 : Int32)), .ref 64]) ?_ (fun Jc6 => ?_)
  · generalize ex7 : (if (gI S5 72 (((7 : Int32) * a1) + (5 : Int32)).toNatClampNeg) = (1 : Int32) then (1 : Int32) else (0 : Int32)) = x7
    refine aw_putI hC hSt 25 (ms_lt 64 (by decide) hM) (ms_k 64 12 0 (by decide) hM) rfl (by decide) w_1037 rfl rfl (Bz.n (ex7 ▸ (Bz.ite (Or.inr rfl) (Or.inl rfl)))) (Bz.f (ex7 ▸ (Bz.ite (Or.inr rfl) (Or.inl rfl)))) dX12_layPath_94 ?_
    generalize eS8 : (sI S5 64 25 x7) = S8
    have hM : MS S8 := MS.of (by rw [← eS8]; exact shp_sI _ _ _ _) hM
    refine aw_aload_n hC 0 dX12_layPath_97 rfl rfl ?_
    refine aw_aload_n hC 0 dX12_layPath_98 rfl rfl ?_
    refine aw_getP (b := 72) hC hSt 33 (ms_lt 64 (by decide) hM) (ms_k 64 12 0 (by decide) hM) rfl (by decide) w_926 rfl (ms_p 33 72 (by decide) hM) dX12_layPath_99 ?_
    refine aw_bipush (v := 7) hC dX12_layPath_102 (by decide) ?_
    refine aw_iload_n hC 1 dX12_layPath_104 rfl rfl ?_
    refine aw_imul hC dX12_layPath_105 ?_
    refine aw_bipush (v := 6) hC dX12_layPath_106 (by decide) ?_
    refine aw_iadd hC dX12_layPath_108 ?_
    refine aw_iald hC hSt (ms_lt 72 (by decide) hM) (ms_k 72 14 42 (by decide) hM) (vp_len (n := 42) (ms_l 72 14 42 (by decide) hM) (h6 S1 eS1 S2 eS2 S3 eS3 S4 eS4 S5 eS5 x7 ex7 S8 eS8)) dX12_layPath_109 ?_
    refine aw_putI hC hSt 26 (ms_lt 64 (by decide) hM) (ms_k 64 12 0 (by decide) hM) rfl (by decide) w_1038 rfl rfl rfl rfl dX12_layPath_110 ?_
    generalize eS9 : (sI S8 64 26 (gI S8 72 (((7 : Int32) * a1) + (6 : Int32)).toNatClampNeg)) = S9
    have hM : MS S9 := MS.of (by rw [← eS9]; exact shp_sI _ _ _ _) hM
    refine aw_vret hC dX12_layPath_113 (Nat.le_refl _) (Nat.le_refl _) ?_
    exact FP.qV ((bd_eq eS1).trans ((bd_eq eS2).trans ((bd_eq eS3).trans ((bd_eq eS4).trans ((bd_eq eS5).trans ((bd_eq ex7).trans ((bd_eq eS8).trans ((bd_eq eS9).trans (rfl)))))))))
  · refine aw_icmp_ne hC 93 dX12_layPath_86 (by decide) (fun c6 => ?_) (fun c6 => ?_)
    · refine aw_iconst (v := 0) hC dX12_layPath_93 (by decide) ?_
      simp only [bd_def, if_neg c6] at Jc6 ⊢
      exact Jc6
    · refine aw_iconst (v := 1) hC dX12_layPath_89 (by decide) ?_
      refine aw_goto hC 94 dX12_layPath_90 (by decide) ?_
      simp only [bd_def, if_pos c6] at Jc6 ⊢
      exact Jc6
theorem q_X12_layPath (S : HSt) (_o : Nat) (a1 : Int32) : shp (f_X12_layPath S _o a1) = shp S := by
  unfold f_X12_layPath
  repeat' (first | with_reducible rfl | with_reducible refine (shp_sI _ _ _ _).trans ?_ | with_reducible refine (shp_sJ _ _ _ _).trans ?_ | with_reducible refine shi ?_ ?_ | with_reducible refine shb (fun _ _ => ?_) | (subst_vars; with_reducible rfl) | (subst_vars; with_reducible refine (shp_sI _ _ _ _).trans ?_) | (subst_vars; with_reducible refine (shp_sJ _ _ _ _).trans ?_) | (subst_vars; with_reducible refine shi ?_ ?_) | (subst_vars; with_reducible refine shb (fun _ _ => ?_)))
noncomputable def L_X12_keepPath_2 : Nat → HSt → Int32 → Int32 → Int32 × Int32 × HSt
  | 0, S, v1, v2 => (v1, v2, S)
  | n + 1, S, v1, v2 =>
    if (7 : Int32) ≤ v2 then ((pr (v1) (pr (v2) (S)))) else (bd ((sI S 72 (((7 : Int32) * v1) + v2).toNatClampNeg (f_X12_of S 64 v2))) fun S1002 => L_X12_keepPath_2 n S1002 v1 (v2 + (1 : Int32)))
def T_X12_keepPath_2 : Nat → HSt → Int32 → Int32 → Prop
  | 0, _, _, _ => False
  | n + 1, S, v1, v2 => ((¬ (7 : Int32) ≤ v2) → vp_in (((7 : Int32) * v1) + v2) 42) ∧ ((¬ (7 : Int32) ≤ v2) → ∀ S1002 : HSt, (sI S 72 (((7 : Int32) * v1) + v2).toNatClampNeg (f_X12_of S 64 v2)) = S1002 → T_X12_keepPath_2 n S1002 v1 (v2 + (1 : Int32)))
theorem qL_X12_keepPath_2 : ∀ (n : Nat) (S : HSt) (v1 : Int32) (v2 : Int32), shp (L_X12_keepPath_2 n S v1 v2).2.2 = shp S := by
  intro n
  induction n with
  | zero => intros; rfl
  | succ n ih =>
    intro S v1 v2
    unfold L_X12_keepPath_2
    repeat' (first | with_reducible refine shpr2 ?_ | with_reducible rfl | with_reducible refine (ih _ _ _).trans ?_ | with_reducible refine (shp_sI _ _ _ _).trans ?_ | with_reducible refine (shp_sJ _ _ _ _).trans ?_ | with_reducible refine shi ?_ ?_ | with_reducible refine shb (fun _ _ => ?_) | with_reducible refine shiP (fun q : Int32 × Int32 × HSt => q.2.2) ?_ ?_ | with_reducible refine shbP (fun q : Int32 × Int32 × HSt => q.2.2) (fun _ _ => ?_) | (subst_vars; with_reducible rfl) | (subst_vars; with_reducible refine (ih _ _ _).trans ?_) | (subst_vars; with_reducible refine (shp_sI _ _ _ _).trans ?_) | (subst_vars; with_reducible refine (shp_sJ _ _ _ _).trans ?_) | (subst_vars; with_reducible refine shi ?_ ?_) | (subst_vars; with_reducible refine shb (fun _ _ => ?_)))
set_option maxRecDepth 100000 in
theorem l_X12_keepPath_2 {p : Program} {l : Launch} {e : Env} {s : State} {m : MethodId} {args : Array Value} {below : List Frame} {meth : Method} {c : Code} {G : GG} {Q : State → Prop} (hC : ACx p s m args meth c cX12_keepPath RX12 3 none) (hSt : St G s)  : ∀ (n : Nat) (S : HSt) (v1 : Int32) (v2 : Int32), MS S → T_X12_keepPath_2 n S v1 v2 → AW p l e (rmD 1 0 0) s m args below meth c G 3 Q (L_X12_keepPath_2 n S v1 v2).2.2 0 0 30 [(0, .ref 64), (1, .int (L_X12_keepPath_2 n S v1 v2).1), (2, .int (L_X12_keepPath_2 n S v1 v2).2.1)] [] → AW p l e (rmD 1 0 0) s m args below meth c G 3 Q S 0 0 2 [(0, .ref 64), (1, .int v1), (2, .int v2)] [] := by
  intro n
  induction n with
  | zero => intro S v1 v2 _ hT; exact hT.elim
  | succ n ih =>
    intro S v1 v2 hM hT hk
    unfold T_X12_keepPath_2 at hT
    obtain ⟨h0, h1⟩ := hT
    refine aw_iload_n hC 2 dX12_keepPath_2 rfl rfl ?_
    refine aw_bipush (v := 7) hC dX12_keepPath_3 (by decide) ?_
    refine aw_icmp_ge hC 30 dX12_keepPath_5 (by decide) (fun c1001 => ?_) (fun c1001 => ?_)
    · refine aw_sub [0, 1, 2] rfl ?_
      have E : L_X12_keepPath_2 (n + 1) S v1 v2 = _ := (if_pos c1001).trans (rfl)
      rw [E] at hk
      exact hk
    · refine aw_aload_n hC 0 dX12_keepPath_8 rfl rfl ?_
      refine aw_getP (b := 72) hC hSt 33 (ms_lt 64 (by decide) hM) (ms_k 64 12 0 (by decide) hM) rfl (by decide) w_926 rfl (ms_p 33 72 (by decide) hM) dX12_keepPath_9 ?_
      refine aw_bipush (v := 7) hC dX12_keepPath_12 (by decide) ?_
      refine aw_iload_n hC 1 dX12_keepPath_14 rfl rfl ?_
      refine aw_imul hC dX12_keepPath_15 ?_
      refine aw_iload_n hC 2 dX12_keepPath_16 rfl rfl ?_
      refine aw_iadd hC dX12_keepPath_17 ?_
      refine aw_aload_n hC 0 dX12_keepPath_18 rfl rfl ?_
      refine aw_iload_n hC 2 dX12_keepPath_19 rfl rfl ?_
      refine aw_cV1r hC hSt (t_X12_of G l hM _) w_1039 w_1041 w_1042 w_1043 w_953 rfl rfl (by decide +kernel) ⟨Nat.le_of_ble_eq_true rfl, Nat.le_of_ble_eq_true rfl⟩ (ms_lt 64 (by decide) hM) (ms_k 64 12 0 (by decide) hM) rfl (Nat.le_of_ble_eq_true rfl) dX12_keepPath_20 ⟨Nat.zero_le _, Nat.zero_le _⟩ ?_
      refine aw_iast hC hSt (ms_lt 72 (by decide) hM) (ms_k 72 14 42 (by decide) hM) (vp_len (n := 42) (ms_l 72 14 42 (by decide) hM) (h0 c1001)) dX12_keepPath_23 ?_
      generalize eS1002 : (sI S 72 (((7 : Int32) * v1) + v2).toNatClampNeg (f_X12_of S 64 v2)) = S1002
      have hM : MS S1002 := MS.of (by rw [← eS1002]; exact shp_sI _ _ _ _) hM
      refine aw_iinc (v := (v2 + (1 : Int32))) hC 2 [(2, .int _), (0, .ref 64), (1, .int _)] dX12_keepPath_24 rfl rfl (by decide) rfl ?_
      refine aw_goto hC 2 dX12_keepPath_27 (by decide) ?_
      refine aw_sub [1, 2, 0] rfl ?_
      have hTn := (h1 c1001 S1002 eS1002)
      have hMn : MS S1002 := hM
      have E : L_X12_keepPath_2 (n + 1) S v1 v2 = _ := (if_neg c1001).trans ((bd_eq eS1002).trans (rfl))
      rw [E] at hk
      exact ih _ _ _ hMn hTn hk
noncomputable def f_X12_keepPath (S : HSt) (_o : Nat) (a1 : Int32) : HSt := bd (L_X12_keepPath_2 1000 S a1 (0 : Int32)) fun r1 => r1.2.2
def p_X12_keepPath (S : HSt) (_o : Nat) (a1 : Int32) : Prop := (T_X12_keepPath_2 1000 S a1 (0 : Int32))
set_option maxRecDepth 100000 in
theorem t_X12_keepPath (G : GG) (l : Launch) {S : HSt} (hM : MS S) (a1 : Int32) (hp : p_X12_keepPath S 64 a1) : AM G l yX12_keepPath cX12_keepPath 3 none (rmD 1 0 0) 0 0 [.ref 64, .int a1] S (FP none (f_X12_keepPath S 64 a1)) := by
  have h0 := hp
  unfold p_X12_keepPath at h0
  refine AM.mk (by decide) (Nat.le_of_ble_eq_true rfl) ?_
  intro p e s m below meth c hC hSt _
  refine aw_iconst (v := 0) hC dX12_keepPath_0 (by decide) ?_
  refine aw_istore_n hC [(2, .int _), (0, .ref 64), (1, .int _)] dX12_keepPath_1 rfl (by decide) rfl ?_
  refine aw_sub [1, 2, 0] rfl ?_
  refine l_X12_keepPath_2 hC hSt 1000 _ _ _ hM (h0) ?_
  generalize er1 : L_X12_keepPath_2 1000 S a1 (0 : Int32) = r1
  have hM : MS r1.2.2 := MS.of (by rw [← er1]; exact qL_X12_keepPath_2 _ _ _ _) hM
  refine aw_vret hC dX12_keepPath_30 (Nat.le_refl _) (Nat.le_refl _) ?_
  exact FP.qV ((bd_eq er1).trans (rfl))
theorem q_X12_keepPath (S : HSt) (_o : Nat) (a1 : Int32) : shp (f_X12_keepPath S _o a1) = shp S := by
  unfold f_X12_keepPath
  repeat' (first | with_reducible rfl | with_reducible refine (qL_X12_keepPath_2 _ _ _ _).trans ?_ | with_reducible refine (shp_sI _ _ _ _).trans ?_ | with_reducible refine (shp_sJ _ _ _ _).trans ?_ | with_reducible refine shi ?_ ?_ | with_reducible refine shb (fun _ _ => ?_) | (subst_vars; with_reducible rfl) | (subst_vars; with_reducible refine (qL_X12_keepPath_2 _ _ _ _).trans ?_) | (subst_vars; with_reducible refine (shp_sI _ _ _ _).trans ?_) | (subst_vars; with_reducible refine (shp_sJ _ _ _ _).trans ?_) | (subst_vars; with_reducible refine shi ?_ ?_) | (subst_vars; with_reducible refine shb (fun _ _ => ?_)))
noncomputable def F_X12_mayMove (S : HSt) (_o : Nat) (a1 : Int32) (a2 : Int32) : Int32 × HSt := bd ((if (6 : Int32) ≤ a1 then (if ((a2 >>> (((a1 - (6 : Int32)) / (2 : Int32)) &&& 31)) &&& (1 : Int32)) = 0 then (1 : Int32) else (0 : Int32)) else (if (f_X12_isStill S 64) = 0 then (1 : Int32) else (0 : Int32)))) fun x4 => pr (x4) (S)
noncomputable def f_X12_mayMove (S : HSt) (_o : Nat) (a1 : Int32) (a2 : Int32) : Int32 := (F_X12_mayMove S _o a1 a2).1
set_option maxRecDepth 100000 in
theorem t_X12_mayMove (G : GG) (l : Launch) {S : HSt} (hM : MS S) (a1 : Int32) (a2 : Int32)  : AM G l yX12_mayMove cX12_mayMove 3 (some .boolean) (rmD 1 0 0) 0 0 [.ref 64, .int a1, .int a2] S (FP (some (.int (f_X12_mayMove S 64 a1 a2))) (S)) := by
  refine AM.mk (by decide) (Nat.le_of_ble_eq_true rfl) ?_
  intro p e s m below meth c hC hSt _
  refine aw_iload_n hC 1 dX12_mayMove_0 rfl rfl ?_
  refine aw_bipush (v := 6) hC dX12_mayMove_1 (by decide) ?_
  refine aw_cut (S' := S) (pc' := 39) (lv' := [(0, .ref 64), (1, .int a1), (2, .int a2)]) (st' := [.int (if (6 : Int32) ≤ a1 then (if ((a2 >>> (((a1 - (6 : Int32)) / (2 : Int32)) &&& 31)) &&& (1 : Int32)) = 0 then (1 : Int32) else (0 : Int32)) else (if (f_X12_isStill S 64) = 0 then (1 : Int32) else (0 : Int32)))]) ?_ (fun Jc1 => ?_)
  · generalize ex4 : (if (6 : Int32) ≤ a1 then (if ((a2 >>> (((a1 - (6 : Int32)) / (2 : Int32)) &&& 31)) &&& (1 : Int32)) = 0 then (1 : Int32) else (0 : Int32)) else (if (f_X12_isStill S 64) = 0 then (1 : Int32) else (0 : Int32))) = x4
    refine aw_zret hC dX12_mayMove_39 (Nat.le_refl _) (Nat.le_refl _) (Bz.n (ex4 ▸ (Bz.ite (Bz.ite (Or.inr rfl) (Or.inl rfl)) (Bz.ite (Or.inr rfl) (Or.inl rfl))))) ?_
    exact FP.pI ((bd_eq ex4).trans (rfl))
  · refine aw_icmp_ge hC 21 dX12_mayMove_3 (by decide) (fun c1 => ?_) (fun c1 => ?_)
    · refine aw_iload_n hC 2 dX12_mayMove_21 rfl rfl ?_
      refine aw_iload_n hC 1 dX12_mayMove_22 rfl rfl ?_
      refine aw_bipush (v := 6) hC dX12_mayMove_23 (by decide) ?_
      refine aw_isub hC dX12_mayMove_25 ?_
      refine aw_iconst (v := 2) hC dX12_mayMove_26 (by decide) ?_
      refine aw_idiv hC dX12_mayMove_27 (by decide) ?_
      refine aw_ishr hC dX12_mayMove_28 ?_
      refine aw_iconst (v := 1) hC dX12_mayMove_29 (by decide) ?_
      refine aw_iand hC dX12_mayMove_30 ?_
      refine aw_if_ne hC 38 dX12_mayMove_31 (by decide) (fun c2 => ?_) (fun c2 => ?_)
      · refine aw_iconst (v := 0) hC dX12_mayMove_38 (by decide) ?_
        simp only [bd_def, if_pos c1, if_neg c2] at Jc1 ⊢
        exact Jc1
      · refine aw_iconst (v := 1) hC dX12_mayMove_34 (by decide) ?_
        refine aw_goto hC 39 dX12_mayMove_35 (by decide) ?_
        simp only [bd_def, if_pos c1, if_pos c2] at Jc1 ⊢
        exact Jc1
    · refine aw_aload_n hC 0 dX12_mayMove_6 rfl rfl ?_
      refine aw_cV0r hC hSt (t_X12_isStill G l hM ) w_1099 w_1118 w_1119 w_1120 w_953 rfl rfl (by decide +kernel) ⟨Nat.le_of_ble_eq_true rfl, Nat.le_of_ble_eq_true rfl⟩ (ms_lt 64 (by decide) hM) (ms_k 64 12 0 (by decide) hM) rfl (Nat.le_of_ble_eq_true rfl) dX12_mayMove_7 ⟨Nat.zero_le _, Nat.zero_le _⟩ ?_
      refine aw_if_ne hC 17 dX12_mayMove_10 (by decide) (fun c3 => ?_) (fun c3 => ?_)
      · refine aw_iconst (v := 0) hC dX12_mayMove_17 (by decide) ?_
        refine aw_goto hC 39 dX12_mayMove_18 (by decide) ?_
        simp only [bd_def, if_neg c1, if_neg c3] at Jc1 ⊢
        exact Jc1
      · refine aw_iconst (v := 1) hC dX12_mayMove_13 (by decide) ?_
        refine aw_goto hC 39 dX12_mayMove_14 (by decide) ?_
        simp only [bd_def, if_neg c1, if_pos c3] at Jc1 ⊢
        exact Jc1
theorem b_X12_mayMove (S : HSt) (_o : Nat) (a1 : Int32) (a2 : Int32) : Bz (f_X12_mayMove S _o a1 a2) := by
  unfold f_X12_mayMove F_X12_mayMove
  (try dsimp only [bd])
  (repeat' split) <;> first | exact Or.inl rfl | exact Or.inr rfl | exact b_X12_isStill _ _
noncomputable def f_X12_doMove (S : HSt) (_o : Nat) (a1 : Int32) (a2 : Int32) : HSt := bd ((sI S 74 (a2 + (1 : Int32)).toNatClampNeg (gI S 74 a2.toNatClampNeg))) fun S1 => bd ((sI S1 75 (a2 + (1 : Int32)).toNatClampNeg (gI S1 75 a2.toNatClampNeg))) fun S2 => bd ((if (6 : Int32) ≤ a1 then (bd (((a1 - (6 : Int32)) / (2 : Int32))) fun x4 => bd ((sI S2 74 (a2 + (1 : Int32)).toNatClampNeg ((gI S2 74 (a2 + (1 : Int32)).toNatClampNeg) ||| ((1 : Int32) <<< (x4 &&& 31))))) fun S5 => bd ((if (a1 - a1 / (2 : Int32) * (2 : Int32)) = (1 : Int32) then (1 : Int32) else (0 : Int32))) fun x7 => bd (f_X12_counts S5 64 x7 x4) fun r8 => bd ((sI r8.2 75 (a2 + (1 : Int32)).toNatClampNeg ((gI S5 75 (a2 + (1 : Int32)).toNatClampNeg) + r8.1))) fun S9 => bd (f_X12_shut S9 64) fun r10 => r10) else (bd ((if (a1 - a1 / (2 : Int32) * (2 : Int32)) = 0 then (4 : Int32) else (8 : Int32))) fun x12 => bd (f_X12_doTick S2 64 (0 : Int32) ((a1 / (2 : Int32)) + (1 : Int32)) x12 (-1000000 : Int32)) fun r13 => r13))) fun S14 => bd (f_X12_keepPath S14 64 (a2 + (1 : Int32))) fun r15 => r15
def p_X12_doMove (S : HSt) (_o : Nat) (a1 : Int32) (a2 : Int32) : Prop := (vp_in a2 6) ∧ (vp_in (a2 + (1 : Int32)) 6) ∧ (∀ S1 : HSt, (sI S 74 (a2 + (1 : Int32)).toNatClampNeg (gI S 74 a2.toNatClampNeg)) = S1 → vp_in a2 6) ∧ (∀ S1 : HSt, (sI S 74 (a2 + (1 : Int32)).toNatClampNeg (gI S 74 a2.toNatClampNeg)) = S1 → vp_in (a2 + (1 : Int32)) 6) ∧ (∀ S1 : HSt, (sI S 74 (a2 + (1 : Int32)).toNatClampNeg (gI S 74 a2.toNatClampNeg)) = S1 → ∀ S2 : HSt, (sI S1 75 (a2 + (1 : Int32)).toNatClampNeg (gI S1 75 a2.toNatClampNeg)) = S2 → ((6 : Int32) ≤ a1) → ∀ x4 : Int32, ((a1 - (6 : Int32)) / (2 : Int32)) = x4 → vp_in (a2 + (1 : Int32)) 6) ∧ (∀ S1 : HSt, (sI S 74 (a2 + (1 : Int32)).toNatClampNeg (gI S 74 a2.toNatClampNeg)) = S1 → ∀ S2 : HSt, (sI S1 75 (a2 + (1 : Int32)).toNatClampNeg (gI S1 75 a2.toNatClampNeg)) = S2 → ((6 : Int32) ≤ a1) → ∀ x4 : Int32, ((a1 - (6 : Int32)) / (2 : Int32)) = x4 → vp_in (a2 + (1 : Int32)) 6) ∧ (∀ S1 : HSt, (sI S 74 (a2 + (1 : Int32)).toNatClampNeg (gI S 74 a2.toNatClampNeg)) = S1 → ∀ S2 : HSt, (sI S1 75 (a2 + (1 : Int32)).toNatClampNeg (gI S1 75 a2.toNatClampNeg)) = S2 → ((6 : Int32) ≤ a1) → ∀ x4 : Int32, ((a1 - (6 : Int32)) / (2 : Int32)) = x4 → ∀ S5 : HSt, (sI S2 74 (a2 + (1 : Int32)).toNatClampNeg ((gI S2 74 (a2 + (1 : Int32)).toNatClampNeg) ||| ((1 : Int32) <<< (x4 &&& 31)))) = S5 → vp_in (a2 + (1 : Int32)) 6) ∧ (∀ S1 : HSt, (sI S 74 (a2 + (1 : Int32)).toNatClampNeg (gI S 74 a2.toNatClampNeg)) = S1 → ∀ S2 : HSt, (sI S1 75 (a2 + (1 : Int32)).toNatClampNeg (gI S1 75 a2.toNatClampNeg)) = S2 → ((6 : Int32) ≤ a1) → ∀ x4 : Int32, ((a1 - (6 : Int32)) / (2 : Int32)) = x4 → ∀ S5 : HSt, (sI S2 74 (a2 + (1 : Int32)).toNatClampNeg ((gI S2 74 (a2 + (1 : Int32)).toNatClampNeg) ||| ((1 : Int32) <<< (x4 &&& 31)))) = S5 → ∀ x7 : Int32, (if (a1 - a1 / (2 : Int32) * (2 : Int32)) = (1 : Int32) then (1 : Int32) else (0 : Int32)) = x7 → p_X12_counts S5 64 x7 x4) ∧ (∀ S1 : HSt, (sI S 74 (a2 + (1 : Int32)).toNatClampNeg (gI S 74 a2.toNatClampNeg)) = S1 → ∀ S2 : HSt, (sI S1 75 (a2 + (1 : Int32)).toNatClampNeg (gI S1 75 a2.toNatClampNeg)) = S2 → ((6 : Int32) ≤ a1) → ∀ x4 : Int32, ((a1 - (6 : Int32)) / (2 : Int32)) = x4 → ∀ S5 : HSt, (sI S2 74 (a2 + (1 : Int32)).toNatClampNeg ((gI S2 74 (a2 + (1 : Int32)).toNatClampNeg) ||| ((1 : Int32) <<< (x4 &&& 31)))) = S5 → ∀ x7 : Int32, (if (a1 - a1 / (2 : Int32) * (2 : Int32)) = (1 : Int32) then (1 : Int32) else (0 : Int32)) = x7 → ∀ r8, f_X12_counts S5 64 x7 x4 = r8 → vp_in (a2 + (1 : Int32)) 6) ∧ (∀ S1 : HSt, (sI S 74 (a2 + (1 : Int32)).toNatClampNeg (gI S 74 a2.toNatClampNeg)) = S1 → ∀ S2 : HSt, (sI S1 75 (a2 + (1 : Int32)).toNatClampNeg (gI S1 75 a2.toNatClampNeg)) = S2 → (¬ (6 : Int32) ≤ a1) → ∀ x12 : Int32, (if (a1 - a1 / (2 : Int32) * (2 : Int32)) = 0 then (4 : Int32) else (8 : Int32)) = x12 → p_X12_doTick S2 64 (0 : Int32) ((a1 / (2 : Int32)) + (1 : Int32)) x12 (-1000000 : Int32)) ∧ (∀ S1 : HSt, (sI S 74 (a2 + (1 : Int32)).toNatClampNeg (gI S 74 a2.toNatClampNeg)) = S1 → ∀ S2 : HSt, (sI S1 75 (a2 + (1 : Int32)).toNatClampNeg (gI S1 75 a2.toNatClampNeg)) = S2 → ∀ S14 : HSt, (if (6 : Int32) ≤ a1 then (bd (((a1 - (6 : Int32)) / (2 : Int32))) fun x4 => bd ((sI S2 74 (a2 + (1 : Int32)).toNatClampNeg ((gI S2 74 (a2 + (1 : Int32)).toNatClampNeg) ||| ((1 : Int32) <<< (x4 &&& 31))))) fun S5 => bd ((if (a1 - a1 / (2 : Int32) * (2 : Int32)) = (1 : Int32) then (1 : Int32) else (0 : Int32))) fun x7 => bd (f_X12_counts S5 64 x7 x4) fun r8 => bd ((sI r8.2 75 (a2 + (1 : Int32)).toNatClampNeg ((gI S5 75 (a2 + (1 : Int32)).toNatClampNeg) + r8.1))) fun S9 => bd (f_X12_shut S9 64) fun r10 => r10) else (bd ((if (a1 - a1 / (2 : Int32) * (2 : Int32)) = 0 then (4 : Int32) else (8 : Int32))) fun x12 => bd (f_X12_doTick S2 64 (0 : Int32) ((a1 / (2 : Int32)) + (1 : Int32)) x12 (-1000000 : Int32)) fun r13 => r13)) = S14 → p_X12_keepPath S14 64 (a2 + (1 : Int32)))
set_option maxRecDepth 100000 in
theorem t_X12_doMove (G : GG) (l : Launch) {S : HSt} (hM : MS S) (a1 : Int32) (a2 : Int32) (hp : p_X12_doMove S 64 a1 a2) : AM G l yX12_doMove cX12_doMove 4 none (rmD 5 0 0) 0 0 [.ref 64, .int a1, .int a2] S (FP none (f_X12_doMove S 64 a1 a2)) := by
  obtain ⟨h0, h1, h2, h3, h4, h5, h6, h7, h8, h9, h10⟩ := hp
  refine AM.mk (by decide) (Nat.le_of_ble_eq_true rfl) ?_
  intro p e s m below meth c hC hSt _
  refine aw_aload_n hC 0 dX12_doMove_0 rfl rfl ?_
  refine aw_getP (b := 74) hC hSt 35 (ms_lt 64 (by decide) hM) (ms_k 64 12 0 (by decide) hM) rfl (by decide) w_928 rfl (ms_p 35 74 (by decide) hM) dX12_doMove_1 ?_
  refine aw_iload_n hC 2 dX12_doMove_4 rfl rfl ?_
  refine aw_iconst (v := 1) hC dX12_doMove_5 (by decide) ?_
  refine aw_iadd hC dX12_doMove_6 ?_
  refine aw_aload_n hC 0 dX12_doMove_7 rfl rfl ?_
  refine aw_getP (b := 74) hC hSt 35 (ms_lt 64 (by decide) hM) (ms_k 64 12 0 (by decide) hM) rfl (by decide) w_928 rfl (ms_p 35 74 (by decide) hM) dX12_doMove_8 ?_
  refine aw_iload_n hC 2 dX12_doMove_11 rfl rfl ?_
  refine aw_iald hC hSt (ms_lt 74 (by decide) hM) (ms_k 74 14 6 (by decide) hM) (vp_len (n := 6) (ms_l 74 14 6 (by decide) hM) (h0)) dX12_doMove_12 ?_
  refine aw_iast hC hSt (ms_lt 74 (by decide) hM) (ms_k 74 14 6 (by decide) hM) (vp_len (n := 6) (ms_l 74 14 6 (by decide) hM) (h1)) dX12_doMove_13 ?_
  generalize eS1 : (sI S 74 (a2 + (1 : Int32)).toNatClampNeg (gI S 74 a2.toNatClampNeg)) = S1
  have hM : MS S1 := MS.of (by rw [← eS1]; exact shp_sI _ _ _ _) hM
  refine aw_aload_n hC 0 dX12_doMove_14 rfl rfl ?_
  refine aw_getP (b := 75) hC hSt 36 (ms_lt 64 (by decide) hM) (ms_k 64 12 0 (by decide) hM) rfl (by decide) w_929 rfl (ms_p 36 75 (by decide) hM) dX12_doMove_15 ?_
  refine aw_iload_n hC 2 dX12_doMove_18 rfl rfl ?_
  refine aw_iconst (v := 1) hC dX12_doMove_19 (by decide) ?_
  refine aw_iadd hC dX12_doMove_20 ?_
  refine aw_aload_n hC 0 dX12_doMove_21 rfl rfl ?_
  refine aw_getP (b := 75) hC hSt 36 (ms_lt 64 (by decide) hM) (ms_k 64 12 0 (by decide) hM) rfl (by decide) w_929 rfl (ms_p 36 75 (by decide) hM) dX12_doMove_22 ?_
  refine aw_iload_n hC 2 dX12_doMove_25 rfl rfl ?_
  refine aw_iald hC hSt (ms_lt 75 (by decide) hM) (ms_k 75 14 6 (by decide) hM) (vp_len (n := 6) (ms_l 75 14 6 (by decide) hM) (h2 S1 eS1)) dX12_doMove_26 ?_
  refine aw_iast hC hSt (ms_lt 75 (by decide) hM) (ms_k 75 14 6 (by decide) hM) (vp_len (n := 6) (ms_l 75 14 6 (by decide) hM) (h3 S1 eS1)) dX12_doMove_27 ?_
  generalize eS2 : (sI S1 75 (a2 + (1 : Int32)).toNatClampNeg (gI S1 75 a2.toNatClampNeg)) = S2
  have hM : MS S2 := MS.of (by rw [← eS2]; exact shp_sI _ _ _ _) hM
  refine aw_iload_n hC 1 dX12_doMove_28 rfl rfl ?_
  refine aw_bipush (v := 6) hC dX12_doMove_29 (by decide) ?_
  refine aw_cut (S' := (if (6 : Int32) ≤ a1 then (bd (((a1 - (6 : Int32)) / (2 : Int32))) fun x4 => bd ((sI S2 74 (a2 + (1 : Int32)).toNatClampNeg ((gI S2 74 (a2 + (1 : Int32)).toNatClampNeg) ||| ((1 : Int32) <<< (x4 &&& 31))))) fun S5 => bd ((if (a1 - a1 / (2 : Int32) * (2 : Int32)) = (1 : Int32) then (1 : Int32) else (0 : Int32))) fun x7 => bd (f_X12_counts S5 64 x7 x4) fun r8 => bd ((sI r8.2 75 (a2 + (1 : Int32)).toNatClampNeg ((gI S5 75 (a2 + (1 : Int32)).toNatClampNeg) + r8.1))) fun S9 => bd (f_X12_shut S9 64) fun r10 => r10) else (bd ((if (a1 - a1 / (2 : Int32) * (2 : Int32)) = 0 then (4 : Int32) else (8 : Int32))) fun x12 => bd (f_X12_doTick S2 64 (0 : Int32) ((a1 / (2 : Int32)) + (1 : Int32)) x12 (-1000000 : Int32)) fun r13 => r13))) (pc' := 114) (lv' := [(0, .ref 64), (1, .int a1), (2, .int a2)]) (st' := []) ?_ (fun Jc3 => ?_)
  · generalize eS14 : (if (6 : Int32) ≤ a1 then (bd (((a1 - (6 : Int32)) / (2 : Int32))) fun x4 => bd ((sI S2 74 (a2 + (1 : Int32)).toNatClampNeg ((gI S2 74 (a2 + (1 : Int32)).toNatClampNeg) ||| ((1 : Int32) <<< (x4 &&& 31))))) fun S5 => bd ((if (a1 - a1 / (2 : Int32) * (2 : Int32)) = (1 : Int32) then (1 : Int32) else (0 : Int32))) fun x7 => bd (f_X12_counts S5 64 x7 x4) fun r8 => bd ((sI r8.2 75 (a2 + (1 : Int32)).toNatClampNeg ((gI S5 75 (a2 + (1 : Int32)).toNatClampNeg) + r8.1))) fun S9 => bd (f_X12_shut S9 64) fun r10 => r10) else (bd ((if (a1 - a1 / (2 : Int32) * (2 : Int32)) = 0 then (4 : Int32) else (8 : Int32))) fun x12 => bd (f_X12_doTick S2 64 (0 : Int32) ((a1 / (2 : Int32)) + (1 : Int32)) x12 (-1000000 : Int32)) fun r13 => r13)) = S14
    have hM : MS S14 := MS.of (by rw [← eS14]; repeat' (first | with_reducible rfl | with_reducible refine (q_X12_counts _ _ _ _).trans ?_ | with_reducible refine (q_X12_doTick _ _ _ _ _ _).trans ?_ | with_reducible refine (q_X12_keepPath _ _ _).trans ?_ | with_reducible refine (q_X12_shut _ _).trans ?_ | with_reducible refine (shp_sI _ _ _ _).trans ?_ | with_reducible refine (shp_sJ _ _ _ _).trans ?_ | with_reducible refine shi ?_ ?_ | with_reducible refine shb (fun _ _ => ?_) | (subst_vars; with_reducible rfl) | (subst_vars; with_reducible refine (q_X12_counts _ _ _ _).trans ?_) | (subst_vars; with_reducible refine (q_X12_doTick _ _ _ _ _ _).trans ?_) | (subst_vars; with_reducible refine (q_X12_keepPath _ _ _).trans ?_) | (subst_vars; with_reducible refine (q_X12_shut _ _).trans ?_) | (subst_vars; with_reducible refine (shp_sI _ _ _ _).trans ?_) | (subst_vars; with_reducible refine (shp_sJ _ _ _ _).trans ?_) | (subst_vars; with_reducible refine shi ?_ ?_) | (subst_vars; with_reducible refine shb (fun _ _ => ?_)))) hM
    refine aw_aload_n hC 0 dX12_doMove_114 rfl rfl ?_
    refine aw_iload_n hC 2 dX12_doMove_115 rfl rfl ?_
    refine aw_iconst (v := 1) hC dX12_doMove_116 (by decide) ?_
    refine aw_iadd hC dX12_doMove_117 ?_
    refine aw_cV1v hC hSt (t_X12_keepPath G l hM _ (h10 S1 eS1 S2 eS2 S14 eS14)) w_1207 w_1209 w_1210 w_1211 w_953 rfl rfl (by decide +kernel) ⟨Nat.le_of_ble_eq_true rfl, Nat.le_of_ble_eq_true rfl⟩ (ms_lt 64 (by decide) hM) (ms_k 64 12 0 (by decide) hM) rfl (Nat.le_of_ble_eq_true rfl) dX12_doMove_118 ⟨Nat.zero_le _, Nat.zero_le _⟩ ?_
    generalize er15 : f_X12_keepPath S14 64 (a2 + (1 : Int32)) = r15
    have hM : MS r15 := MS.of (by rw [← er15]; exact q_X12_keepPath _ _ _) hM
    refine aw_vret hC dX12_doMove_121 (Nat.le_refl _) (Nat.le_refl _) ?_
    exact FP.qV ((bd_eq eS1).trans ((bd_eq eS2).trans ((bd_eq eS14).trans ((bd_eq er15).trans (rfl)))))
  · refine aw_icmp_ge hC 61 dX12_doMove_31 (by decide) (fun c3 => ?_) (fun c3 => ?_)
    · refine aw_iload_n hC 1 dX12_doMove_61 rfl rfl ?_
      refine aw_bipush (v := 6) hC dX12_doMove_62 (by decide) ?_
      refine aw_isub hC dX12_doMove_64 ?_
      refine aw_iconst (v := 2) hC dX12_doMove_65 (by decide) ?_
      refine aw_idiv hC dX12_doMove_66 (by decide) ?_
      refine aw_istore_n hC [(3, .int _), (0, .ref 64), (1, .int _), (2, .int _)] dX12_doMove_67 rfl (by decide) rfl ?_
      generalize ex4 : ((a1 - (6 : Int32)) / (2 : Int32)) = x4
      refine aw_aload_n hC 1 dX12_doMove_68 rfl rfl ?_
      refine aw_getP (b := 74) hC hSt 35 (ms_lt 64 (by decide) hM) (ms_k 64 12 0 (by decide) hM) rfl (by decide) w_928 rfl (ms_p 35 74 (by decide) hM) dX12_doMove_69 ?_
      refine aw_iload_n hC 3 dX12_doMove_72 rfl rfl ?_
      refine aw_iconst (v := 1) hC dX12_doMove_73 (by decide) ?_
      refine aw_iadd hC dX12_doMove_74 ?_
      refine aw_dup2_11 hC dX12_doMove_75 rfl rfl ?_
      refine aw_iald hC hSt (ms_lt 74 (by decide) hM) (ms_k 74 14 6 (by decide) hM) (vp_len (n := 6) (ms_l 74 14 6 (by decide) hM) (h4 S1 eS1 S2 eS2 c3 x4 ex4)) dX12_doMove_76 ?_
      refine aw_iconst (v := 1) hC dX12_doMove_77 (by decide) ?_
      refine aw_iload_n hC 0 dX12_doMove_78 rfl rfl ?_
      refine aw_ishl hC dX12_doMove_79 ?_
      refine aw_ior hC dX12_doMove_80 ?_
      refine aw_iast hC hSt (ms_lt 74 (by decide) hM) (ms_k 74 14 6 (by decide) hM) (vp_len (n := 6) (ms_l 74 14 6 (by decide) hM) (h5 S1 eS1 S2 eS2 c3 x4 ex4)) dX12_doMove_81 ?_
      generalize eS5 : (sI S2 74 (a2 + (1 : Int32)).toNatClampNeg ((gI S2 74 (a2 + (1 : Int32)).toNatClampNeg) ||| ((1 : Int32) <<< (x4 &&& 31)))) = S5
      have hM : MS S5 := MS.of (by rw [← eS5]; exact shp_sI _ _ _ _) hM
      refine aw_aload_n hC 1 dX12_doMove_82 rfl rfl ?_
      refine aw_getP (b := 75) hC hSt 36 (ms_lt 64 (by decide) hM) (ms_k 64 12 0 (by decide) hM) rfl (by decide) w_929 rfl (ms_p 36 75 (by decide) hM) dX12_doMove_83 ?_
      refine aw_iload_n hC 3 dX12_doMove_86 rfl rfl ?_
      refine aw_iconst (v := 1) hC dX12_doMove_87 (by decide) ?_
      refine aw_iadd hC dX12_doMove_88 ?_
      refine aw_dup2_11 hC dX12_doMove_89 rfl rfl ?_
      refine aw_iald hC hSt (ms_lt 75 (by decide) hM) (ms_k 75 14 6 (by decide) hM) (vp_len (n := 6) (ms_l 75 14 6 (by decide) hM) (h6 S1 eS1 S2 eS2 c3 x4 ex4 S5 eS5)) dX12_doMove_90 ?_
      refine aw_aload_n hC 1 dX12_doMove_91 rfl rfl ?_
      refine aw_iload_n hC 2 dX12_doMove_92 rfl rfl ?_
      refine aw_iconst (v := 2) hC dX12_doMove_93 (by decide) ?_
      refine aw_irem hC dX12_doMove_94 (by decide) ?_
      refine aw_iconst (v := 1) hC dX12_doMove_95 (by decide) ?_
      refine aw_cut (S' := S5) (pc' := 104) (lv' := [(3, .int x4), (0, .ref 64), (1, .int a1), (2, .int a2)]) (st' := [.int (if (a1 - a1 / (2 : Int32) * (2 : Int32)) = (1 : Int32) then (1 : Int32) else (0 : Int32)), .ref 64, .int (gI S5 75 (a2 + (1 : Int32)).toNatClampNeg), .int (a2 + (1 : Int32)), .ref 75]) ?_ (fun Jc6 => ?_)
      · generalize ex7 : (if (a1 - a1 / (2 : Int32) * (2 : Int32)) = (1 : Int32) then (1 : Int32) else (0 : Int32)) = x7
        refine aw_iload_n hC 0 dX12_doMove_104 rfl rfl ?_
        refine aw_cV2r hC hSt (t_X12_counts G l hM _ _ (h7 S1 eS1 S2 eS2 c3 x4 ex4 S5 eS5 x7 ex7)) w_1146 w_1195 w_1196 w_1197 w_953 rfl rfl (by decide +kernel) ⟨Nat.le_of_ble_eq_true rfl, Nat.le_of_ble_eq_true rfl⟩ (ms_lt 64 (by decide) hM) (ms_k 64 12 0 (by decide) hM) rfl (Nat.le_of_ble_eq_true rfl) dX12_doMove_105 ⟨Nat.zero_le _, Nat.zero_le _⟩ ?_
        generalize er8 : f_X12_counts S5 64 x7 x4 = r8
        have hM : MS r8.2 := MS.of (by rw [← er8]; exact q_X12_counts _ _ _ _) hM
        refine aw_iadd hC dX12_doMove_108 ?_
        refine aw_iast hC hSt (ms_lt 75 (by decide) hM) (ms_k 75 14 6 (by decide) hM) (vp_len (n := 6) (ms_l 75 14 6 (by decide) hM) (h8 S1 eS1 S2 eS2 c3 x4 ex4 S5 eS5 x7 ex7 r8 er8)) dX12_doMove_109 ?_
        generalize eS9 : (sI r8.2 75 (a2 + (1 : Int32)).toNatClampNeg ((gI S5 75 (a2 + (1 : Int32)).toNatClampNeg) + r8.1)) = S9
        have hM : MS S9 := MS.of (by rw [← eS9]; exact shp_sI _ _ _ _) hM
        refine aw_aload_n hC 1 dX12_doMove_110 rfl rfl ?_
        refine aw_cV0v hC hSt (t_X12_shut G l hM ) w_1111 w_1113 w_1114 w_1115 w_953 rfl rfl (by decide +kernel) ⟨Nat.le_of_ble_eq_true rfl, Nat.le_of_ble_eq_true rfl⟩ (ms_lt 64 (by decide) hM) (ms_k 64 12 0 (by decide) hM) rfl (Nat.le_of_ble_eq_true rfl) dX12_doMove_111 ⟨Nat.zero_le _, Nat.zero_le _⟩ ?_
        generalize er10 : f_X12_shut S9 64 = r10
        have hM : MS r10 := MS.of (by rw [← er10]; exact q_X12_shut _ _) hM
        refine aw_sub [1, 2, 3] rfl ?_
        subst er10
        subst eS9
        subst er8
        subst ex7
        subst eS5
        subst ex4
        simp only [bd_def, if_pos c3] at Jc3 ⊢
        exact Jc3
      · refine aw_icmp_ne hC 103 dX12_doMove_96 (by decide) (fun c6 => ?_) (fun c6 => ?_)
        · refine aw_iconst (v := 0) hC dX12_doMove_103 (by decide) ?_
          simp only [bd_def, if_neg c6] at Jc6 ⊢
          exact Jc6
        · refine aw_iconst (v := 1) hC dX12_doMove_99 (by decide) ?_
          refine aw_goto hC 104 dX12_doMove_100 (by decide) ?_
          simp only [bd_def, if_pos c6] at Jc6 ⊢
          exact Jc6
    · refine aw_aload_n hC 0 dX12_doMove_34 rfl rfl ?_
      refine aw_iconst (v := 0) hC dX12_doMove_35 (by decide) ?_
      refine aw_iload_n hC 1 dX12_doMove_36 rfl rfl ?_
      refine aw_iconst (v := 2) hC dX12_doMove_37 (by decide) ?_
      refine aw_idiv hC dX12_doMove_38 (by decide) ?_
      refine aw_iconst (v := 1) hC dX12_doMove_39 (by decide) ?_
      refine aw_iadd hC dX12_doMove_40 ?_
      refine aw_iload_n hC 1 dX12_doMove_41 rfl rfl ?_
      refine aw_iconst (v := 2) hC dX12_doMove_42 (by decide) ?_
      refine aw_irem hC dX12_doMove_43 (by decide) ?_
      refine aw_cut (S' := S2) (pc' := 53) (lv' := [(0, .ref 64), (1, .int a1), (2, .int a2)]) (st' := [.int (if (a1 - a1 / (2 : Int32) * (2 : Int32)) = 0 then (4 : Int32) else (8 : Int32)), .int ((a1 / (2 : Int32)) + (1 : Int32)), .int (0 : Int32), .ref 64]) ?_ (fun Jc11 => ?_)
      · generalize ex12 : (if (a1 - a1 / (2 : Int32) * (2 : Int32)) = 0 then (4 : Int32) else (8 : Int32)) = x12
        refine aw_ldc (v := -1000000) hC w_923 dX12_doMove_53 ?_
        refine aw_cV4v hC hSt (t_X12_doTick G l hM _ _ _ _ (h9 S1 eS1 S2 eS2 c3 x12 ex12)) w_1110 w_1155 w_1156 w_1157 w_953 rfl rfl (by decide +kernel) ⟨Nat.le_of_ble_eq_true rfl, Nat.le_of_ble_eq_true rfl⟩ (ms_lt 64 (by decide) hM) (ms_k 64 12 0 (by decide) hM) rfl (Nat.le_of_ble_eq_true rfl) dX12_doMove_55 ⟨Nat.zero_le _, Nat.zero_le _⟩ ?_
        generalize er13 : f_X12_doTick S2 64 (0 : Int32) ((a1 / (2 : Int32)) + (1 : Int32)) x12 (-1000000 : Int32) = r13
        have hM : MS r13 := MS.of (by rw [← er13]; exact q_X12_doTick _ _ _ _ _ _) hM
        refine aw_goto hC 114 dX12_doMove_58 (by decide) ?_
        subst er13
        subst ex12
        simp only [bd_def, if_neg c3] at Jc3 ⊢
        exact Jc3
      · refine aw_if_ne hC 51 dX12_doMove_44 (by decide) (fun c11 => ?_) (fun c11 => ?_)
        · refine aw_bipush (v := 8) hC dX12_doMove_51 (by decide) ?_
          simp only [bd_def, if_neg c11] at Jc11 ⊢
          exact Jc11
        · refine aw_iconst (v := 4) hC dX12_doMove_47 (by decide) ?_
          refine aw_goto hC 53 dX12_doMove_48 (by decide) ?_
          simp only [bd_def, if_pos c11] at Jc11 ⊢
          exact Jc11
theorem q_X12_doMove (S : HSt) (_o : Nat) (a1 : Int32) (a2 : Int32) : shp (f_X12_doMove S _o a1 a2) = shp S := by
  unfold f_X12_doMove
  repeat' (first | with_reducible rfl | with_reducible refine (q_X12_counts _ _ _ _).trans ?_ | with_reducible refine (q_X12_doTick _ _ _ _ _ _).trans ?_ | with_reducible refine (q_X12_keepPath _ _ _).trans ?_ | with_reducible refine (q_X12_shut _ _).trans ?_ | with_reducible refine (shp_sI _ _ _ _).trans ?_ | with_reducible refine (shp_sJ _ _ _ _).trans ?_ | with_reducible refine shi ?_ ?_ | with_reducible refine shb (fun _ _ => ?_) | (subst_vars; with_reducible rfl) | (subst_vars; with_reducible refine (q_X12_counts _ _ _ _).trans ?_) | (subst_vars; with_reducible refine (q_X12_doTick _ _ _ _ _ _).trans ?_) | (subst_vars; with_reducible refine (q_X12_keepPath _ _ _).trans ?_) | (subst_vars; with_reducible refine (q_X12_shut _ _).trans ?_) | (subst_vars; with_reducible refine (shp_sI _ _ _ _).trans ?_) | (subst_vars; with_reducible refine (shp_sJ _ _ _ _).trans ?_) | (subst_vars; with_reducible refine shi ?_ ?_) | (subst_vars; with_reducible refine shb (fun _ _ => ?_)))
noncomputable def L_X12_lookRow_39 : Nat → HSt → Int32 → Int32 → Int32 × Int32 × HSt
  | 0, S, v1, v2 => (v1, v2, S)
  | n + 1, S, v1, v2 =>
    if v1 ≤ v2 then ((pr (v1) (pr (v2) (S)))) else (bd ((sI S 76 v2.toNatClampNeg (gI S 73 v2.toNatClampNeg))) fun S1005 => L_X12_lookRow_39 n S1005 v1 (v2 + (1 : Int32)))
def T_X12_lookRow_39 : Nat → HSt → Int32 → Int32 → Prop
  | 0, _, _, _ => False
  | n + 1, S, v1, v2 => ((¬ v1 ≤ v2) → vp_in v2 6) ∧ ((¬ v1 ≤ v2) → vp_in v2 5) ∧ ((¬ v1 ≤ v2) → ∀ S1005 : HSt, (sI S 76 v2.toNatClampNeg (gI S 73 v2.toNatClampNeg)) = S1005 → T_X12_lookRow_39 n S1005 v1 (v2 + (1 : Int32)))
theorem qL_X12_lookRow_39 : ∀ (n : Nat) (S : HSt) (v1 : Int32) (v2 : Int32), shp (L_X12_lookRow_39 n S v1 v2).2.2 = shp S := by
  intro n
  induction n with
  | zero => intros; rfl
  | succ n ih =>
    intro S v1 v2
    unfold L_X12_lookRow_39
    repeat' (first | with_reducible refine shpr2 ?_ | with_reducible rfl | with_reducible refine (ih _ _ _).trans ?_ | with_reducible refine (shp_sI _ _ _ _).trans ?_ | with_reducible refine (shp_sJ _ _ _ _).trans ?_ | with_reducible refine shi ?_ ?_ | with_reducible refine shb (fun _ _ => ?_) | with_reducible refine shiP (fun q : Int32 × Int32 × HSt => q.2.2) ?_ ?_ | with_reducible refine shbP (fun q : Int32 × Int32 × HSt => q.2.2) (fun _ _ => ?_) | (subst_vars; with_reducible rfl) | (subst_vars; with_reducible refine (ih _ _ _).trans ?_) | (subst_vars; with_reducible refine (shp_sI _ _ _ _).trans ?_) | (subst_vars; with_reducible refine (shp_sJ _ _ _ _).trans ?_) | (subst_vars; with_reducible refine shi ?_ ?_) | (subst_vars; with_reducible refine shb (fun _ _ => ?_)))
set_option maxRecDepth 100000 in
theorem l_X12_lookRow_39 {p : Program} {l : Launch} {e : Env} {s : State} {m : MethodId} {args : Array Value} {below : List Frame} {meth : Method} {c : Code} {G : GG} {Q : State → Prop} (hC : ACx p s m args meth c cX12_lookRow RX12 3 none) (hSt : St G s)  : ∀ (n : Nat) (S : HSt) (v1 : Int32) (v2 : Int32), MS S → T_X12_lookRow_39 n S v1 v2 → AW p l e (rmD 0 0 0) s m args below meth c G 3 Q (L_X12_lookRow_39 n S v1 v2).2.2 0 0 62 [(0, .ref 64), (1, .int (L_X12_lookRow_39 n S v1 v2).1), (2, .int (L_X12_lookRow_39 n S v1 v2).2.1)] [] → AW p l e (rmD 0 0 0) s m args below meth c G 3 Q S 0 0 39 [(0, .ref 64), (1, .int v1), (2, .int v2)] [] := by
  intro n
  induction n with
  | zero => intro S v1 v2 _ hT; exact hT.elim
  | succ n ih =>
    intro S v1 v2 hM hT hk
    unfold T_X12_lookRow_39 at hT
    obtain ⟨h0, h1, h2⟩ := hT
    refine aw_iload_n hC 2 dX12_lookRow_39 rfl rfl ?_
    refine aw_iload_n hC 1 dX12_lookRow_40 rfl rfl ?_
    refine aw_icmp_ge hC 62 dX12_lookRow_41 (by decide) (fun c1004 => ?_) (fun c1004 => ?_)
    · refine aw_sub [0, 1, 2] rfl ?_
      have E : L_X12_lookRow_39 (n + 1) S v1 v2 = _ := (if_pos c1004).trans (rfl)
      rw [E] at hk
      exact hk
    · refine aw_aload_n hC 0 dX12_lookRow_44 rfl rfl ?_
      refine aw_getP (b := 76) hC hSt 37 (ms_lt 64 (by decide) hM) (ms_k 64 12 0 (by decide) hM) rfl (by decide) w_930 rfl (ms_p 37 76 (by decide) hM) dX12_lookRow_45 ?_
      refine aw_iload_n hC 2 dX12_lookRow_48 rfl rfl ?_
      refine aw_aload_n hC 0 dX12_lookRow_49 rfl rfl ?_
      refine aw_getP (b := 73) hC hSt 34 (ms_lt 64 (by decide) hM) (ms_k 64 12 0 (by decide) hM) rfl (by decide) w_927 rfl (ms_p 34 73 (by decide) hM) dX12_lookRow_50 ?_
      refine aw_iload_n hC 2 dX12_lookRow_53 rfl rfl ?_
      refine aw_iald hC hSt (ms_lt 73 (by decide) hM) (ms_k 73 14 6 (by decide) hM) (vp_len (n := 6) (ms_l 73 14 6 (by decide) hM) (h0 c1004)) dX12_lookRow_54 ?_
      refine aw_iast hC hSt (ms_lt 76 (by decide) hM) (ms_k 76 14 5 (by decide) hM) (vp_len (n := 5) (ms_l 76 14 5 (by decide) hM) (h1 c1004)) dX12_lookRow_55 ?_
      generalize eS1005 : (sI S 76 v2.toNatClampNeg (gI S 73 v2.toNatClampNeg)) = S1005
      have hM : MS S1005 := MS.of (by rw [← eS1005]; exact shp_sI _ _ _ _) hM
      refine aw_iinc (v := (v2 + (1 : Int32))) hC 2 [(2, .int _), (0, .ref 64), (1, .int _)] dX12_lookRow_56 rfl rfl (by decide) rfl ?_
      refine aw_goto hC 39 dX12_lookRow_59 (by decide) ?_
      refine aw_sub [1, 2, 0] rfl ?_
      have hTn := (h2 c1004 S1005 eS1005)
      have hMn : MS S1005 := hM
      have E : L_X12_lookRow_39 (n + 1) S v1 v2 = _ := (if_neg c1004).trans ((bd_eq eS1005).trans (rfl))
      rw [E] at hk
      exact ih _ _ _ hMn hTn hk
noncomputable def f_X12_lookRow (S : HSt) (_o : Nat) (a1 : Int32) : HSt := bd ((if (gI S 64 38) = (-1000000 : Int32) then (bd ((sI S 64 38 a1)) fun S2 => bd ((sI S2 64 39 (gI S2 75 a1.toNatClampNeg))) fun S3 => bd (L_X12_lookRow_39 1000 S3 a1 (0 : Int32)) fun r4 => r4.1) else (if (gI S 75 a1.toNatClampNeg) ≤ (gI S 64 39) then a1 else (bd ((sI S 64 38 a1)) fun S6 => bd ((sI S6 64 39 (gI S6 75 a1.toNatClampNeg))) fun S7 => bd (L_X12_lookRow_39 1000 S7 a1 (0 : Int32)) fun r8 => r8.1)))) fun x9 => bd ((if (gI S 64 38) = (-1000000 : Int32) then (bd ((sI S 64 38 a1)) fun S2 => bd ((sI S2 64 39 (gI S2 75 a1.toNatClampNeg))) fun S3 => bd (L_X12_lookRow_39 1000 S3 a1 (0 : Int32)) fun r4 => r4.2.2) else (if (gI S 75 a1.toNatClampNeg) ≤ (gI S 64 39) then S else (bd ((sI S 64 38 a1)) fun S6 => bd ((sI S6 64 39 (gI S6 75 a1.toNatClampNeg))) fun S7 => bd (L_X12_lookRow_39 1000 S7 a1 (0 : Int32)) fun r8 => r8.2.2)))) fun S10 => S10
def p_X12_lookRow (S : HSt) (_o : Nat) (a1 : Int32) : Prop := (((gI S 64 38) = (-1000000 : Int32)) → ∀ S2 : HSt, (sI S 64 38 a1) = S2 → vp_in a1 6) ∧ (((gI S 64 38) = (-1000000 : Int32)) → ∀ S2 : HSt, (sI S 64 38 a1) = S2 → ∀ S3 : HSt, (sI S2 64 39 (gI S2 75 a1.toNatClampNeg)) = S3 → T_X12_lookRow_39 1000 S3 a1 (0 : Int32)) ∧ ((¬ (gI S 64 38) = (-1000000 : Int32)) → vp_in a1 6) ∧ ((¬ (gI S 64 38) = (-1000000 : Int32)) → (¬ (gI S 75 a1.toNatClampNeg) ≤ (gI S 64 39)) → ∀ S6 : HSt, (sI S 64 38 a1) = S6 → vp_in a1 6) ∧ ((¬ (gI S 64 38) = (-1000000 : Int32)) → (¬ (gI S 75 a1.toNatClampNeg) ≤ (gI S 64 39)) → ∀ S6 : HSt, (sI S 64 38 a1) = S6 → ∀ S7 : HSt, (sI S6 64 39 (gI S6 75 a1.toNatClampNeg)) = S7 → T_X12_lookRow_39 1000 S7 a1 (0 : Int32))
set_option maxRecDepth 100000 in
theorem t_X12_lookRow (G : GG) (l : Launch) {S : HSt} (hM : MS S) (a1 : Int32) (hp : p_X12_lookRow S 64 a1) : AM G l yX12_lookRow cX12_lookRow 3 none (rmD 0 0 0) 0 0 [.ref 64, .int a1] S (FP none (f_X12_lookRow S 64 a1)) := by
  obtain ⟨h0, h1, h2, h3, h4⟩ := hp
  refine AM.mk (by decide) (Nat.le_of_ble_eq_true rfl) ?_
  intro p e s m below meth c hC hSt _
  refine aw_aload_n hC 0 dX12_lookRow_0 rfl rfl ?_
  refine aw_getI hC hSt 38 (ms_lt 64 (by decide) hM) (ms_k 64 12 0 (by decide) hM) rfl (by decide) w_1214 rfl dX12_lookRow_1 ?_
  refine aw_ldc (v := -1000000) hC w_923 dX12_lookRow_4 ?_
  refine aw_cut (S' := (if (gI S 64 38) = (-1000000 : Int32) then (bd ((sI S 64 38 a1)) fun S2 => bd ((sI S2 64 39 (gI S2 75 a1.toNatClampNeg))) fun S3 => bd (L_X12_lookRow_39 1000 S3 a1 (0 : Int32)) fun r4 => r4.2.2) else (if (gI S 75 a1.toNatClampNeg) ≤ (gI S 64 39) then S else (bd ((sI S 64 38 a1)) fun S6 => bd ((sI S6 64 39 (gI S6 75 a1.toNatClampNeg))) fun S7 => bd (L_X12_lookRow_39 1000 S7 a1 (0 : Int32)) fun r8 => r8.2.2)))) (pc' := 62) (lv' := [(0, .ref 64), (1, .int (if (gI S 64 38) = (-1000000 : Int32) then (bd ((sI S 64 38 a1)) fun S2 => bd ((sI S2 64 39 (gI S2 75 a1.toNatClampNeg))) fun S3 => bd (L_X12_lookRow_39 1000 S3 a1 (0 : Int32)) fun r4 => r4.1) else (if (gI S 75 a1.toNatClampNeg) ≤ (gI S 64 39) then a1 else (bd ((sI S 64 38 a1)) fun S6 => bd ((sI S6 64 39 (gI S6 75 a1.toNatClampNeg))) fun S7 => bd (L_X12_lookRow_39 1000 S7 a1 (0 : Int32)) fun r8 => r8.1))))]) (st' := []) ?_ (fun Jc1 => ?_)
  · generalize ex9 : (if (gI S 64 38) = (-1000000 : Int32) then (bd ((sI S 64 38 a1)) fun S2 => bd ((sI S2 64 39 (gI S2 75 a1.toNatClampNeg))) fun S3 => bd (L_X12_lookRow_39 1000 S3 a1 (0 : Int32)) fun r4 => r4.1) else (if (gI S 75 a1.toNatClampNeg) ≤ (gI S 64 39) then a1 else (bd ((sI S 64 38 a1)) fun S6 => bd ((sI S6 64 39 (gI S6 75 a1.toNatClampNeg))) fun S7 => bd (L_X12_lookRow_39 1000 S7 a1 (0 : Int32)) fun r8 => r8.1))) = x9
    generalize eS10 : (if (gI S 64 38) = (-1000000 : Int32) then (bd ((sI S 64 38 a1)) fun S2 => bd ((sI S2 64 39 (gI S2 75 a1.toNatClampNeg))) fun S3 => bd (L_X12_lookRow_39 1000 S3 a1 (0 : Int32)) fun r4 => r4.2.2) else (if (gI S 75 a1.toNatClampNeg) ≤ (gI S 64 39) then S else (bd ((sI S 64 38 a1)) fun S6 => bd ((sI S6 64 39 (gI S6 75 a1.toNatClampNeg))) fun S7 => bd (L_X12_lookRow_39 1000 S7 a1 (0 : Int32)) fun r8 => r8.2.2))) = S10
    have hM : MS S10 := MS.of (by rw [← eS10]; repeat' (first | with_reducible rfl | with_reducible refine (qL_X12_lookRow_39 _ _ _ _).trans ?_ | with_reducible refine (shp_sI _ _ _ _).trans ?_ | with_reducible refine (shp_sJ _ _ _ _).trans ?_ | with_reducible refine shi ?_ ?_ | with_reducible refine shb (fun _ _ => ?_) | (subst_vars; with_reducible rfl) | (subst_vars; with_reducible refine (qL_X12_lookRow_39 _ _ _ _).trans ?_) | (subst_vars; with_reducible refine (shp_sI _ _ _ _).trans ?_) | (subst_vars; with_reducible refine (shp_sJ _ _ _ _).trans ?_) | (subst_vars; with_reducible refine shi ?_ ?_) | (subst_vars; with_reducible refine shb (fun _ _ => ?_)))) hM
    refine aw_vret hC dX12_lookRow_62 (Nat.le_refl _) (Nat.le_refl _) ?_
    exact FP.qV ((bd_eq ex9).trans ((bd_eq eS10).trans (rfl)))
  · refine aw_icmp_eq hC 22 dX12_lookRow_6 (by decide) (fun c1 => ?_) (fun c1 => ?_)
    · refine aw_aload_n hC 0 dX12_lookRow_22 rfl rfl ?_
      refine aw_iload_n hC 1 dX12_lookRow_23 rfl rfl ?_
      refine aw_putI hC hSt 38 (ms_lt 64 (by decide) hM) (ms_k 64 12 0 (by decide) hM) rfl (by decide) w_1214 rfl rfl rfl rfl dX12_lookRow_24 ?_
      generalize eS2 : (sI S 64 38 a1) = S2
      have hM : MS S2 := MS.of (by rw [← eS2]; exact shp_sI _ _ _ _) hM
      refine aw_aload_n hC 0 dX12_lookRow_27 rfl rfl ?_
      refine aw_aload_n hC 0 dX12_lookRow_28 rfl rfl ?_
      refine aw_getP (b := 75) hC hSt 36 (ms_lt 64 (by decide) hM) (ms_k 64 12 0 (by decide) hM) rfl (by decide) w_929 rfl (ms_p 36 75 (by decide) hM) dX12_lookRow_29 ?_
      refine aw_iload_n hC 1 dX12_lookRow_32 rfl rfl ?_
      refine aw_iald hC hSt (ms_lt 75 (by decide) hM) (ms_k 75 14 6 (by decide) hM) (vp_len (n := 6) (ms_l 75 14 6 (by decide) hM) (h0 c1 S2 eS2)) dX12_lookRow_33 ?_
      refine aw_putI hC hSt 39 (ms_lt 64 (by decide) hM) (ms_k 64 12 0 (by decide) hM) rfl (by decide) w_1215 rfl rfl rfl rfl dX12_lookRow_34 ?_
      generalize eS3 : (sI S2 64 39 (gI S2 75 a1.toNatClampNeg)) = S3
      have hM : MS S3 := MS.of (by rw [← eS3]; exact shp_sI _ _ _ _) hM
      refine aw_iconst (v := 0) hC dX12_lookRow_37 (by decide) ?_
      refine aw_istore_n hC [(2, .int _), (0, .ref 64), (1, .int _)] dX12_lookRow_38 rfl (by decide) rfl ?_
      refine aw_sub [1, 2, 0] rfl ?_
      refine l_X12_lookRow_39 hC hSt 1000 _ _ _ hM (h1 c1 S2 eS2 S3 eS3) ?_
      generalize er4 : L_X12_lookRow_39 1000 S3 a1 (0 : Int32) = r4
      have hM : MS r4.2.2 := MS.of (by rw [← er4]; exact qL_X12_lookRow_39 _ _ _ _) hM
      refine aw_sub [0, 1] rfl ?_
      subst er4
      subst eS3
      subst eS2
      simp only [bd_def, if_pos c1] at Jc1 ⊢
      exact Jc1
    · refine aw_aload_n hC 0 dX12_lookRow_9 rfl rfl ?_
      refine aw_getP (b := 75) hC hSt 36 (ms_lt 64 (by decide) hM) (ms_k 64 12 0 (by decide) hM) rfl (by decide) w_929 rfl (ms_p 36 75 (by decide) hM) dX12_lookRow_10 ?_
      refine aw_iload_n hC 1 dX12_lookRow_13 rfl rfl ?_
      refine aw_iald hC hSt (ms_lt 75 (by decide) hM) (ms_k 75 14 6 (by decide) hM) (vp_len (n := 6) (ms_l 75 14 6 (by decide) hM) (h2 c1)) dX12_lookRow_14 ?_
      refine aw_aload_n hC 0 dX12_lookRow_15 rfl rfl ?_
      refine aw_getI hC hSt 39 (ms_lt 64 (by decide) hM) (ms_k 64 12 0 (by decide) hM) rfl (by decide) w_1215 rfl dX12_lookRow_16 ?_
      refine aw_icmp_le hC 62 dX12_lookRow_19 (by decide) (fun c5 => ?_) (fun c5 => ?_)
      · simp only [bd_def, if_neg c1, if_pos c5] at Jc1 ⊢
        exact Jc1
      · refine aw_aload_n hC 0 dX12_lookRow_22 rfl rfl ?_
        refine aw_iload_n hC 1 dX12_lookRow_23 rfl rfl ?_
        refine aw_putI hC hSt 38 (ms_lt 64 (by decide) hM) (ms_k 64 12 0 (by decide) hM) rfl (by decide) w_1214 rfl rfl rfl rfl dX12_lookRow_24 ?_
        generalize eS6 : (sI S 64 38 a1) = S6
        have hM : MS S6 := MS.of (by rw [← eS6]; exact shp_sI _ _ _ _) hM
        refine aw_aload_n hC 0 dX12_lookRow_27 rfl rfl ?_
        refine aw_aload_n hC 0 dX12_lookRow_28 rfl rfl ?_
        refine aw_getP (b := 75) hC hSt 36 (ms_lt 64 (by decide) hM) (ms_k 64 12 0 (by decide) hM) rfl (by decide) w_929 rfl (ms_p 36 75 (by decide) hM) dX12_lookRow_29 ?_
        refine aw_iload_n hC 1 dX12_lookRow_32 rfl rfl ?_
        refine aw_iald hC hSt (ms_lt 75 (by decide) hM) (ms_k 75 14 6 (by decide) hM) (vp_len (n := 6) (ms_l 75 14 6 (by decide) hM) (h3 c1 c5 S6 eS6)) dX12_lookRow_33 ?_
        refine aw_putI hC hSt 39 (ms_lt 64 (by decide) hM) (ms_k 64 12 0 (by decide) hM) rfl (by decide) w_1215 rfl rfl rfl rfl dX12_lookRow_34 ?_
        generalize eS7 : (sI S6 64 39 (gI S6 75 a1.toNatClampNeg)) = S7
        have hM : MS S7 := MS.of (by rw [← eS7]; exact shp_sI _ _ _ _) hM
        refine aw_iconst (v := 0) hC dX12_lookRow_37 (by decide) ?_
        refine aw_istore_n hC [(2, .int _), (0, .ref 64), (1, .int _)] dX12_lookRow_38 rfl (by decide) rfl ?_
        refine aw_sub [1, 2, 0] rfl ?_
        refine l_X12_lookRow_39 hC hSt 1000 _ _ _ hM (h4 c1 c5 S6 eS6 S7 eS7) ?_
        generalize er8 : L_X12_lookRow_39 1000 S7 a1 (0 : Int32) = r8
        have hM : MS r8.2.2 := MS.of (by rw [← er8]; exact qL_X12_lookRow_39 _ _ _ _) hM
        refine aw_sub [0, 1] rfl ?_
        subst er8
        subst eS7
        subst eS6
        simp only [bd_def, if_neg c1, if_neg c5] at Jc1 ⊢
        exact Jc1
theorem q_X12_lookRow (S : HSt) (_o : Nat) (a1 : Int32) : shp (f_X12_lookRow S _o a1) = shp S := by
  unfold f_X12_lookRow
  repeat' (first | with_reducible rfl | with_reducible refine (qL_X12_lookRow_39 _ _ _ _).trans ?_ | with_reducible refine (shp_sI _ _ _ _).trans ?_ | with_reducible refine (shp_sJ _ _ _ _).trans ?_ | with_reducible refine shi ?_ ?_ | with_reducible refine shb (fun _ _ => ?_) | (subst_vars; with_reducible rfl) | (subst_vars; with_reducible refine (qL_X12_lookRow_39 _ _ _ _).trans ?_) | (subst_vars; with_reducible refine (shp_sI _ _ _ _).trans ?_) | (subst_vars; with_reducible refine (shp_sJ _ _ _ _).trans ?_) | (subst_vars; with_reducible refine shi ?_ ?_) | (subst_vars; with_reducible refine shb (fun _ _ => ?_)))
noncomputable def L_X12_seekRows_94 : Nat → HSt → Int32 → Int32 → Int32 → Int32 → Int32 → Int32 × Int32 × Int32 × Int32 × Int32
  | 0, S, v1, v2, v3, v4, v5 => (v1, v2, v3, v4, v5)
  | n + 1, S, v1, v2, v3, v4, v5 =>
    if v2 ≤ v5 then ((pr (v1) (pr (v2) (pr (v3) (pr (v4) (v5)))))) else (if (f_X12_mayMove S 64 v5 (gI S 74 v3.toNatClampNeg)) = 0 then (L_X12_seekRows_94 n S v1 v2 v3 v4 (v5 + (1 : Int32))) else ((pr (v1) (pr (v2) (pr (v3) (pr (v4) (v5)))))))
def T_X12_seekRows_94 : Nat → HSt → Int32 → Int32 → Int32 → Int32 → Int32 → Prop
  | 0, _, _, _, _, _, _ => False
  | n + 1, S, v1, v2, v3, v4, v5 => ((¬ v2 ≤ v5) → vp_in v3 6) ∧ ((¬ v2 ≤ v5) → ((f_X12_mayMove S 64 v5 (gI S 74 v3.toNatClampNeg)) = 0) → T_X12_seekRows_94 n S v1 v2 v3 v4 (v5 + (1 : Int32)))
set_option maxRecDepth 100000 in
theorem l_X12_seekRows_94 {p : Program} {l : Launch} {e : Env} {s : State} {m : MethodId} {args : Array Value} {below : List Frame} {meth : Method} {c : Code} {G : GG} {Q : State → Prop} (hC : ACx p s m args meth c cX12_seekRows RX12 6 none) (hSt : St G s)  : ∀ (n : Nat) (S : HSt) (v1 : Int32) (v2 : Int32) (v3 : Int32) (v4 : Int32) (v5 : Int32), MS S → T_X12_seekRows_94 n S v1 v2 v3 v4 v5 → AW p l e (rmD 6 0 0) s m args below meth c G 6 Q S 0 0 121 [(0, .ref 64), (1, .int (L_X12_seekRows_94 n S v1 v2 v3 v4 v5).1), (2, .int (L_X12_seekRows_94 n S v1 v2 v3 v4 v5).2.1), (3, .int (L_X12_seekRows_94 n S v1 v2 v3 v4 v5).2.2.1), (4, .int (L_X12_seekRows_94 n S v1 v2 v3 v4 v5).2.2.2.1), (5, .int (L_X12_seekRows_94 n S v1 v2 v3 v4 v5).2.2.2.2)] [] → AW p l e (rmD 6 0 0) s m args below meth c G 6 Q S 0 0 94 [(0, .ref 64), (1, .int v1), (2, .int v2), (3, .int v3), (4, .int v4), (5, .int v5)] [] := by
  intro n
  induction n with
  | zero => intro S v1 v2 v3 v4 v5 _ hT; exact hT.elim
  | succ n ih =>
    intro S v1 v2 v3 v4 v5 hM hT hk
    unfold T_X12_seekRows_94 at hT
    obtain ⟨h0, h1⟩ := hT
    refine aw_iload hC 5 dX12_seekRows_94 rfl ?_
    refine aw_iload_n hC 2 dX12_seekRows_96 rfl rfl ?_
    refine aw_icmp_ge hC 121 dX12_seekRows_97 (by decide) (fun c2014 => ?_) (fun c2014 => ?_)
    · refine aw_sub [0, 1, 2, 3, 4, 5] rfl ?_
      have E : L_X12_seekRows_94 (n + 1) S v1 v2 v3 v4 v5 = _ := (if_pos c2014).trans (rfl)
      rw [E] at hk
      exact hk
    · refine aw_aload_n hC 0 dX12_seekRows_100 rfl rfl ?_
      refine aw_iload hC 5 dX12_seekRows_101 rfl ?_
      refine aw_aload_n hC 0 dX12_seekRows_103 rfl rfl ?_
      refine aw_getP (b := 74) hC hSt 35 (ms_lt 64 (by decide) hM) (ms_k 64 12 0 (by decide) hM) rfl (by decide) w_928 rfl (ms_p 35 74 (by decide) hM) dX12_seekRows_104 ?_
      refine aw_iload_n hC 3 dX12_seekRows_107 rfl rfl ?_
      refine aw_iald hC hSt (ms_lt 74 (by decide) hM) (ms_k 74 14 6 (by decide) hM) (vp_len (n := 6) (ms_l 74 14 6 (by decide) hM) (h0 c2014)) dX12_seekRows_108 ?_
      refine aw_cV2r hC hSt (t_X12_mayMove G l hM _ _) w_1208 w_1219 w_1220 w_1221 w_953 rfl rfl (by decide +kernel) ⟨Nat.le_of_ble_eq_true rfl, Nat.le_of_ble_eq_true rfl⟩ (ms_lt 64 (by decide) hM) (ms_k 64 12 0 (by decide) hM) rfl (Nat.le_of_ble_eq_true rfl) dX12_seekRows_109 ⟨Nat.zero_le _, Nat.zero_le _⟩ ?_
      refine aw_if_ne hC 121 dX12_seekRows_112 (by decide) (fun c2015 => ?_) (fun c2015 => ?_)
      · refine aw_sub [0, 1, 2, 3, 4, 5] rfl ?_
        have E : L_X12_seekRows_94 (n + 1) S v1 v2 v3 v4 v5 = _ := (if_neg c2014).trans ((if_neg c2015).trans (rfl))
        rw [E] at hk
        exact hk
      · refine aw_iinc (v := (v5 + (1 : Int32))) hC 5 [(5, .int _), (0, .ref 64), (1, .int _), (2, .int _), (3, .int _), (4, .int _)] dX12_seekRows_115 rfl rfl (by decide) rfl ?_
        refine aw_goto hC 94 dX12_seekRows_118 (by decide) ?_
        refine aw_sub [1, 2, 3, 4, 5, 0] rfl ?_
        have hTn := (h1 c2014 c2015)
        have hMn : MS S := hM
        have E : L_X12_seekRows_94 (n + 1) S v1 v2 v3 v4 v5 = _ := (if_neg c2014).trans ((if_pos c2015).trans (rfl))
        rw [E] at hk
        exact ih _ _ _ _ _ _ hMn hTn hk
noncomputable def L_X12_seekRows_50 : Nat → HSt → Int32 → Int32 → Int32 → Int32 × Int32 × Int32 × HSt
  | 0, S, v1, v2, v3 => (v1, v2, v3, S)
  | n + 1, S, v1, v2, v3 =>
    if v3 < 0 then ((pr (v1) (pr (v2) (pr (v3) (S))))) else (bd (f_X12_layPath S 64 v3) fun r1009 => bd ((if (gI r1009 73 v3.toNatClampNeg) < 0 then (0 : Int32) else (1 : Int32))) fun x1011 => bd ((if v3 = v1 then v2 else ((gI r1009 73 v3.toNatClampNeg) + (1 : Int32)))) fun x1013 => bd (L_X12_seekRows_94 1000 r1009 v1 v2 v3 x1011 x1013) fun r1014 => bd ((if r1014.2.1 ≤ r1014.2.2.2.2 then (bd ((if r1014.2.2.2.1 = 0 then (bd (f_X12_lookRow r1009 64 r1014.2.2.1) fun r1017 => r1017) else r1009)) fun S1018 => (r1014.2.2.1 + (-1 : Int32))) else (bd ((sI r1009 73 r1014.2.2.1.toNatClampNeg r1014.2.2.2.2)) fun S1019 => bd (f_X12_doMove S1019 64 r1014.2.2.2.2 r1014.2.2.1) fun r1020 => bd ((sI r1020 73 (r1014.2.2.1 + (1 : Int32)).toNatClampNeg (-1 : Int32))) fun S1021 => (r1014.2.2.1 + (1 : Int32))))) fun x1022 => bd ((if r1014.2.1 ≤ r1014.2.2.2.2 then (bd ((if r1014.2.2.2.1 = 0 then (bd (f_X12_lookRow r1009 64 r1014.2.2.1) fun r1017 => r1017) else r1009)) fun S1018 => S1018) else (bd ((sI r1009 73 r1014.2.2.1.toNatClampNeg r1014.2.2.2.2)) fun S1019 => bd (f_X12_doMove S1019 64 r1014.2.2.2.2 r1014.2.2.1) fun r1020 => bd ((sI r1020 73 (r1014.2.2.1 + (1 : Int32)).toNatClampNeg (-1 : Int32))) fun S1021 => S1021))) fun S1023 => L_X12_seekRows_50 n S1023 r1014.1 r1014.2.1 x1022)
def T_X12_seekRows_50 : Nat → HSt → Int32 → Int32 → Int32 → Prop
  | 0, _, _, _, _ => False
  | n + 1, S, v1, v2, v3 => ((¬ v3 < 0) → p_X12_layPath S 64 v3) ∧ ((¬ v3 < 0) → ∀ r1009, f_X12_layPath S 64 v3 = r1009 → vp_in v3 6) ∧ ((¬ v3 < 0) → ∀ r1009, f_X12_layPath S 64 v3 = r1009 → ∀ x1011 : Int32, (if (gI r1009 73 v3.toNatClampNeg) < 0 then (0 : Int32) else (1 : Int32)) = x1011 → (¬ v3 = v1) → vp_in v3 6) ∧ ((¬ v3 < 0) → ∀ r1009, f_X12_layPath S 64 v3 = r1009 → ∀ x1011 : Int32, (if (gI r1009 73 v3.toNatClampNeg) < 0 then (0 : Int32) else (1 : Int32)) = x1011 → ∀ x1013 : Int32, (if v3 = v1 then v2 else ((gI r1009 73 v3.toNatClampNeg) + (1 : Int32))) = x1013 → T_X12_seekRows_94 1000 r1009 v1 v2 v3 x1011 x1013) ∧ ((¬ v3 < 0) → ∀ r1009, f_X12_layPath S 64 v3 = r1009 → ∀ x1011 : Int32, (if (gI r1009 73 v3.toNatClampNeg) < 0 then (0 : Int32) else (1 : Int32)) = x1011 → ∀ x1013 : Int32, (if v3 = v1 then v2 else ((gI r1009 73 v3.toNatClampNeg) + (1 : Int32))) = x1013 → ∀ r1014, L_X12_seekRows_94 1000 r1009 v1 v2 v3 x1011 x1013 = r1014 → (r1014.2.1 ≤ r1014.2.2.2.2) → (r1014.2.2.2.1 = 0) → p_X12_lookRow r1009 64 r1014.2.2.1) ∧ ((¬ v3 < 0) → ∀ r1009, f_X12_layPath S 64 v3 = r1009 → ∀ x1011 : Int32, (if (gI r1009 73 v3.toNatClampNeg) < 0 then (0 : Int32) else (1 : Int32)) = x1011 → ∀ x1013 : Int32, (if v3 = v1 then v2 else ((gI r1009 73 v3.toNatClampNeg) + (1 : Int32))) = x1013 → ∀ r1014, L_X12_seekRows_94 1000 r1009 v1 v2 v3 x1011 x1013 = r1014 → (¬ r1014.2.1 ≤ r1014.2.2.2.2) → vp_in r1014.2.2.1 6) ∧ ((¬ v3 < 0) → ∀ r1009, f_X12_layPath S 64 v3 = r1009 → ∀ x1011 : Int32, (if (gI r1009 73 v3.toNatClampNeg) < 0 then (0 : Int32) else (1 : Int32)) = x1011 → ∀ x1013 : Int32, (if v3 = v1 then v2 else ((gI r1009 73 v3.toNatClampNeg) + (1 : Int32))) = x1013 → ∀ r1014, L_X12_seekRows_94 1000 r1009 v1 v2 v3 x1011 x1013 = r1014 → (¬ r1014.2.1 ≤ r1014.2.2.2.2) → ∀ S1019 : HSt, (sI r1009 73 r1014.2.2.1.toNatClampNeg r1014.2.2.2.2) = S1019 → p_X12_doMove S1019 64 r1014.2.2.2.2 r1014.2.2.1) ∧ ((¬ v3 < 0) → ∀ r1009, f_X12_layPath S 64 v3 = r1009 → ∀ x1011 : Int32, (if (gI r1009 73 v3.toNatClampNeg) < 0 then (0 : Int32) else (1 : Int32)) = x1011 → ∀ x1013 : Int32, (if v3 = v1 then v2 else ((gI r1009 73 v3.toNatClampNeg) + (1 : Int32))) = x1013 → ∀ r1014, L_X12_seekRows_94 1000 r1009 v1 v2 v3 x1011 x1013 = r1014 → (¬ r1014.2.1 ≤ r1014.2.2.2.2) → ∀ S1019 : HSt, (sI r1009 73 r1014.2.2.1.toNatClampNeg r1014.2.2.2.2) = S1019 → ∀ r1020, f_X12_doMove S1019 64 r1014.2.2.2.2 r1014.2.2.1 = r1020 → vp_in (r1014.2.2.1 + (1 : Int32)) 6) ∧ ((¬ v3 < 0) → ∀ r1009, f_X12_layPath S 64 v3 = r1009 → ∀ x1011 : Int32, (if (gI r1009 73 v3.toNatClampNeg) < 0 then (0 : Int32) else (1 : Int32)) = x1011 → ∀ x1013 : Int32, (if v3 = v1 then v2 else ((gI r1009 73 v3.toNatClampNeg) + (1 : Int32))) = x1013 → ∀ r1014, L_X12_seekRows_94 1000 r1009 v1 v2 v3 x1011 x1013 = r1014 → ∀ x1022 : Int32, (if r1014.2.1 ≤ r1014.2.2.2.2 then (bd ((if r1014.2.2.2.1 = 0 then (bd (f_X12_lookRow r1009 64 r1014.2.2.1) fun r1017 => r1017) else r1009)) fun S1018 => (r1014.2.2.1 + (-1 : Int32))) else (bd ((sI r1009 73 r1014.2.2.1.toNatClampNeg r1014.2.2.2.2)) fun S1019 => bd (f_X12_doMove S1019 64 r1014.2.2.2.2 r1014.2.2.1) fun r1020 => bd ((sI r1020 73 (r1014.2.2.1 + (1 : Int32)).toNatClampNeg (-1 : Int32))) fun S1021 => (r1014.2.2.1 + (1 : Int32)))) = x1022 → ∀ S1023 : HSt, (if r1014.2.1 ≤ r1014.2.2.2.2 then (bd ((if r1014.2.2.2.1 = 0 then (bd (f_X12_lookRow r1009 64 r1014.2.2.1) fun r1017 => r1017) else r1009)) fun S1018 => S1018) else (bd ((sI r1009 73 r1014.2.2.1.toNatClampNeg r1014.2.2.2.2)) fun S1019 => bd (f_X12_doMove S1019 64 r1014.2.2.2.2 r1014.2.2.1) fun r1020 => bd ((sI r1020 73 (r1014.2.2.1 + (1 : Int32)).toNatClampNeg (-1 : Int32))) fun S1021 => S1021)) = S1023 → T_X12_seekRows_50 n S1023 r1014.1 r1014.2.1 x1022)
theorem qL_X12_seekRows_50 : ∀ (n : Nat) (S : HSt) (v1 : Int32) (v2 : Int32) (v3 : Int32), shp (L_X12_seekRows_50 n S v1 v2 v3).2.2.2 = shp S := by
  intro n
  induction n with
  | zero => intros; rfl
  | succ n ih =>
    intro S v1 v2 v3
    unfold L_X12_seekRows_50
    repeat' (first | with_reducible refine shpr3 ?_ | with_reducible rfl | with_reducible refine (ih _ _ _ _).trans ?_ | with_reducible refine (q_X12_doMove _ _ _ _).trans ?_ | with_reducible refine (q_X12_keepPath _ _ _).trans ?_ | with_reducible refine (q_X12_layLive _ _).trans ?_ | with_reducible refine (q_X12_layPath _ _ _).trans ?_ | with_reducible refine (q_X12_lookRow _ _ _).trans ?_ | with_reducible refine (shp_sI _ _ _ _).trans ?_ | with_reducible refine (shp_sJ _ _ _ _).trans ?_ | with_reducible refine shi ?_ ?_ | with_reducible refine shb (fun _ _ => ?_) | with_reducible refine shiP (fun q : Int32 × Int32 × Int32 × HSt => q.2.2.2) ?_ ?_ | with_reducible refine shbP (fun q : Int32 × Int32 × Int32 × HSt => q.2.2.2) (fun _ _ => ?_) | (subst_vars; with_reducible rfl) | (subst_vars; with_reducible refine (ih _ _ _ _).trans ?_) | (subst_vars; with_reducible refine (q_X12_doMove _ _ _ _).trans ?_) | (subst_vars; with_reducible refine (q_X12_keepPath _ _ _).trans ?_) | (subst_vars; with_reducible refine (q_X12_layLive _ _).trans ?_) | (subst_vars; with_reducible refine (q_X12_layPath _ _ _).trans ?_) | (subst_vars; with_reducible refine (q_X12_lookRow _ _ _).trans ?_) | (subst_vars; with_reducible refine (shp_sI _ _ _ _).trans ?_) | (subst_vars; with_reducible refine (shp_sJ _ _ _ _).trans ?_) | (subst_vars; with_reducible refine shi ?_ ?_) | (subst_vars; with_reducible refine shb (fun _ _ => ?_)))
set_option maxRecDepth 100000 in
theorem l_X12_seekRows_50 {p : Program} {l : Launch} {e : Env} {s : State} {m : MethodId} {args : Array Value} {below : List Frame} {meth : Method} {c : Code} {G : GG} {Q : State → Prop} (hC : ACx p s m args meth c cX12_seekRows RX12 6 none) (hSt : St G s)  : ∀ (n : Nat) (S : HSt) (v1 : Int32) (v2 : Int32) (v3 : Int32), MS S → T_X12_seekRows_50 n S v1 v2 v3 → AW p l e (rmD 6 0 0) s m args below meth c G 6 Q (L_X12_seekRows_50 n S v1 v2 v3).2.2.2 0 0 171 [(0, .ref 64), (1, .int (L_X12_seekRows_50 n S v1 v2 v3).1), (2, .int (L_X12_seekRows_50 n S v1 v2 v3).2.1), (3, .int (L_X12_seekRows_50 n S v1 v2 v3).2.2.1)] [] → AW p l e (rmD 6 0 0) s m args below meth c G 6 Q S 0 0 50 [(0, .ref 64), (1, .int v1), (2, .int v2), (3, .int v3)] [] := by
  intro n
  induction n with
  | zero => intro S v1 v2 v3 _ hT; exact hT.elim
  | succ n ih =>
    intro S v1 v2 v3 hM hT hk
    unfold T_X12_seekRows_50 at hT
    obtain ⟨h0, h1, h2, h3, h4, h5, h6, h7, h8⟩ := hT
    refine aw_iload_n hC 3 dX12_seekRows_50 rfl rfl ?_
    refine aw_if_lt hC 171 dX12_seekRows_51 (by decide) (fun c1008 => ?_) (fun c1008 => ?_)
    · refine aw_sub [0, 1, 2, 3] rfl ?_
      have E : L_X12_seekRows_50 (n + 1) S v1 v2 v3 = _ := (if_pos c1008).trans (rfl)
      rw [E] at hk
      exact hk
    · refine aw_aload_n hC 0 dX12_seekRows_54 rfl rfl ?_
      refine aw_iload_n hC 3 dX12_seekRows_55 rfl rfl ?_
      refine aw_cV1v hC hSt (t_X12_layPath G l hM _ (h0 c1008)) w_1206 w_1216 w_1217 w_1218 w_953 rfl rfl (by decide +kernel) ⟨Nat.le_of_ble_eq_true rfl, Nat.le_of_ble_eq_true rfl⟩ (ms_lt 64 (by decide) hM) (ms_k 64 12 0 (by decide) hM) rfl (Nat.le_of_ble_eq_true rfl) dX12_seekRows_56 ⟨Nat.zero_le _, Nat.zero_le _⟩ ?_
      generalize er1009 : f_X12_layPath S 64 v3 = r1009
      have hM : MS r1009 := MS.of (by rw [← er1009]; exact q_X12_layPath _ _ _) hM
      refine aw_aload_n hC 0 dX12_seekRows_59 rfl rfl ?_
      refine aw_getP (b := 73) hC hSt 34 (ms_lt 64 (by decide) hM) (ms_k 64 12 0 (by decide) hM) rfl (by decide) w_927 rfl (ms_p 34 73 (by decide) hM) dX12_seekRows_60 ?_
      refine aw_iload_n hC 3 dX12_seekRows_63 rfl rfl ?_
      refine aw_iald hC hSt (ms_lt 73 (by decide) hM) (ms_k 73 14 6 (by decide) hM) (vp_len (n := 6) (ms_l 73 14 6 (by decide) hM) (h1 c1008 r1009 er1009)) dX12_seekRows_64 ?_
      refine aw_cut (S' := r1009) (pc' := 73) (lv' := [(0, .ref 64), (1, .int v1), (2, .int v2), (3, .int v3)]) (st' := [.int (if (gI r1009 73 v3.toNatClampNeg) < 0 then (0 : Int32) else (1 : Int32))]) ?_ (fun Jc1010 => ?_)
      · generalize ex1011 : (if (gI r1009 73 v3.toNatClampNeg) < 0 then (0 : Int32) else (1 : Int32)) = x1011
        refine aw_istore hC [(4, .int _), (0, .ref 64), (1, .int _), (2, .int _), (3, .int _)] dX12_seekRows_73 (by decide) rfl ?_
        refine aw_iload_n hC 4 dX12_seekRows_75 rfl rfl ?_
        refine aw_iload_n hC 2 dX12_seekRows_76 rfl rfl ?_
        refine aw_cut (S' := r1009) (pc' := 92) (lv' := [(4, .int x1011), (0, .ref 64), (1, .int v1), (2, .int v2), (3, .int v3)]) (st' := [.int (if v3 = v1 then v2 else ((gI r1009 73 v3.toNatClampNeg) + (1 : Int32)))]) ?_ (fun Jc1012 => ?_)
        · generalize ex1013 : (if v3 = v1 then v2 else ((gI r1009 73 v3.toNatClampNeg) + (1 : Int32))) = x1013
          refine aw_istore hC [(5, .int _), (4, .int _), (0, .ref 64), (1, .int _), (2, .int _), (3, .int _)] dX12_seekRows_92 (by decide) rfl ?_
          refine aw_sub [2, 3, 4, 5, 1, 0] rfl ?_
          refine l_X12_seekRows_94 hC hSt 1000 _ _ _ _ _ _ hM (h3 c1008 r1009 er1009 x1011 ex1011 x1013 ex1013) ?_
          generalize er1014 : L_X12_seekRows_94 1000 r1009 v1 v2 v3 x1011 x1013 = r1014
          refine aw_iload hC 5 dX12_seekRows_121 rfl ?_
          refine aw_iload_n hC 2 dX12_seekRows_123 rfl rfl ?_
          refine aw_cut (S' := (if r1014.2.1 ≤ r1014.2.2.2.2 then (bd ((if r1014.2.2.2.1 = 0 then (bd (f_X12_lookRow r1009 64 r1014.2.2.1) fun r1017 => r1017) else r1009)) fun S1018 => S1018) else (bd ((sI r1009 73 r1014.2.2.1.toNatClampNeg r1014.2.2.2.2)) fun S1019 => bd (f_X12_doMove S1019 64 r1014.2.2.2.2 r1014.2.2.1) fun r1020 => bd ((sI r1020 73 (r1014.2.2.1 + (1 : Int32)).toNatClampNeg (-1 : Int32))) fun S1021 => S1021))) (pc' := 168) (lv' := [(3, .int (if r1014.2.1 ≤ r1014.2.2.2.2 then (bd ((if r1014.2.2.2.1 = 0 then (bd (f_X12_lookRow r1009 64 r1014.2.2.1) fun r1017 => r1017) else r1009)) fun S1018 => (r1014.2.2.1 + (-1 : Int32))) else (bd ((sI r1009 73 r1014.2.2.1.toNatClampNeg r1014.2.2.2.2)) fun S1019 => bd (f_X12_doMove S1019 64 r1014.2.2.2.2 r1014.2.2.1) fun r1020 => bd ((sI r1020 73 (r1014.2.2.1 + (1 : Int32)).toNatClampNeg (-1 : Int32))) fun S1021 => (r1014.2.2.1 + (1 : Int32))))), (0, .ref 64), (1, .int r1014.1), (2, .int r1014.2.1), (4, .int r1014.2.2.2.1), (5, .int r1014.2.2.2.2)]) (st' := []) ?_ (fun Jc1015 => ?_)
          · generalize ex1022 : (if r1014.2.1 ≤ r1014.2.2.2.2 then (bd ((if r1014.2.2.2.1 = 0 then (bd (f_X12_lookRow r1009 64 r1014.2.2.1) fun r1017 => r1017) else r1009)) fun S1018 => (r1014.2.2.1 + (-1 : Int32))) else (bd ((sI r1009 73 r1014.2.2.1.toNatClampNeg r1014.2.2.2.2)) fun S1019 => bd (f_X12_doMove S1019 64 r1014.2.2.2.2 r1014.2.2.1) fun r1020 => bd ((sI r1020 73 (r1014.2.2.1 + (1 : Int32)).toNatClampNeg (-1 : Int32))) fun S1021 => (r1014.2.2.1 + (1 : Int32)))) = x1022
            generalize eS1023 : (if r1014.2.1 ≤ r1014.2.2.2.2 then (bd ((if r1014.2.2.2.1 = 0 then (bd (f_X12_lookRow r1009 64 r1014.2.2.1) fun r1017 => r1017) else r1009)) fun S1018 => S1018) else (bd ((sI r1009 73 r1014.2.2.1.toNatClampNeg r1014.2.2.2.2)) fun S1019 => bd (f_X12_doMove S1019 64 r1014.2.2.2.2 r1014.2.2.1) fun r1020 => bd ((sI r1020 73 (r1014.2.2.1 + (1 : Int32)).toNatClampNeg (-1 : Int32))) fun S1021 => S1021)) = S1023
            have hM : MS S1023 := MS.of (by rw [← eS1023]; repeat' (first | with_reducible rfl | with_reducible refine (q_X12_doMove _ _ _ _).trans ?_ | with_reducible refine (q_X12_layPath _ _ _).trans ?_ | with_reducible refine (q_X12_lookRow _ _ _).trans ?_ | with_reducible refine (shp_sI _ _ _ _).trans ?_ | with_reducible refine (shp_sJ _ _ _ _).trans ?_ | with_reducible refine shi ?_ ?_ | with_reducible refine shb (fun _ _ => ?_) | (subst_vars; with_reducible rfl) | (subst_vars; with_reducible refine (q_X12_doMove _ _ _ _).trans ?_) | (subst_vars; with_reducible refine (q_X12_layPath _ _ _).trans ?_) | (subst_vars; with_reducible refine (q_X12_lookRow _ _ _).trans ?_) | (subst_vars; with_reducible refine (shp_sI _ _ _ _).trans ?_) | (subst_vars; with_reducible refine (shp_sJ _ _ _ _).trans ?_) | (subst_vars; with_reducible refine shi ?_ ?_) | (subst_vars; with_reducible refine shb (fun _ _ => ?_)))) hM
            refine aw_goto hC 50 dX12_seekRows_168 (by decide) ?_
            refine aw_sub [1, 2, 3, 0] rfl ?_
            have hTn := (h8 c1008 r1009 er1009 x1011 ex1011 x1013 ex1013 r1014 er1014 x1022 ex1022 S1023 eS1023)
            have hMn : MS S1023 := hM
            have E : L_X12_seekRows_50 (n + 1) S v1 v2 v3 = _ := (if_neg c1008).trans ((bd_eq er1009).trans ((bd_eq ex1011).trans ((bd_eq ex1013).trans ((bd_eq er1014).trans ((bd_eq ex1022).trans ((bd_eq eS1023).trans (rfl)))))))
            rw [E] at hk
            exact ih _ _ _ _ hMn hTn hk
          · refine aw_icmp_ge hC 155 dX12_seekRows_124 (by decide) (fun c1015 => ?_) (fun c1015 => ?_)
            · refine aw_iload hC 4 dX12_seekRows_155 rfl ?_
              refine aw_cut (S' := (if r1014.2.2.2.1 = 0 then (bd (f_X12_lookRow r1009 64 r1014.2.2.1) fun r1017 => r1017) else r1009)) (pc' := 165) (lv' := [(0, .ref 64), (1, .int r1014.1), (2, .int r1014.2.1), (3, .int r1014.2.2.1), (4, .int r1014.2.2.2.1), (5, .int r1014.2.2.2.2)]) (st' := []) ?_ (fun Jc1016 => ?_)
              · generalize eS1018 : (if r1014.2.2.2.1 = 0 then (bd (f_X12_lookRow r1009 64 r1014.2.2.1) fun r1017 => r1017) else r1009) = S1018
                have hM : MS S1018 := MS.of (by rw [← eS1018]; repeat' (first | with_reducible rfl | with_reducible refine (q_X12_doMove _ _ _ _).trans ?_ | with_reducible refine (q_X12_layPath _ _ _).trans ?_ | with_reducible refine (q_X12_lookRow _ _ _).trans ?_ | with_reducible refine (shp_sI _ _ _ _).trans ?_ | with_reducible refine (shp_sJ _ _ _ _).trans ?_ | with_reducible refine shi ?_ ?_ | with_reducible refine shb (fun _ _ => ?_) | (subst_vars; with_reducible rfl) | (subst_vars; with_reducible refine (q_X12_doMove _ _ _ _).trans ?_) | (subst_vars; with_reducible refine (q_X12_layPath _ _ _).trans ?_) | (subst_vars; with_reducible refine (q_X12_lookRow _ _ _).trans ?_) | (subst_vars; with_reducible refine (shp_sI _ _ _ _).trans ?_) | (subst_vars; with_reducible refine (shp_sJ _ _ _ _).trans ?_) | (subst_vars; with_reducible refine shi ?_ ?_) | (subst_vars; with_reducible refine shb (fun _ _ => ?_)))) hM
                refine aw_iinc (v := (r1014.2.2.1 + (-1 : Int32))) hC 3 [(3, .int _), (0, .ref 64), (1, .int _), (2, .int _), (4, .int _), (5, .int _)] dX12_seekRows_165 rfl rfl (by decide) rfl ?_
                subst eS1018
                simp only [bd_def, if_pos c1015] at Jc1015 ⊢
                exact Jc1015
              · refine aw_if_ne hC 165 dX12_seekRows_157 (by decide) (fun c1016 => ?_) (fun c1016 => ?_)
                · simp only [bd_def, if_neg c1016] at Jc1016 ⊢
                  exact Jc1016
                · refine aw_aload_n hC 0 dX12_seekRows_160 rfl rfl ?_
                  refine aw_iload_n hC 3 dX12_seekRows_161 rfl rfl ?_
                  refine aw_cV1v hC hSt (t_X12_lookRow G l hM _ (h4 c1008 r1009 er1009 x1011 ex1011 x1013 ex1013 r1014 er1014 c1015 c1016)) w_1213 w_1225 w_1226 w_1227 w_953 rfl rfl (by decide +kernel) ⟨Nat.le_of_ble_eq_true rfl, Nat.le_of_ble_eq_true rfl⟩ (ms_lt 64 (by decide) hM) (ms_k 64 12 0 (by decide) hM) rfl (Nat.le_of_ble_eq_true rfl) dX12_seekRows_162 ⟨Nat.zero_le _, Nat.zero_le _⟩ ?_
                  generalize er1017 : f_X12_lookRow r1009 64 r1014.2.2.1 = r1017
                  have hM : MS r1017 := MS.of (by rw [← er1017]; exact q_X12_lookRow _ _ _) hM
                  subst er1017
                  simp only [bd_def, if_pos c1016] at Jc1016 ⊢
                  exact Jc1016
            · refine aw_aload_n hC 0 dX12_seekRows_127 rfl rfl ?_
              refine aw_getP (b := 73) hC hSt 34 (ms_lt 64 (by decide) hM) (ms_k 64 12 0 (by decide) hM) rfl (by decide) w_927 rfl (ms_p 34 73 (by decide) hM) dX12_seekRows_128 ?_
              refine aw_iload_n hC 3 dX12_seekRows_131 rfl rfl ?_
              refine aw_iload hC 5 dX12_seekRows_132 rfl ?_
              refine aw_iast hC hSt (ms_lt 73 (by decide) hM) (ms_k 73 14 6 (by decide) hM) (vp_len (n := 6) (ms_l 73 14 6 (by decide) hM) (h5 c1008 r1009 er1009 x1011 ex1011 x1013 ex1013 r1014 er1014 c1015)) dX12_seekRows_134 ?_
              generalize eS1019 : (sI r1009 73 r1014.2.2.1.toNatClampNeg r1014.2.2.2.2) = S1019
              have hM : MS S1019 := MS.of (by rw [← eS1019]; exact shp_sI _ _ _ _) hM
              refine aw_aload_n hC 0 dX12_seekRows_135 rfl rfl ?_
              refine aw_iload hC 5 dX12_seekRows_136 rfl ?_
              refine aw_iload_n hC 3 dX12_seekRows_138 rfl rfl ?_
              refine aw_cV2v hC hSt (t_X12_doMove G l hM _ _ (h6 c1008 r1009 er1009 x1011 ex1011 x1013 ex1013 r1014 er1014 c1015 S1019 eS1019)) w_1212 w_1222 w_1223 w_1224 w_953 rfl rfl (by decide +kernel) ⟨Nat.le_of_ble_eq_true rfl, Nat.le_of_ble_eq_true rfl⟩ (ms_lt 64 (by decide) hM) (ms_k 64 12 0 (by decide) hM) rfl (Nat.le_of_ble_eq_true rfl) dX12_seekRows_139 ⟨Nat.zero_le _, Nat.zero_le _⟩ ?_
              generalize er1020 : f_X12_doMove S1019 64 r1014.2.2.2.2 r1014.2.2.1 = r1020
              have hM : MS r1020 := MS.of (by rw [← er1020]; exact q_X12_doMove _ _ _ _) hM
              refine aw_iinc (v := (r1014.2.2.1 + (1 : Int32))) hC 3 [(3, .int _), (0, .ref 64), (1, .int _), (2, .int _), (4, .int _), (5, .int _)] dX12_seekRows_142 rfl rfl (by decide) rfl ?_
              refine aw_aload_n hC 1 dX12_seekRows_145 rfl rfl ?_
              refine aw_getP (b := 73) hC hSt 34 (ms_lt 64 (by decide) hM) (ms_k 64 12 0 (by decide) hM) rfl (by decide) w_927 rfl (ms_p 34 73 (by decide) hM) dX12_seekRows_146 ?_
              refine aw_iload_n hC 0 dX12_seekRows_149 rfl rfl ?_
              refine aw_iconst (v := -1) hC dX12_seekRows_150 (by decide) ?_
              refine aw_iast hC hSt (ms_lt 73 (by decide) hM) (ms_k 73 14 6 (by decide) hM) (vp_len (n := 6) (ms_l 73 14 6 (by decide) hM) (h7 c1008 r1009 er1009 x1011 ex1011 x1013 ex1013 r1014 er1014 c1015 S1019 eS1019 r1020 er1020)) dX12_seekRows_151 ?_
              generalize eS1021 : (sI r1020 73 (r1014.2.2.1 + (1 : Int32)).toNatClampNeg (-1 : Int32)) = S1021
              have hM : MS S1021 := MS.of (by rw [← eS1021]; exact shp_sI _ _ _ _) hM
              refine aw_goto hC 168 dX12_seekRows_152 (by decide) ?_
              subst eS1021
              subst er1020
              subst eS1019
              simp only [bd_def, if_neg c1015] at Jc1015 ⊢
              exact Jc1015
        · refine aw_icmp_ne hC 84 dX12_seekRows_77 (by decide) (fun c1012 => ?_) (fun c1012 => ?_)
          · refine aw_aload_n hC 1 dX12_seekRows_84 rfl rfl ?_
            refine aw_getP (b := 73) hC hSt 34 (ms_lt 64 (by decide) hM) (ms_k 64 12 0 (by decide) hM) rfl (by decide) w_927 rfl (ms_p 34 73 (by decide) hM) dX12_seekRows_85 ?_
            refine aw_iload_n hC 4 dX12_seekRows_88 rfl rfl ?_
            refine aw_iald hC hSt (ms_lt 73 (by decide) hM) (ms_k 73 14 6 (by decide) hM) (vp_len (n := 6) (ms_l 73 14 6 (by decide) hM) (h2 c1008 r1009 er1009 x1011 ex1011 c1012)) dX12_seekRows_89 ?_
            refine aw_iconst (v := 1) hC dX12_seekRows_90 (by decide) ?_
            refine aw_iadd hC dX12_seekRows_91 ?_
            simp only [bd_def, if_neg c1012] at Jc1012 ⊢
            exact Jc1012
          · refine aw_iload_n hC 3 dX12_seekRows_80 rfl rfl ?_
            refine aw_goto hC 92 dX12_seekRows_81 (by decide) ?_
            simp only [bd_def, if_pos c1012] at Jc1012 ⊢
            exact Jc1012
      · refine aw_if_lt hC 72 dX12_seekRows_65 (by decide) (fun c1010 => ?_) (fun c1010 => ?_)
        · refine aw_iconst (v := 0) hC dX12_seekRows_72 (by decide) ?_
          simp only [bd_def, if_pos c1010] at Jc1010 ⊢
          exact Jc1010
        · refine aw_iconst (v := 1) hC dX12_seekRows_68 (by decide) ?_
          refine aw_goto hC 73 dX12_seekRows_69 (by decide) ?_
          simp only [bd_def, if_neg c1010] at Jc1010 ⊢
          exact Jc1010
noncomputable def f_X12_seekRows (S : HSt) (_o : Nat) (a1 : Int32) : HSt := bd (((6 : Int32) + ((2 : Int32) * (gI S 68 (2 : Int32).toNatClampNeg)))) fun x1 => bd ((sI S 64 38 (-1000000 : Int32))) fun S2 => bd (f_X12_layLive S2 64) fun r3 => bd (f_X12_keepPath r3 64 (0 : Int32)) fun r4 => bd ((sI r4 74 (0 : Int32).toNatClampNeg (0 : Int32))) fun S5 => bd ((sI S5 75 (0 : Int32).toNatClampNeg (0 : Int32))) fun S6 => bd ((sI S6 73 (0 : Int32).toNatClampNeg (-1 : Int32))) fun S7 => bd (L_X12_seekRows_50 FU S7 a1 x1 (0 : Int32)) fun r8 => r8.2.2.2
def p_X12_seekRows (S : HSt) (_o : Nat) (a1 : Int32) : Prop := (∀ x1 : Int32, ((6 : Int32) + ((2 : Int32) * (gI S 68 (2 : Int32).toNatClampNeg))) = x1 → ∀ S2 : HSt, (sI S 64 38 (-1000000 : Int32)) = S2 → ∀ r3, f_X12_layLive S2 64 = r3 → p_X12_keepPath r3 64 (0 : Int32)) ∧ (∀ x1 : Int32, ((6 : Int32) + ((2 : Int32) * (gI S 68 (2 : Int32).toNatClampNeg))) = x1 → ∀ S2 : HSt, (sI S 64 38 (-1000000 : Int32)) = S2 → ∀ r3, f_X12_layLive S2 64 = r3 → ∀ r4, f_X12_keepPath r3 64 (0 : Int32) = r4 → ∀ S5 : HSt, (sI r4 74 (0 : Int32).toNatClampNeg (0 : Int32)) = S5 → ∀ S6 : HSt, (sI S5 75 (0 : Int32).toNatClampNeg (0 : Int32)) = S6 → ∀ S7 : HSt, (sI S6 73 (0 : Int32).toNatClampNeg (-1 : Int32)) = S7 → T_X12_seekRows_50 FU S7 a1 x1 (0 : Int32))
set_option maxRecDepth 100000 in
theorem t_X12_seekRows (G : GG) (l : Launch) {S : HSt} (hM : MS S) (a1 : Int32) (hp : p_X12_seekRows S 64 a1) : AM G l yX12_seekRows cX12_seekRows 6 none (rmD 6 0 0) 0 0 [.ref 64, .int a1] S (FP none (f_X12_seekRows S 64 a1)) := by
  obtain ⟨h0, h1⟩ := hp
  refine AM.mk (by decide) (Nat.le_of_ble_eq_true rfl) ?_
  intro p e s m below meth c hC hSt _
  refine aw_bipush (v := 6) hC dX12_seekRows_0 (by decide) ?_
  refine aw_iconst (v := 2) hC dX12_seekRows_2 (by decide) ?_
  refine aw_aload_n hC 0 dX12_seekRows_3 rfl rfl ?_
  refine aw_getP (b := 68) hC hSt 5 (ms_lt 64 (by decide) hM) (ms_k 64 12 0 (by decide) hM) rfl (by decide) w_920 rfl (ms_p 5 68 (by decide) hM) dX12_seekRows_4 ?_
  refine aw_iconst (v := 2) hC dX12_seekRows_7 (by decide) ?_
  refine aw_iald hC hSt (ms_lt 68 (by decide) hM) (ms_k 68 14 172 (by decide) hM) (vp_len (n := 172) (ms_l 68 14 172 (by decide) hM) (by unfold vp_in; decide)) dX12_seekRows_8 ?_
  refine aw_imul hC dX12_seekRows_9 ?_
  refine aw_iadd hC dX12_seekRows_10 ?_
  refine aw_istore_n hC [(2, .int _), (0, .ref 64), (1, .int _)] dX12_seekRows_11 rfl (by decide) rfl ?_
  generalize ex1 : ((6 : Int32) + ((2 : Int32) * (gI S 68 (2 : Int32).toNatClampNeg))) = x1
  refine aw_iconst (v := 0) hC dX12_seekRows_12 (by decide) ?_
  refine aw_istore_n hC [(3, .int _), (2, .int _), (0, .ref 64), (1, .int _)] dX12_seekRows_13 rfl (by decide) rfl ?_
  refine aw_aload_n hC 2 dX12_seekRows_14 rfl rfl ?_
  refine aw_ldc (v := -1000000) hC w_923 dX12_seekRows_15 ?_
  refine aw_putI hC hSt 38 (ms_lt 64 (by decide) hM) (ms_k 64 12 0 (by decide) hM) rfl (by decide) w_1214 rfl rfl rfl rfl dX12_seekRows_17 ?_
  generalize eS2 : (sI S 64 38 (-1000000 : Int32)) = S2
  have hM : MS S2 := MS.of (by rw [← eS2]; exact shp_sI _ _ _ _) hM
  refine aw_aload_n hC 2 dX12_seekRows_20 rfl rfl ?_
  refine aw_cV0v hC hSt (t_X12_layLive G l hM ) w_1091 w_1152 w_1153 w_1154 w_953 rfl rfl (by decide +kernel) ⟨Nat.le_of_ble_eq_true rfl, Nat.le_of_ble_eq_true rfl⟩ (ms_lt 64 (by decide) hM) (ms_k 64 12 0 (by decide) hM) rfl (Nat.le_of_ble_eq_true rfl) dX12_seekRows_21 ⟨Nat.zero_le _, Nat.zero_le _⟩ ?_
  generalize er3 : f_X12_layLive S2 64 = r3
  have hM : MS r3 := MS.of (by rw [← er3]; exact q_X12_layLive _ _) hM
  refine aw_aload_n hC 2 dX12_seekRows_24 rfl rfl ?_
  refine aw_iconst (v := 0) hC dX12_seekRows_25 (by decide) ?_
  refine aw_cV1v hC hSt (t_X12_keepPath G l hM _ (h0 x1 ex1 S2 eS2 r3 er3)) w_1207 w_1209 w_1210 w_1211 w_953 rfl rfl (by decide +kernel) ⟨Nat.le_of_ble_eq_true rfl, Nat.le_of_ble_eq_true rfl⟩ (ms_lt 64 (by decide) hM) (ms_k 64 12 0 (by decide) hM) rfl (Nat.le_of_ble_eq_true rfl) dX12_seekRows_26 ⟨Nat.zero_le _, Nat.zero_le _⟩ ?_
  generalize er4 : f_X12_keepPath r3 64 (0 : Int32) = r4
  have hM : MS r4 := MS.of (by rw [← er4]; exact q_X12_keepPath _ _ _) hM
  refine aw_aload_n hC 2 dX12_seekRows_29 rfl rfl ?_
  refine aw_getP (b := 74) hC hSt 35 (ms_lt 64 (by decide) hM) (ms_k 64 12 0 (by decide) hM) rfl (by decide) w_928 rfl (ms_p 35 74 (by decide) hM) dX12_seekRows_30 ?_
  refine aw_iconst (v := 0) hC dX12_seekRows_33 (by decide) ?_
  refine aw_iconst (v := 0) hC dX12_seekRows_34 (by decide) ?_
  refine aw_iast hC hSt (ms_lt 74 (by decide) hM) (ms_k 74 14 6 (by decide) hM) (vp_len (n := 6) (ms_l 74 14 6 (by decide) hM) (by unfold vp_in; decide)) dX12_seekRows_35 ?_
  generalize eS5 : (sI r4 74 (0 : Int32).toNatClampNeg (0 : Int32)) = S5
  have hM : MS S5 := MS.of (by rw [← eS5]; exact shp_sI _ _ _ _) hM
  refine aw_aload_n hC 2 dX12_seekRows_36 rfl rfl ?_
  refine aw_getP (b := 75) hC hSt 36 (ms_lt 64 (by decide) hM) (ms_k 64 12 0 (by decide) hM) rfl (by decide) w_929 rfl (ms_p 36 75 (by decide) hM) dX12_seekRows_37 ?_
  refine aw_iconst (v := 0) hC dX12_seekRows_40 (by decide) ?_
  refine aw_iconst (v := 0) hC dX12_seekRows_41 (by decide) ?_
  refine aw_iast hC hSt (ms_lt 75 (by decide) hM) (ms_k 75 14 6 (by decide) hM) (vp_len (n := 6) (ms_l 75 14 6 (by decide) hM) (by unfold vp_in; decide)) dX12_seekRows_42 ?_
  generalize eS6 : (sI S5 75 (0 : Int32).toNatClampNeg (0 : Int32)) = S6
  have hM : MS S6 := MS.of (by rw [← eS6]; exact shp_sI _ _ _ _) hM
  refine aw_aload_n hC 2 dX12_seekRows_43 rfl rfl ?_
  refine aw_getP (b := 73) hC hSt 34 (ms_lt 64 (by decide) hM) (ms_k 64 12 0 (by decide) hM) rfl (by decide) w_927 rfl (ms_p 34 73 (by decide) hM) dX12_seekRows_44 ?_
  refine aw_iconst (v := 0) hC dX12_seekRows_47 (by decide) ?_
  refine aw_iconst (v := -1) hC dX12_seekRows_48 (by decide) ?_
  refine aw_iast hC hSt (ms_lt 73 (by decide) hM) (ms_k 73 14 6 (by decide) hM) (vp_len (n := 6) (ms_l 73 14 6 (by decide) hM) (by unfold vp_in; decide)) dX12_seekRows_49 ?_
  generalize eS7 : (sI S6 73 (0 : Int32).toNatClampNeg (-1 : Int32)) = S7
  have hM : MS S7 := MS.of (by rw [← eS7]; exact shp_sI _ _ _ _) hM
  refine aw_sub [2, 3, 1, 0] rfl ?_
  refine l_X12_seekRows_50 hC hSt FU _ _ _ _ hM (h1 x1 ex1 S2 eS2 r3 er3 r4 er4 S5 eS5 S6 eS6 S7 eS7) ?_
  generalize er8 : L_X12_seekRows_50 FU S7 a1 x1 (0 : Int32) = r8
  have hM : MS r8.2.2.2 := MS.of (by rw [← er8]; exact qL_X12_seekRows_50 _ _ _ _ _) hM
  refine aw_vret hC dX12_seekRows_171 (Nat.le_refl _) (Nat.le_refl _) ?_
  exact FP.qV ((bd_eq ex1).trans ((bd_eq eS2).trans ((bd_eq er3).trans ((bd_eq er4).trans ((bd_eq eS5).trans ((bd_eq eS6).trans ((bd_eq eS7).trans ((bd_eq er8).trans (rfl)))))))))
theorem q_X12_seekRows (S : HSt) (_o : Nat) (a1 : Int32) : shp (f_X12_seekRows S _o a1) = shp S := by
  unfold f_X12_seekRows
  repeat' (first | with_reducible rfl | with_reducible refine (q_X12_doMove _ _ _ _).trans ?_ | with_reducible refine (q_X12_keepPath _ _ _).trans ?_ | with_reducible refine (q_X12_layLive _ _).trans ?_ | with_reducible refine (q_X12_layPath _ _ _).trans ?_ | with_reducible refine (q_X12_lookRow _ _ _).trans ?_ | with_reducible refine (qL_X12_seekRows_50 _ _ _ _ _).trans ?_ | with_reducible refine (shp_sI _ _ _ _).trans ?_ | with_reducible refine (shp_sJ _ _ _ _).trans ?_ | with_reducible refine shi ?_ ?_ | with_reducible refine shb (fun _ _ => ?_) | (subst_vars; with_reducible rfl) | (subst_vars; with_reducible refine (q_X12_doMove _ _ _ _).trans ?_) | (subst_vars; with_reducible refine (q_X12_keepPath _ _ _).trans ?_) | (subst_vars; with_reducible refine (q_X12_layLive _ _).trans ?_) | (subst_vars; with_reducible refine (q_X12_layPath _ _ _).trans ?_) | (subst_vars; with_reducible refine (q_X12_lookRow _ _ _).trans ?_) | (subst_vars; with_reducible refine (qL_X12_seekRows_50 _ _ _ _ _).trans ?_) | (subst_vars; with_reducible refine (shp_sI _ _ _ _).trans ?_) | (subst_vars; with_reducible refine (shp_sJ _ _ _ _).trans ?_) | (subst_vars; with_reducible refine shi ?_ ?_) | (subst_vars; with_reducible refine shb (fun _ _ => ?_)))
noncomputable def f_X12_moves (S : HSt) (_o : Nat) (a1 : Int32) (a2 : Int32) : Int64 × HSt := bd ((sI S 64 0 (0 : Int32))) fun S1 => if (f_X12_in S1 a1.toInt64 (1 : Int64) (5 : Int64)) = 0 then (pr ((-9000000000000000001 : Int64)) (S1)) else (if (-1 : Int32) ≤ a2 then (if (gI S1 64 7) = 0 then (pr ((-9000000000000000002 : Int64)) (S1)) else (bd (f_X12_seekRows S1 64 a1) fun r5 => bd ((if a2 = (-1 : Int32) then (gI r5 64 39).toInt64 else (if (gI r5 64 38) ≤ a2 then (-1000000 : Int64) else (gI r5 76 a2.toNatClampNeg).toInt64))) fun x8 => pr (x8) (r5))) else (pr ((-9000000000000000001 : Int64)) (S1)))
def p_X12_moves (S : HSt) (_o : Nat) (a1 : Int32) (a2 : Int32) : Prop := (∀ S1 : HSt, (sI S 64 0 (0 : Int32)) = S1 → (¬ (f_X12_in S1 a1.toInt64 (1 : Int64) (5 : Int64)) = 0) → ((-1 : Int32) ≤ a2) → (¬ (gI S1 64 7) = 0) → p_X12_seekRows S1 64 a1) ∧ (∀ S1 : HSt, (sI S 64 0 (0 : Int32)) = S1 → (¬ (f_X12_in S1 a1.toInt64 (1 : Int64) (5 : Int64)) = 0) → ((-1 : Int32) ≤ a2) → (¬ (gI S1 64 7) = 0) → ∀ r5, f_X12_seekRows S1 64 a1 = r5 → (¬ a2 = (-1 : Int32)) → (¬ (gI r5 64 38) ≤ a2) → vp_in a2 5)
set_option maxRecDepth 100000 in
theorem t_X12_moves (G : GG) (l : Launch) {S : HSt} (hM : MS S) (a1 : Int32) (a2 : Int32) (hp : p_X12_moves S 64 a1 a2) : AM G l yX12_moves cX12_moves 3 (some .long) (rmD 7 0 0) 0 0 [.ref 64, .int a1, .int a2] S (FP (some (.long (f_X12_moves S 64 a1 a2).1)) ((f_X12_moves S 64 a1 a2).2)) := by
  obtain ⟨h0, h1⟩ := hp
  refine AM.mk (by decide) (Nat.le_of_ble_eq_true rfl) ?_
  intro p e s m below meth c hC hSt _
  refine aw_aload_n hC 0 dX12_moves_0 rfl rfl ?_
  refine aw_iconst (v := 0) hC dX12_moves_1 (by decide) ?_
  refine aw_putI hC hSt 0 (ms_lt 64 (by decide) hM) (ms_k 64 12 0 (by decide) hM) rfl (by decide) w_955 rfl rfl rfl rfl dX12_moves_2 ?_
  generalize eS1 : (sI S 64 0 (0 : Int32)) = S1
  have hM : MS S1 := MS.of (by rw [← eS1]; exact shp_sI _ _ _ _) hM
  refine aw_iload_n hC 1 dX12_moves_5 rfl rfl ?_
  refine aw_i2l hC dX12_moves_6 ?_
  refine aw_lconst (v := 1) hC dX12_moves_7 (by decide) ?_
  refine aw_ldc2 (v := 5) hC w_1229 dX12_moves_8 ?_
  refine aw_cS3r hC hSt (t_X12_in G l  _ _ _) w_945 w_951 w_952 w_953 rfl rfl (by decide +kernel) ⟨Nat.le_of_ble_eq_true rfl, Nat.le_of_ble_eq_true rfl⟩ (Nat.le_of_ble_eq_true rfl) dX12_moves_11 ⟨Nat.zero_le _, Nat.zero_le _⟩ ?_
  refine aw_if_eq hC 22 dX12_moves_14 (by decide) (fun c2 => ?_) (fun c2 => ?_)
  · refine aw_ldc2 (v := -9000000000000000001) hC w_957 dX12_moves_22 ?_
    refine aw_lret hC dX12_moves_25 (Nat.le_refl _) (Nat.le_refl _) ?_
    exact FP.qJ ((bd_eq eS1).trans ((if_pos c2).trans (rfl)))
  · refine aw_iload_n hC 2 dX12_moves_17 rfl rfl ?_
    refine aw_iconst (v := -1) hC dX12_moves_18 (by decide) ?_
    refine aw_icmp_ge hC 26 dX12_moves_19 (by decide) (fun c3 => ?_) (fun c3 => ?_)
    · refine aw_aload_n hC 0 dX12_moves_26 rfl rfl ?_
      refine aw_getI hC hSt 7 (ms_lt 64 (by decide) hM) (ms_k 64 12 0 (by decide) hM) rfl (by decide) w_1051 rfl dX12_moves_27 ?_
      refine aw_if_ne hC 37 dX12_moves_30 (by decide) (fun c4 => ?_) (fun c4 => ?_)
      · refine aw_aload_n hC 0 dX12_moves_37 rfl rfl ?_
        refine aw_iload_n hC 1 dX12_moves_38 rfl rfl ?_
        refine aw_cV1v hC hSt (t_X12_seekRows G l hM _ (h0 S1 eS1 c2 c3 c4)) w_1228 w_1230 w_1231 w_1232 w_953 rfl rfl (by decide +kernel) ⟨Nat.le_of_ble_eq_true rfl, Nat.le_of_ble_eq_true rfl⟩ (ms_lt 64 (by decide) hM) (ms_k 64 12 0 (by decide) hM) rfl (Nat.le_of_ble_eq_true rfl) dX12_moves_39 ⟨Nat.zero_le _, Nat.zero_le _⟩ ?_
        generalize er5 : f_X12_seekRows S1 64 a1 = r5
        have hM : MS r5 := MS.of (by rw [← er5]; exact q_X12_seekRows _ _ _) hM
        refine aw_iload_n hC 2 dX12_moves_42 rfl rfl ?_
        refine aw_iconst (v := -1) hC dX12_moves_43 (by decide) ?_
        refine aw_cut (S' := r5) (pc' := 76) (lv' := [(0, .ref 64), (1, .int a1), (2, .int a2)]) (st' := [.long (if a2 = (-1 : Int32) then (gI r5 64 39).toInt64 else (if (gI r5 64 38) ≤ a2 then (-1000000 : Int64) else (gI r5 76 a2.toNatClampNeg).toInt64))]) ?_ (fun Jc6 => ?_)
        · generalize ex8 : (if a2 = (-1 : Int32) then (gI r5 64 39).toInt64 else (if (gI r5 64 38) ≤ a2 then (-1000000 : Int64) else (gI r5 76 a2.toNatClampNeg).toInt64)) = x8
          refine aw_lret hC dX12_moves_76 (Nat.le_refl _) (Nat.le_refl _) ?_
          exact FP.qJ ((bd_eq eS1).trans ((if_neg c2).trans ((if_pos c3).trans ((if_neg c4).trans ((bd_eq er5).trans ((bd_eq ex8).trans (rfl)))))))
        · refine aw_icmp_ne hC 55 dX12_moves_44 (by decide) (fun c6 => ?_) (fun c6 => ?_)
          · refine aw_iload_n hC 2 dX12_moves_55 rfl rfl ?_
            refine aw_aload_n hC 0 dX12_moves_56 rfl rfl ?_
            refine aw_getI hC hSt 38 (ms_lt 64 (by decide) hM) (ms_k 64 12 0 (by decide) hM) rfl (by decide) w_1214 rfl dX12_moves_57 ?_
            refine aw_icmp_ge hC 73 dX12_moves_60 (by decide) (fun c7 => ?_) (fun c7 => ?_)
            · refine aw_ldc2 (v := -1000000) hC w_1176 dX12_moves_73 ?_
              simp only [bd_def, if_neg c6, if_pos c7] at Jc6 ⊢
              exact Jc6
            · refine aw_aload_n hC 0 dX12_moves_63 rfl rfl ?_
              refine aw_getP (b := 76) hC hSt 37 (ms_lt 64 (by decide) hM) (ms_k 64 12 0 (by decide) hM) rfl (by decide) w_930 rfl (ms_p 37 76 (by decide) hM) dX12_moves_64 ?_
              refine aw_iload_n hC 2 dX12_moves_67 rfl rfl ?_
              refine aw_iald hC hSt (ms_lt 76 (by decide) hM) (ms_k 76 14 5 (by decide) hM) (vp_len (n := 5) (ms_l 76 14 5 (by decide) hM) (h1 S1 eS1 c2 c3 c4 r5 er5 c6 c7)) dX12_moves_68 ?_
              refine aw_i2l hC dX12_moves_69 ?_
              refine aw_goto hC 76 dX12_moves_70 (by decide) ?_
              simp only [bd_def, if_neg c6, if_neg c7] at Jc6 ⊢
              exact Jc6
          · refine aw_aload_n hC 0 dX12_moves_47 rfl rfl ?_
            refine aw_getI hC hSt 39 (ms_lt 64 (by decide) hM) (ms_k 64 12 0 (by decide) hM) rfl (by decide) w_1215 rfl dX12_moves_48 ?_
            refine aw_i2l hC dX12_moves_51 ?_
            refine aw_goto hC 76 dX12_moves_52 (by decide) ?_
            simp only [bd_def, if_pos c6] at Jc6 ⊢
            exact Jc6
      · refine aw_ldc2 (v := -9000000000000000002) hC w_1151 dX12_moves_33 ?_
        refine aw_lret hC dX12_moves_36 (Nat.le_refl _) (Nat.le_refl _) ?_
        exact FP.qJ ((bd_eq eS1).trans ((if_neg c2).trans ((if_pos c3).trans ((if_pos c4).trans (rfl)))))
    · refine aw_ldc2 (v := -9000000000000000001) hC w_957 dX12_moves_22 ?_
      refine aw_lret hC dX12_moves_25 (Nat.le_refl _) (Nat.le_refl _) ?_
      exact FP.qJ ((bd_eq eS1).trans ((if_neg c2).trans ((if_neg c3).trans (rfl))))
theorem q_X12_moves (S : HSt) (_o : Nat) (a1 : Int32) (a2 : Int32) : shp ((f_X12_moves S _o a1 a2).2) = shp S := by
  unfold f_X12_moves
  repeat' (first | with_reducible refine shpr1 ?_ | with_reducible rfl | with_reducible refine (q_X12_seekRows _ _ _).trans ?_ | with_reducible refine (shp_sI _ _ _ _).trans ?_ | with_reducible refine (shp_sJ _ _ _ _).trans ?_ | with_reducible refine shi ?_ ?_ | with_reducible refine shb (fun _ _ => ?_) | with_reducible refine shiP (fun q : Int64 × HSt => q.2) ?_ ?_ | with_reducible refine shbP (fun q : Int64 × HSt => q.2) (fun _ _ => ?_) | (subst_vars; with_reducible rfl) | (subst_vars; with_reducible refine (q_X12_seekRows _ _ _).trans ?_) | (subst_vars; with_reducible refine (shp_sI _ _ _ _).trans ?_) | (subst_vars; with_reducible refine (shp_sJ _ _ _ _).trans ?_) | (subst_vars; with_reducible refine shi ?_ ?_) | (subst_vars; with_reducible refine shb (fun _ _ => ?_)))
noncomputable def F_X12_placeOf (S : HSt) (a1 : Int32) (a2 : Int32) (a3 : Int32) : Int32 × HSt := pr ((((((16 : Int32) * a1) + a2) * (201 : Int32)) + a3)) (S)
noncomputable def f_X12_placeOf (S : HSt) (a1 : Int32) (a2 : Int32) (a3 : Int32) : Int32 := (F_X12_placeOf S a1 a2 a3).1
set_option maxRecDepth 100000 in
theorem t_X12_placeOf (G : GG) (l : Launch) {S : HSt} (a1 : Int32) (a2 : Int32) (a3 : Int32)  : AM G l yX12_placeOf cX12_placeOf 3 (some .int) (rmD 0 0 0) 0 0 [.int a1, .int a2, .int a3] S (FP (some (.int (f_X12_placeOf S a1 a2 a3))) (S)) := by
  refine AM.mk (by decide) (Nat.le_of_ble_eq_true rfl) ?_
  intro p e s m below meth c hC hSt _
  refine aw_bipush (v := 16) hC dX12_placeOf_0 (by decide) ?_
  refine aw_iload_n hC 0 dX12_placeOf_2 rfl rfl ?_
  refine aw_imul hC dX12_placeOf_3 ?_
  refine aw_iload_n hC 1 dX12_placeOf_4 rfl rfl ?_
  refine aw_iadd hC dX12_placeOf_5 ?_
  refine aw_sipush (v := 201) hC dX12_placeOf_6 (by decide) ?_
  refine aw_imul hC dX12_placeOf_9 ?_
  refine aw_iload_n hC 2 dX12_placeOf_10 rfl rfl ?_
  refine aw_iadd hC dX12_placeOf_11 ?_
  refine aw_iret hC dX12_placeOf_12 (Nat.le_refl _) (Nat.le_refl _) ?_
  exact FP.pI (rfl)
noncomputable def L_X12_goOn_12 : Nat → HSt → Int32 → Int32 → Int32 → Int32 → Int32 × Int32 × Int32 × Int32 × HSt
  | 0, S, v1, v2, v3, v4 => (v1, v2, v3, v4, S)
  | n + 1, S, v1, v2, v3, v4 =>
    if (582096 : Int32) ≤ v4 then ((pr (v1) (pr (v2) (pr (v3) (pr (v4) (S)))))) else (bd ((sI S 78 v4.toNatClampNeg (vp_nar .boolean (0 : Int32)))) fun S1003 => L_X12_goOn_12 n S1003 v1 v2 v3 (v4 + (1 : Int32)))
def T_X12_goOn_12 : Nat → HSt → Int32 → Int32 → Int32 → Int32 → Prop
  | 0, _, _, _, _, _ => False
  | n + 1, S, v1, v2, v3, v4 => ((¬ (582096 : Int32) ≤ v4) → vp_in v4 582096) ∧ ((¬ (582096 : Int32) ≤ v4) → ∀ S1003 : HSt, (sI S 78 v4.toNatClampNeg (vp_nar .boolean (0 : Int32))) = S1003 → T_X12_goOn_12 n S1003 v1 v2 v3 (v4 + (1 : Int32)))
theorem qL_X12_goOn_12 : ∀ (n : Nat) (S : HSt) (v1 : Int32) (v2 : Int32) (v3 : Int32) (v4 : Int32), shp (L_X12_goOn_12 n S v1 v2 v3 v4).2.2.2.2 = shp S := by
  intro n
  induction n with
  | zero => intros; rfl
  | succ n ih =>
    intro S v1 v2 v3 v4
    unfold L_X12_goOn_12
    repeat' (first | with_reducible refine shpr4 ?_ | with_reducible rfl | with_reducible refine (ih _ _ _ _ _).trans ?_ | with_reducible refine (q_X12_doTick _ _ _ _ _ _).trans ?_ | with_reducible refine (shp_sI _ _ _ _).trans ?_ | with_reducible refine (shp_sJ _ _ _ _).trans ?_ | with_reducible refine shi ?_ ?_ | with_reducible refine shb (fun _ _ => ?_) | with_reducible refine shiP (fun q : Int32 × Int32 × Int32 × Int32 × HSt => q.2.2.2.2) ?_ ?_ | with_reducible refine shbP (fun q : Int32 × Int32 × Int32 × Int32 × HSt => q.2.2.2.2) (fun _ _ => ?_) | (subst_vars; with_reducible rfl) | (subst_vars; with_reducible refine (ih _ _ _ _ _).trans ?_) | (subst_vars; with_reducible refine (q_X12_doTick _ _ _ _ _ _).trans ?_) | (subst_vars; with_reducible refine (shp_sI _ _ _ _).trans ?_) | (subst_vars; with_reducible refine (shp_sJ _ _ _ _).trans ?_) | (subst_vars; with_reducible refine shi ?_ ?_) | (subst_vars; with_reducible refine shb (fun _ _ => ?_)))
set_option maxRecDepth 100000 in
theorem l_X12_goOn_12 {p : Program} {l : Launch} {e : Env} {s : State} {m : MethodId} {args : Array Value} {below : List Frame} {meth : Method} {c : Code} {G : GG} {Q : State → Prop} (hC : ACx p s m args meth c cX12_goOn RX12 8 (some .int)) (hSt : St G s)  : ∀ (n : Nat) (S : HSt) (v1 : Int32) (v2 : Int32) (v3 : Int32) (v4 : Int32), MS S → T_X12_goOn_12 n S v1 v2 v3 v4 → AW p l e (rmD 3 0 0) s m args below meth c G 8 Q (L_X12_goOn_12 n S v1 v2 v3 v4).2.2.2.2 0 0 33 [(0, .ref 64), (1, .int (L_X12_goOn_12 n S v1 v2 v3 v4).1), (2, .int (L_X12_goOn_12 n S v1 v2 v3 v4).2.1), (3, .int (L_X12_goOn_12 n S v1 v2 v3 v4).2.2.1), (4, .int (L_X12_goOn_12 n S v1 v2 v3 v4).2.2.2.1)] [] → AW p l e (rmD 3 0 0) s m args below meth c G 8 Q S 0 0 12 [(0, .ref 64), (1, .int v1), (2, .int v2), (3, .int v3), (4, .int v4)] [] := by
  intro n
  induction n with
  | zero => intro S v1 v2 v3 v4 _ hT; exact hT.elim
  | succ n ih =>
    intro S v1 v2 v3 v4 hM hT hk
    unfold T_X12_goOn_12 at hT
    obtain ⟨h0, h1⟩ := hT
    refine aw_iload hC 4 dX12_goOn_12 rfl ?_
    refine aw_ldc (v := 582096) hC w_931 dX12_goOn_14 ?_
    refine aw_icmp_ge hC 33 dX12_goOn_16 (by decide) (fun c1002 => ?_) (fun c1002 => ?_)
    · refine aw_sub [0, 1, 2, 3, 4] rfl ?_
      have E : L_X12_goOn_12 (n + 1) S v1 v2 v3 v4 = _ := (if_pos c1002).trans (rfl)
      rw [E] at hk
      exact hk
    · refine aw_aload_n hC 0 dX12_goOn_19 rfl rfl ?_
      refine aw_getP (b := 78) hC hSt 41 (ms_lt 64 (by decide) hM) (ms_k 64 12 0 (by decide) hM) rfl (by decide) w_934 rfl (ms_p 41 78 (by decide) hM) dX12_goOn_20 ?_
      refine aw_iload hC 4 dX12_goOn_23 rfl ?_
      refine aw_iconst (v := 0) hC dX12_goOn_25 (by decide) ?_
      refine aw_zast hC hSt (ms_lt 78 (by decide) hM) (ms_k 78 16 582096 (by decide) hM) (vp_len (n := 582096) (ms_l 78 16 582096 (by decide) hM) (h0 c1002)) dX12_goOn_26 ?_
      generalize eS1003 : (sI S 78 v4.toNatClampNeg (vp_nar .boolean (0 : Int32))) = S1003
      have hM : MS S1003 := MS.of (by rw [← eS1003]; exact shp_sI _ _ _ _) hM
      refine aw_iinc (v := (v4 + (1 : Int32))) hC 4 [(4, .int _), (0, .ref 64), (1, .int _), (2, .int _), (3, .int _)] dX12_goOn_27 rfl rfl (by decide) rfl ?_
      refine aw_goto hC 12 dX12_goOn_30 (by decide) ?_
      refine aw_sub [1, 2, 3, 4, 0] rfl ?_
      have hTn := (h1 c1002 S1003 eS1003)
      have hMn : MS S1003 := hM
      have E : L_X12_goOn_12 (n + 1) S v1 v2 v3 v4 = _ := (if_neg c1002).trans ((bd_eq eS1003).trans (rfl))
      rw [E] at hk
      exact ih _ _ _ _ _ hMn hTn hk
noncomputable def L_X12_goOn_86 : Nat → HSt → Int32 → Int32 → Int32 → Int32 → Int32 → Int32 → Int32 → Int32 × Int32 × Int32 × Int32 × Int32 × Int32 × Int32 × HSt
  | 0, S, v1, v2, v3, v4, v5, v6, v7 => (v1, v2, v3, v4, v5, v6, v7, S)
  | n + 1, S, v1, v2, v3, v4, v5, v6, v7 =>
    if (6 : Int32) ≤ v7 then ((pr (v1) (pr (v2) (pr (v3) (pr (v4) (pr (v5) (pr (v6) (pr (v7) (S))))))))) else (bd ((sI S 64 20 v6)) fun S4008 => bd ((sI S4008 64 21 v5)) fun S4009 => bd ((sI S4009 64 23 (v2 + v4))) fun S4010 => bd ((sI S4010 64 22 (0 : Int32))) fun S4011 => bd ((if (v7 - v7 / (2 : Int32) * (2 : Int32)) = 0 then (4 : Int32) else (8 : Int32))) fun x4013 => bd (f_X12_doTick S4011 64 (0 : Int32) ((v7 / (2 : Int32)) + (1 : Int32)) x4013 (-1000000 : Int32)) fun r4014 => bd ((sI r4014 78 (f_X12_placeOf r4014 ((gI r4014 64 23) - v2) (gI r4014 64 21) (gI r4014 64 20)).toNatClampNeg (vp_nar .boolean (1 : Int32)))) fun S4015 => bd ((if (gI S4015 64 20) ≤ v3 then v3 else (gI S4015 64 20))) fun x4017 => L_X12_goOn_86 n S4015 v1 v2 x4017 v4 v5 v6 (v7 + (1 : Int32)))
def T_X12_goOn_86 : Nat → HSt → Int32 → Int32 → Int32 → Int32 → Int32 → Int32 → Int32 → Prop
  | 0, _, _, _, _, _, _, _, _ => False
  | n + 1, S, v1, v2, v3, v4, v5, v6, v7 => ((¬ (6 : Int32) ≤ v7) → ∀ S4008 : HSt, (sI S 64 20 v6) = S4008 → ∀ S4009 : HSt, (sI S4008 64 21 v5) = S4009 → ∀ S4010 : HSt, (sI S4009 64 23 (v2 + v4)) = S4010 → ∀ S4011 : HSt, (sI S4010 64 22 (0 : Int32)) = S4011 → ∀ x4013 : Int32, (if (v7 - v7 / (2 : Int32) * (2 : Int32)) = 0 then (4 : Int32) else (8 : Int32)) = x4013 → p_X12_doTick S4011 64 (0 : Int32) ((v7 / (2 : Int32)) + (1 : Int32)) x4013 (-1000000 : Int32)) ∧ ((¬ (6 : Int32) ≤ v7) → ∀ S4008 : HSt, (sI S 64 20 v6) = S4008 → ∀ S4009 : HSt, (sI S4008 64 21 v5) = S4009 → ∀ S4010 : HSt, (sI S4009 64 23 (v2 + v4)) = S4010 → ∀ S4011 : HSt, (sI S4010 64 22 (0 : Int32)) = S4011 → ∀ x4013 : Int32, (if (v7 - v7 / (2 : Int32) * (2 : Int32)) = 0 then (4 : Int32) else (8 : Int32)) = x4013 → ∀ r4014, f_X12_doTick S4011 64 (0 : Int32) ((v7 / (2 : Int32)) + (1 : Int32)) x4013 (-1000000 : Int32) = r4014 → vp_in (f_X12_placeOf r4014 ((gI r4014 64 23) - v2) (gI r4014 64 21) (gI r4014 64 20)) 582096) ∧ ((¬ (6 : Int32) ≤ v7) → ∀ S4008 : HSt, (sI S 64 20 v6) = S4008 → ∀ S4009 : HSt, (sI S4008 64 21 v5) = S4009 → ∀ S4010 : HSt, (sI S4009 64 23 (v2 + v4)) = S4010 → ∀ S4011 : HSt, (sI S4010 64 22 (0 : Int32)) = S4011 → ∀ x4013 : Int32, (if (v7 - v7 / (2 : Int32) * (2 : Int32)) = 0 then (4 : Int32) else (8 : Int32)) = x4013 → ∀ r4014, f_X12_doTick S4011 64 (0 : Int32) ((v7 / (2 : Int32)) + (1 : Int32)) x4013 (-1000000 : Int32) = r4014 → ∀ S4015 : HSt, (sI r4014 78 (f_X12_placeOf r4014 ((gI r4014 64 23) - v2) (gI r4014 64 21) (gI r4014 64 20)).toNatClampNeg (vp_nar .boolean (1 : Int32))) = S4015 → ∀ x4017 : Int32, (if (gI S4015 64 20) ≤ v3 then v3 else (gI S4015 64 20)) = x4017 → T_X12_goOn_86 n S4015 v1 v2 x4017 v4 v5 v6 (v7 + (1 : Int32)))
theorem qL_X12_goOn_86 : ∀ (n : Nat) (S : HSt) (v1 : Int32) (v2 : Int32) (v3 : Int32) (v4 : Int32) (v5 : Int32) (v6 : Int32) (v7 : Int32), shp (L_X12_goOn_86 n S v1 v2 v3 v4 v5 v6 v7).2.2.2.2.2.2.2 = shp S := by
  intro n
  induction n with
  | zero => intros; rfl
  | succ n ih =>
    intro S v1 v2 v3 v4 v5 v6 v7
    unfold L_X12_goOn_86
    repeat' (first | with_reducible refine shpr7 ?_ | with_reducible rfl | with_reducible refine (ih _ _ _ _ _ _ _ _).trans ?_ | with_reducible refine (q_X12_doTick _ _ _ _ _ _).trans ?_ | with_reducible refine (qL_X12_goOn_12 _ _ _ _ _ _).trans ?_ | with_reducible refine (shp_sI _ _ _ _).trans ?_ | with_reducible refine (shp_sJ _ _ _ _).trans ?_ | with_reducible refine shi ?_ ?_ | with_reducible refine shb (fun _ _ => ?_) | with_reducible refine shiP (fun q : Int32 × Int32 × Int32 × Int32 × Int32 × Int32 × Int32 × HSt => q.2.2.2.2.2.2.2) ?_ ?_ | with_reducible refine shbP (fun q : Int32 × Int32 × Int32 × Int32 × Int32 × Int32 × Int32 × HSt => q.2.2.2.2.2.2.2) (fun _ _ => ?_) | (subst_vars; with_reducible rfl) | (subst_vars; with_reducible refine (ih _ _ _ _ _ _ _ _).trans ?_) | (subst_vars; with_reducible refine (q_X12_doTick _ _ _ _ _ _).trans ?_) | (subst_vars; with_reducible refine (qL_X12_goOn_12 _ _ _ _ _ _).trans ?_) | (subst_vars; with_reducible refine (shp_sI _ _ _ _).trans ?_) | (subst_vars; with_reducible refine (shp_sJ _ _ _ _).trans ?_) | (subst_vars; with_reducible refine shi ?_ ?_) | (subst_vars; with_reducible refine shb (fun _ _ => ?_)))
set_option maxRecDepth 100000 in
theorem l_X12_goOn_86 {p : Program} {l : Launch} {e : Env} {s : State} {m : MethodId} {args : Array Value} {below : List Frame} {meth : Method} {c : Code} {G : GG} {Q : State → Prop} (hC : ACx p s m args meth c cX12_goOn RX12 8 (some .int)) (hSt : St G s)  : ∀ (n : Nat) (S : HSt) (v1 : Int32) (v2 : Int32) (v3 : Int32) (v4 : Int32) (v5 : Int32) (v6 : Int32) (v7 : Int32), MS S → T_X12_goOn_86 n S v1 v2 v3 v4 v5 v6 v7 → AW p l e (rmD 3 0 0) s m args below meth c G 8 Q (L_X12_goOn_86 n S v1 v2 v3 v4 v5 v6 v7).2.2.2.2.2.2.2 0 0 190 [(0, .ref 64), (1, .int (L_X12_goOn_86 n S v1 v2 v3 v4 v5 v6 v7).1), (2, .int (L_X12_goOn_86 n S v1 v2 v3 v4 v5 v6 v7).2.1), (3, .int (L_X12_goOn_86 n S v1 v2 v3 v4 v5 v6 v7).2.2.1), (4, .int (L_X12_goOn_86 n S v1 v2 v3 v4 v5 v6 v7).2.2.2.1), (5, .int (L_X12_goOn_86 n S v1 v2 v3 v4 v5 v6 v7).2.2.2.2.1), (6, .int (L_X12_goOn_86 n S v1 v2 v3 v4 v5 v6 v7).2.2.2.2.2.1), (7, .int (L_X12_goOn_86 n S v1 v2 v3 v4 v5 v6 v7).2.2.2.2.2.2.1)] [] → AW p l e (rmD 3 0 0) s m args below meth c G 8 Q S 0 0 86 [(0, .ref 64), (1, .int v1), (2, .int v2), (3, .int v3), (4, .int v4), (5, .int v5), (6, .int v6), (7, .int v7)] [] := by
  intro n
  induction n with
  | zero => intro S v1 v2 v3 v4 v5 v6 v7 _ hT; exact hT.elim
  | succ n ih =>
    intro S v1 v2 v3 v4 v5 v6 v7 hM hT hk
    unfold T_X12_goOn_86 at hT
    obtain ⟨h0, h1, h2⟩ := hT
    refine aw_iload hC 7 dX12_goOn_86 rfl ?_
    refine aw_bipush (v := 6) hC dX12_goOn_88 (by decide) ?_
    refine aw_icmp_ge hC 190 dX12_goOn_90 (by decide) (fun c4007 => ?_) (fun c4007 => ?_)
    · refine aw_sub [0, 1, 2, 3, 4, 5, 6, 7] rfl ?_
      have E : L_X12_goOn_86 (n + 1) S v1 v2 v3 v4 v5 v6 v7 = _ := (if_pos c4007).trans (rfl)
      rw [E] at hk
      exact hk
    · refine aw_aload_n hC 0 dX12_goOn_93 rfl rfl ?_
      refine aw_iload hC 6 dX12_goOn_94 rfl ?_
      refine aw_putI hC hSt 20 (ms_lt 64 (by decide) hM) (ms_k 64 12 0 (by decide) hM) rfl (by decide) w_1032 rfl rfl rfl rfl dX12_goOn_96 ?_
      generalize eS4008 : (sI S 64 20 v6) = S4008
      have hM : MS S4008 := MS.of (by rw [← eS4008]; exact shp_sI _ _ _ _) hM
      refine aw_aload_n hC 0 dX12_goOn_99 rfl rfl ?_
      refine aw_iload hC 5 dX12_goOn_100 rfl ?_
      refine aw_putI hC hSt 21 (ms_lt 64 (by decide) hM) (ms_k 64 12 0 (by decide) hM) rfl (by decide) w_1033 rfl rfl rfl rfl dX12_goOn_102 ?_
      generalize eS4009 : (sI S4008 64 21 v5) = S4009
      have hM : MS S4009 := MS.of (by rw [← eS4009]; exact shp_sI _ _ _ _) hM
      refine aw_aload_n hC 0 dX12_goOn_105 rfl rfl ?_
      refine aw_iload_n hC 2 dX12_goOn_106 rfl rfl ?_
      refine aw_iload hC 4 dX12_goOn_107 rfl ?_
      refine aw_iadd hC dX12_goOn_109 ?_
      refine aw_putI hC hSt 23 (ms_lt 64 (by decide) hM) (ms_k 64 12 0 (by decide) hM) rfl (by decide) w_1035 rfl rfl rfl rfl dX12_goOn_110 ?_
      generalize eS4010 : (sI S4009 64 23 (v2 + v4)) = S4010
      have hM : MS S4010 := MS.of (by rw [← eS4010]; exact shp_sI _ _ _ _) hM
      refine aw_aload_n hC 0 dX12_goOn_113 rfl rfl ?_
      refine aw_iconst (v := 0) hC dX12_goOn_114 (by decide) ?_
      refine aw_putI hC hSt 22 (ms_lt 64 (by decide) hM) (ms_k 64 12 0 (by decide) hM) rfl (by decide) w_1034 rfl rfl rfl rfl dX12_goOn_115 ?_
      generalize eS4011 : (sI S4010 64 22 (0 : Int32)) = S4011
      have hM : MS S4011 := MS.of (by rw [← eS4011]; exact shp_sI _ _ _ _) hM
      refine aw_aload_n hC 0 dX12_goOn_118 rfl rfl ?_
      refine aw_iconst (v := 0) hC dX12_goOn_119 (by decide) ?_
      refine aw_iload hC 7 dX12_goOn_120 rfl ?_
      refine aw_iconst (v := 2) hC dX12_goOn_122 (by decide) ?_
      refine aw_idiv hC dX12_goOn_123 (by decide) ?_
      refine aw_iconst (v := 1) hC dX12_goOn_124 (by decide) ?_
      refine aw_iadd hC dX12_goOn_125 ?_
      refine aw_iload hC 7 dX12_goOn_126 rfl ?_
      refine aw_iconst (v := 2) hC dX12_goOn_128 (by decide) ?_
      refine aw_irem hC dX12_goOn_129 (by decide) ?_
      refine aw_cut (S' := S4011) (pc' := 139) (lv' := [(0, .ref 64), (1, .int v1), (2, .int v2), (3, .int v3), (4, .int v4), (5, .int v5), (6, .int v6), (7, .int v7)]) (st' := [.int (if (v7 - v7 / (2 : Int32) * (2 : Int32)) = 0 then (4 : Int32) else (8 : Int32)), .int ((v7 / (2 : Int32)) + (1 : Int32)), .int (0 : Int32), .ref 64]) ?_ (fun Jc4012 => ?_)
      · generalize ex4013 : (if (v7 - v7 / (2 : Int32) * (2 : Int32)) = 0 then (4 : Int32) else (8 : Int32)) = x4013
        refine aw_ldc (v := -1000000) hC w_923 dX12_goOn_139 ?_
        refine aw_cV4v hC hSt (t_X12_doTick G l hM _ _ _ _ (h0 c4007 S4008 eS4008 S4009 eS4009 S4010 eS4010 S4011 eS4011 x4013 ex4013)) w_1110 w_1155 w_1156 w_1157 w_953 rfl rfl (by decide +kernel) ⟨Nat.le_of_ble_eq_true rfl, Nat.le_of_ble_eq_true rfl⟩ (ms_lt 64 (by decide) hM) (ms_k 64 12 0 (by decide) hM) rfl (Nat.le_of_ble_eq_true rfl) dX12_goOn_141 ⟨Nat.zero_le _, Nat.zero_le _⟩ ?_
        generalize er4014 : f_X12_doTick S4011 64 (0 : Int32) ((v7 / (2 : Int32)) + (1 : Int32)) x4013 (-1000000 : Int32) = r4014
        have hM : MS r4014 := MS.of (by rw [← er4014]; exact q_X12_doTick _ _ _ _ _ _) hM
        refine aw_aload_n hC 0 dX12_goOn_144 rfl rfl ?_
        refine aw_getP (b := 78) hC hSt 41 (ms_lt 64 (by decide) hM) (ms_k 64 12 0 (by decide) hM) rfl (by decide) w_934 rfl (ms_p 41 78 (by decide) hM) dX12_goOn_145 ?_
        refine aw_aload_n hC 0 dX12_goOn_148 rfl rfl ?_
        refine aw_getI hC hSt 23 (ms_lt 64 (by decide) hM) (ms_k 64 12 0 (by decide) hM) rfl (by decide) w_1035 rfl dX12_goOn_149 ?_
        refine aw_iload_n hC 2 dX12_goOn_152 rfl rfl ?_
        refine aw_isub hC dX12_goOn_153 ?_
        refine aw_aload_n hC 0 dX12_goOn_154 rfl rfl ?_
        refine aw_getI hC hSt 21 (ms_lt 64 (by decide) hM) (ms_k 64 12 0 (by decide) hM) rfl (by decide) w_1033 rfl dX12_goOn_155 ?_
        refine aw_aload_n hC 0 dX12_goOn_158 rfl rfl ?_
        refine aw_getI hC hSt 20 (ms_lt 64 (by decide) hM) (ms_k 64 12 0 (by decide) hM) rfl (by decide) w_1032 rfl dX12_goOn_159 ?_
        refine aw_cS3r hC hSt (t_X12_placeOf G l  _ _ _) w_1234 w_1235 w_1236 w_953 rfl rfl (by decide +kernel) ⟨Nat.le_of_ble_eq_true rfl, Nat.le_of_ble_eq_true rfl⟩ (Nat.le_of_ble_eq_true rfl) dX12_goOn_162 ⟨Nat.zero_le _, Nat.zero_le _⟩ ?_
        refine aw_iconst (v := 1) hC dX12_goOn_165 (by decide) ?_
        refine aw_zast hC hSt (ms_lt 78 (by decide) hM) (ms_k 78 16 582096 (by decide) hM) (vp_len (n := 582096) (ms_l 78 16 582096 (by decide) hM) (h1 c4007 S4008 eS4008 S4009 eS4009 S4010 eS4010 S4011 eS4011 x4013 ex4013 r4014 er4014)) dX12_goOn_166 ?_
        generalize eS4015 : (sI r4014 78 (f_X12_placeOf r4014 ((gI r4014 64 23) - v2) (gI r4014 64 21) (gI r4014 64 20)).toNatClampNeg (vp_nar .boolean (1 : Int32))) = S4015
        have hM : MS S4015 := MS.of (by rw [← eS4015]; exact shp_sI _ _ _ _) hM
        refine aw_aload_n hC 0 dX12_goOn_167 rfl rfl ?_
        refine aw_getI hC hSt 20 (ms_lt 64 (by decide) hM) (ms_k 64 12 0 (by decide) hM) rfl (by decide) w_1032 rfl dX12_goOn_168 ?_
        refine aw_iload_n hC 3 dX12_goOn_171 rfl rfl ?_
        refine aw_cut (S' := S4015) (pc' := 183) (lv' := [(0, .ref 64), (1, .int v1), (2, .int v2), (3, .int v3), (4, .int v4), (5, .int v5), (6, .int v6), (7, .int v7)]) (st' := [.int (if (gI S4015 64 20) ≤ v3 then v3 else (gI S4015 64 20))]) ?_ (fun Jc4016 => ?_)
        · generalize ex4017 : (if (gI S4015 64 20) ≤ v3 then v3 else (gI S4015 64 20)) = x4017
          refine aw_istore_n hC [(3, .int _), (0, .ref 64), (1, .int _), (2, .int _), (4, .int _), (5, .int _), (6, .int _), (7, .int _)] dX12_goOn_183 rfl (by decide) rfl ?_
          refine aw_iinc (v := (v7 + (1 : Int32))) hC 7 [(7, .int _), (3, .int _), (0, .ref 64), (1, .int _), (2, .int _), (4, .int _), (5, .int _), (6, .int _)] dX12_goOn_184 rfl rfl (by decide) rfl ?_
          refine aw_goto hC 86 dX12_goOn_187 (by decide) ?_
          refine aw_sub [2, 3, 4, 1, 5, 6, 7, 0] rfl ?_
          have hTn := (h2 c4007 S4008 eS4008 S4009 eS4009 S4010 eS4010 S4011 eS4011 x4013 ex4013 r4014 er4014 S4015 eS4015 x4017 ex4017)
          have hMn : MS S4015 := hM
          have E : L_X12_goOn_86 (n + 1) S v1 v2 v3 v4 v5 v6 v7 = _ := (if_neg c4007).trans ((bd_eq eS4008).trans ((bd_eq eS4009).trans ((bd_eq eS4010).trans ((bd_eq eS4011).trans ((bd_eq ex4013).trans ((bd_eq er4014).trans ((bd_eq eS4015).trans ((bd_eq ex4017).trans (rfl)))))))))
          rw [E] at hk
          exact ih _ _ _ _ _ _ _ _ hMn hTn hk
        · refine aw_icmp_le hC 182 dX12_goOn_172 (by decide) (fun c4016 => ?_) (fun c4016 => ?_)
          · refine aw_iload_n hC 3 dX12_goOn_182 rfl rfl ?_
            simp only [bd_def, if_pos c4016] at Jc4016 ⊢
            exact Jc4016
          · refine aw_aload_n hC 0 dX12_goOn_175 rfl rfl ?_
            refine aw_getI hC hSt 20 (ms_lt 64 (by decide) hM) (ms_k 64 12 0 (by decide) hM) rfl (by decide) w_1032 rfl dX12_goOn_176 ?_
            refine aw_goto hC 183 dX12_goOn_179 (by decide) ?_
            simp only [bd_def, if_neg c4016] at Jc4016 ⊢
            exact Jc4016
      · refine aw_if_ne hC 137 dX12_goOn_130 (by decide) (fun c4012 => ?_) (fun c4012 => ?_)
        · refine aw_bipush (v := 8) hC dX12_goOn_137 (by decide) ?_
          simp only [bd_def, if_neg c4012] at Jc4012 ⊢
          exact Jc4012
        · refine aw_iconst (v := 4) hC dX12_goOn_133 (by decide) ?_
          refine aw_goto hC 139 dX12_goOn_134 (by decide) ?_
          simp only [bd_def, if_pos c4012] at Jc4012 ⊢
          exact Jc4012
noncomputable def L_X12_goOn_58 : Nat → HSt → Int32 → Int32 → Int32 → Int32 → Int32 → Int32 → Int32 × Int32 × Int32 × Int32 × Int32 × Int32 × HSt
  | 0, S, v1, v2, v3, v4, v5, v6 => (v1, v2, v3, v4, v5, v6, S)
  | n + 1, S, v1, v2, v3, v4, v5, v6 =>
    if (201 : Int32) ≤ v6 then ((pr (v1) (pr (v2) (pr (v3) (pr (v4) (pr (v5) (pr (v6) (S)))))))) else (bd ((if (gI S 77 (f_X12_placeOf S v4 v5 v6).toNatClampNeg) = 0 then v1 else (bd (L_X12_goOn_86 1000 S v1 v2 v3 v4 v5 v6 (0 : Int32)) fun r3007 => r3007.1))) fun x3008 => bd ((if (gI S 77 (f_X12_placeOf S v4 v5 v6).toNatClampNeg) = 0 then v2 else (bd (L_X12_goOn_86 1000 S v1 v2 v3 v4 v5 v6 (0 : Int32)) fun r3007 => r3007.2.1))) fun x3009 => bd ((if (gI S 77 (f_X12_placeOf S v4 v5 v6).toNatClampNeg) = 0 then v3 else (bd (L_X12_goOn_86 1000 S v1 v2 v3 v4 v5 v6 (0 : Int32)) fun r3007 => r3007.2.2.1))) fun x3010 => bd ((if (gI S 77 (f_X12_placeOf S v4 v5 v6).toNatClampNeg) = 0 then v4 else (bd (L_X12_goOn_86 1000 S v1 v2 v3 v4 v5 v6 (0 : Int32)) fun r3007 => r3007.2.2.2.1))) fun x3011 => bd ((if (gI S 77 (f_X12_placeOf S v4 v5 v6).toNatClampNeg) = 0 then v5 else (bd (L_X12_goOn_86 1000 S v1 v2 v3 v4 v5 v6 (0 : Int32)) fun r3007 => r3007.2.2.2.2.1))) fun x3012 => bd ((if (gI S 77 (f_X12_placeOf S v4 v5 v6).toNatClampNeg) = 0 then v6 else (bd (L_X12_goOn_86 1000 S v1 v2 v3 v4 v5 v6 (0 : Int32)) fun r3007 => r3007.2.2.2.2.2.1))) fun x3013 => bd ((if (gI S 77 (f_X12_placeOf S v4 v5 v6).toNatClampNeg) = 0 then S else (bd (L_X12_goOn_86 1000 S v1 v2 v3 v4 v5 v6 (0 : Int32)) fun r3007 => r3007.2.2.2.2.2.2.2))) fun S3014 => L_X12_goOn_58 n S3014 x3008 x3009 x3010 x3011 x3012 (x3013 + (1 : Int32)))
def T_X12_goOn_58 : Nat → HSt → Int32 → Int32 → Int32 → Int32 → Int32 → Int32 → Prop
  | 0, _, _, _, _, _, _, _ => False
  | n + 1, S, v1, v2, v3, v4, v5, v6 => ((¬ (201 : Int32) ≤ v6) → vp_in (f_X12_placeOf S v4 v5 v6) 582096) ∧ ((¬ (201 : Int32) ≤ v6) → (¬ (gI S 77 (f_X12_placeOf S v4 v5 v6).toNatClampNeg) = 0) → T_X12_goOn_86 1000 S v1 v2 v3 v4 v5 v6 (0 : Int32)) ∧ ((¬ (201 : Int32) ≤ v6) → ∀ x3008 : Int32, (if (gI S 77 (f_X12_placeOf S v4 v5 v6).toNatClampNeg) = 0 then v1 else (bd (L_X12_goOn_86 1000 S v1 v2 v3 v4 v5 v6 (0 : Int32)) fun r3007 => r3007.1)) = x3008 → ∀ x3009 : Int32, (if (gI S 77 (f_X12_placeOf S v4 v5 v6).toNatClampNeg) = 0 then v2 else (bd (L_X12_goOn_86 1000 S v1 v2 v3 v4 v5 v6 (0 : Int32)) fun r3007 => r3007.2.1)) = x3009 → ∀ x3010 : Int32, (if (gI S 77 (f_X12_placeOf S v4 v5 v6).toNatClampNeg) = 0 then v3 else (bd (L_X12_goOn_86 1000 S v1 v2 v3 v4 v5 v6 (0 : Int32)) fun r3007 => r3007.2.2.1)) = x3010 → ∀ x3011 : Int32, (if (gI S 77 (f_X12_placeOf S v4 v5 v6).toNatClampNeg) = 0 then v4 else (bd (L_X12_goOn_86 1000 S v1 v2 v3 v4 v5 v6 (0 : Int32)) fun r3007 => r3007.2.2.2.1)) = x3011 → ∀ x3012 : Int32, (if (gI S 77 (f_X12_placeOf S v4 v5 v6).toNatClampNeg) = 0 then v5 else (bd (L_X12_goOn_86 1000 S v1 v2 v3 v4 v5 v6 (0 : Int32)) fun r3007 => r3007.2.2.2.2.1)) = x3012 → ∀ x3013 : Int32, (if (gI S 77 (f_X12_placeOf S v4 v5 v6).toNatClampNeg) = 0 then v6 else (bd (L_X12_goOn_86 1000 S v1 v2 v3 v4 v5 v6 (0 : Int32)) fun r3007 => r3007.2.2.2.2.2.1)) = x3013 → ∀ S3014 : HSt, (if (gI S 77 (f_X12_placeOf S v4 v5 v6).toNatClampNeg) = 0 then S else (bd (L_X12_goOn_86 1000 S v1 v2 v3 v4 v5 v6 (0 : Int32)) fun r3007 => r3007.2.2.2.2.2.2.2)) = S3014 → T_X12_goOn_58 n S3014 x3008 x3009 x3010 x3011 x3012 (x3013 + (1 : Int32)))
theorem qL_X12_goOn_58 : ∀ (n : Nat) (S : HSt) (v1 : Int32) (v2 : Int32) (v3 : Int32) (v4 : Int32) (v5 : Int32) (v6 : Int32), shp (L_X12_goOn_58 n S v1 v2 v3 v4 v5 v6).2.2.2.2.2.2 = shp S := by
  intro n
  induction n with
  | zero => intros; rfl
  | succ n ih =>
    intro S v1 v2 v3 v4 v5 v6
    unfold L_X12_goOn_58
    repeat' (first | with_reducible refine shpr6 ?_ | with_reducible rfl | with_reducible refine (ih _ _ _ _ _ _ _).trans ?_ | with_reducible refine (q_X12_doTick _ _ _ _ _ _).trans ?_ | with_reducible refine (qL_X12_goOn_12 _ _ _ _ _ _).trans ?_ | with_reducible refine (qL_X12_goOn_86 _ _ _ _ _ _ _ _ _).trans ?_ | with_reducible refine (shp_sI _ _ _ _).trans ?_ | with_reducible refine (shp_sJ _ _ _ _).trans ?_ | with_reducible refine shi ?_ ?_ | with_reducible refine shb (fun _ _ => ?_) | with_reducible refine shiP (fun q : Int32 × Int32 × Int32 × Int32 × Int32 × Int32 × HSt => q.2.2.2.2.2.2) ?_ ?_ | with_reducible refine shbP (fun q : Int32 × Int32 × Int32 × Int32 × Int32 × Int32 × HSt => q.2.2.2.2.2.2) (fun _ _ => ?_) | (subst_vars; with_reducible rfl) | (subst_vars; with_reducible refine (ih _ _ _ _ _ _ _).trans ?_) | (subst_vars; with_reducible refine (q_X12_doTick _ _ _ _ _ _).trans ?_) | (subst_vars; with_reducible refine (qL_X12_goOn_12 _ _ _ _ _ _).trans ?_) | (subst_vars; with_reducible refine (qL_X12_goOn_86 _ _ _ _ _ _ _ _ _).trans ?_) | (subst_vars; with_reducible refine (shp_sI _ _ _ _).trans ?_) | (subst_vars; with_reducible refine (shp_sJ _ _ _ _).trans ?_) | (subst_vars; with_reducible refine shi ?_ ?_) | (subst_vars; with_reducible refine shb (fun _ _ => ?_)))
set_option maxRecDepth 100000 in
theorem l_X12_goOn_58 {p : Program} {l : Launch} {e : Env} {s : State} {m : MethodId} {args : Array Value} {below : List Frame} {meth : Method} {c : Code} {G : GG} {Q : State → Prop} (hC : ACx p s m args meth c cX12_goOn RX12 8 (some .int)) (hSt : St G s)  : ∀ (n : Nat) (S : HSt) (v1 : Int32) (v2 : Int32) (v3 : Int32) (v4 : Int32) (v5 : Int32) (v6 : Int32), MS S → T_X12_goOn_58 n S v1 v2 v3 v4 v5 v6 → AW p l e (rmD 3 0 0) s m args below meth c G 8 Q (L_X12_goOn_58 n S v1 v2 v3 v4 v5 v6).2.2.2.2.2.2 0 0 196 [(0, .ref 64), (1, .int (L_X12_goOn_58 n S v1 v2 v3 v4 v5 v6).1), (2, .int (L_X12_goOn_58 n S v1 v2 v3 v4 v5 v6).2.1), (3, .int (L_X12_goOn_58 n S v1 v2 v3 v4 v5 v6).2.2.1), (4, .int (L_X12_goOn_58 n S v1 v2 v3 v4 v5 v6).2.2.2.1), (5, .int (L_X12_goOn_58 n S v1 v2 v3 v4 v5 v6).2.2.2.2.1), (6, .int (L_X12_goOn_58 n S v1 v2 v3 v4 v5 v6).2.2.2.2.2.1)] [] → AW p l e (rmD 3 0 0) s m args below meth c G 8 Q S 0 0 58 [(0, .ref 64), (1, .int v1), (2, .int v2), (3, .int v3), (4, .int v4), (5, .int v5), (6, .int v6)] [] := by
  intro n
  induction n with
  | zero => intro S v1 v2 v3 v4 v5 v6 _ hT; exact hT.elim
  | succ n ih =>
    intro S v1 v2 v3 v4 v5 v6 hM hT hk
    unfold T_X12_goOn_58 at hT
    obtain ⟨h0, h1, h2⟩ := hT
    refine aw_iload hC 6 dX12_goOn_58 rfl ?_
    refine aw_sipush (v := 201) hC dX12_goOn_60 (by decide) ?_
    refine aw_icmp_ge hC 196 dX12_goOn_63 (by decide) (fun c3005 => ?_) (fun c3005 => ?_)
    · refine aw_sub [0, 1, 2, 3, 4, 5, 6] rfl ?_
      have E : L_X12_goOn_58 (n + 1) S v1 v2 v3 v4 v5 v6 = _ := (if_pos c3005).trans (rfl)
      rw [E] at hk
      exact hk
    · refine aw_aload_n hC 0 dX12_goOn_66 rfl rfl ?_
      refine aw_getP (b := 77) hC hSt 40 (ms_lt 64 (by decide) hM) (ms_k 64 12 0 (by decide) hM) rfl (by decide) w_933 rfl (ms_p 40 77 (by decide) hM) dX12_goOn_67 ?_
      refine aw_iload hC 4 dX12_goOn_70 rfl ?_
      refine aw_iload hC 5 dX12_goOn_72 rfl ?_
      refine aw_iload hC 6 dX12_goOn_74 rfl ?_
      refine aw_cS3r hC hSt (t_X12_placeOf G l  _ _ _) w_1234 w_1235 w_1236 w_953 rfl rfl (by decide +kernel) ⟨Nat.le_of_ble_eq_true rfl, Nat.le_of_ble_eq_true rfl⟩ (Nat.le_of_ble_eq_true rfl) dX12_goOn_76 ⟨Nat.zero_le _, Nat.zero_le _⟩ ?_
      refine aw_zald hC hSt (ms_lt 77 (by decide) hM) (ms_k 77 16 582096 (by decide) hM) (vp_len (n := 582096) (ms_l 77 16 582096 (by decide) hM) (h0 c3005)) dX12_goOn_79 ?_
      refine aw_cut (S' := (if (gI S 77 (f_X12_placeOf S v4 v5 v6).toNatClampNeg) = 0 then S else (bd (L_X12_goOn_86 1000 S v1 v2 v3 v4 v5 v6 (0 : Int32)) fun r3007 => r3007.2.2.2.2.2.2.2))) (pc' := 190) (lv' := [(0, .ref 64), (1, .int (if (gI S 77 (f_X12_placeOf S v4 v5 v6).toNatClampNeg) = 0 then v1 else (bd (L_X12_goOn_86 1000 S v1 v2 v3 v4 v5 v6 (0 : Int32)) fun r3007 => r3007.1))), (2, .int (if (gI S 77 (f_X12_placeOf S v4 v5 v6).toNatClampNeg) = 0 then v2 else (bd (L_X12_goOn_86 1000 S v1 v2 v3 v4 v5 v6 (0 : Int32)) fun r3007 => r3007.2.1))), (3, .int (if (gI S 77 (f_X12_placeOf S v4 v5 v6).toNatClampNeg) = 0 then v3 else (bd (L_X12_goOn_86 1000 S v1 v2 v3 v4 v5 v6 (0 : Int32)) fun r3007 => r3007.2.2.1))), (4, .int (if (gI S 77 (f_X12_placeOf S v4 v5 v6).toNatClampNeg) = 0 then v4 else (bd (L_X12_goOn_86 1000 S v1 v2 v3 v4 v5 v6 (0 : Int32)) fun r3007 => r3007.2.2.2.1))), (5, .int (if (gI S 77 (f_X12_placeOf S v4 v5 v6).toNatClampNeg) = 0 then v5 else (bd (L_X12_goOn_86 1000 S v1 v2 v3 v4 v5 v6 (0 : Int32)) fun r3007 => r3007.2.2.2.2.1))), (6, .int (if (gI S 77 (f_X12_placeOf S v4 v5 v6).toNatClampNeg) = 0 then v6 else (bd (L_X12_goOn_86 1000 S v1 v2 v3 v4 v5 v6 (0 : Int32)) fun r3007 => r3007.2.2.2.2.2.1)))]) (st' := []) ?_ (fun Jc3006 => ?_)
      · generalize ex3008 : (if (gI S 77 (f_X12_placeOf S v4 v5 v6).toNatClampNeg) = 0 then v1 else (bd (L_X12_goOn_86 1000 S v1 v2 v3 v4 v5 v6 (0 : Int32)) fun r3007 => r3007.1)) = x3008
        generalize ex3009 : (if (gI S 77 (f_X12_placeOf S v4 v5 v6).toNatClampNeg) = 0 then v2 else (bd (L_X12_goOn_86 1000 S v1 v2 v3 v4 v5 v6 (0 : Int32)) fun r3007 => r3007.2.1)) = x3009
        generalize ex3010 : (if (gI S 77 (f_X12_placeOf S v4 v5 v6).toNatClampNeg) = 0 then v3 else (bd (L_X12_goOn_86 1000 S v1 v2 v3 v4 v5 v6 (0 : Int32)) fun r3007 => r3007.2.2.1)) = x3010
        generalize ex3011 : (if (gI S 77 (f_X12_placeOf S v4 v5 v6).toNatClampNeg) = 0 then v4 else (bd (L_X12_goOn_86 1000 S v1 v2 v3 v4 v5 v6 (0 : Int32)) fun r3007 => r3007.2.2.2.1)) = x3011
        generalize ex3012 : (if (gI S 77 (f_X12_placeOf S v4 v5 v6).toNatClampNeg) = 0 then v5 else (bd (L_X12_goOn_86 1000 S v1 v2 v3 v4 v5 v6 (0 : Int32)) fun r3007 => r3007.2.2.2.2.1)) = x3012
        generalize ex3013 : (if (gI S 77 (f_X12_placeOf S v4 v5 v6).toNatClampNeg) = 0 then v6 else (bd (L_X12_goOn_86 1000 S v1 v2 v3 v4 v5 v6 (0 : Int32)) fun r3007 => r3007.2.2.2.2.2.1)) = x3013
        generalize eS3014 : (if (gI S 77 (f_X12_placeOf S v4 v5 v6).toNatClampNeg) = 0 then S else (bd (L_X12_goOn_86 1000 S v1 v2 v3 v4 v5 v6 (0 : Int32)) fun r3007 => r3007.2.2.2.2.2.2.2)) = S3014
        have hM : MS S3014 := MS.of (by rw [← eS3014]; repeat' (first | with_reducible rfl | with_reducible refine (qL_X12_goOn_86 _ _ _ _ _ _ _ _ _).trans ?_ | with_reducible refine (shp_sI _ _ _ _).trans ?_ | with_reducible refine (shp_sJ _ _ _ _).trans ?_ | with_reducible refine shi ?_ ?_ | with_reducible refine shb (fun _ _ => ?_) | (subst_vars; with_reducible rfl) | (subst_vars; with_reducible refine (qL_X12_goOn_86 _ _ _ _ _ _ _ _ _).trans ?_) | (subst_vars; with_reducible refine (shp_sI _ _ _ _).trans ?_) | (subst_vars; with_reducible refine (shp_sJ _ _ _ _).trans ?_) | (subst_vars; with_reducible refine shi ?_ ?_) | (subst_vars; with_reducible refine shb (fun _ _ => ?_)))) hM
        refine aw_iinc (v := (x3013 + (1 : Int32))) hC 6 [(6, .int _), (0, .ref 64), (1, .int _), (2, .int _), (3, .int _), (4, .int _), (5, .int _)] dX12_goOn_190 rfl rfl (by decide) rfl ?_
        refine aw_goto hC 58 dX12_goOn_193 (by decide) ?_
        refine aw_sub [1, 2, 3, 4, 5, 6, 0] rfl ?_
        have hTn := (h2 c3005 x3008 ex3008 x3009 ex3009 x3010 ex3010 x3011 ex3011 x3012 ex3012 x3013 ex3013 S3014 eS3014)
        have hMn : MS S3014 := hM
        have E : L_X12_goOn_58 (n + 1) S v1 v2 v3 v4 v5 v6 = _ := (if_neg c3005).trans ((bd_eq ex3008).trans ((bd_eq ex3009).trans ((bd_eq ex3010).trans ((bd_eq ex3011).trans ((bd_eq ex3012).trans ((bd_eq ex3013).trans ((bd_eq eS3014).trans (rfl))))))))
        rw [E] at hk
        exact ih _ _ _ _ _ _ _ hMn hTn hk
      · refine aw_if_eq hC 190 dX12_goOn_80 (by decide) (fun c3006 => ?_) (fun c3006 => ?_)
        · simp only [bd_def, if_pos c3006] at Jc3006 ⊢
          exact Jc3006
        · refine aw_iconst (v := 0) hC dX12_goOn_83 (by decide) ?_
          refine aw_istore hC [(7, .int _), (0, .ref 64), (1, .int _), (2, .int _), (3, .int _), (4, .int _), (5, .int _), (6, .int _)] dX12_goOn_84 (by decide) rfl ?_
          refine aw_sub [1, 2, 3, 4, 5, 6, 7, 0] rfl ?_
          refine l_X12_goOn_86 hC hSt 1000 _ _ _ _ _ _ _ _ hM (h1 c3005 c3006) ?_
          generalize er3007 : L_X12_goOn_86 1000 S v1 v2 v3 v4 v5 v6 (0 : Int32) = r3007
          have hM : MS r3007.2.2.2.2.2.2.2 := MS.of (by rw [← er3007]; exact qL_X12_goOn_86 _ _ _ _ _ _ _ _ _) hM
          refine aw_sub [0, 1, 2, 3, 4, 5, 6] rfl ?_
          subst er3007
          simp only [bd_def, if_neg c3006] at Jc3006 ⊢
          exact Jc3006
noncomputable def L_X12_goOn_48 : Nat → HSt → Int32 → Int32 → Int32 → Int32 → Int32 → Int32 × Int32 × Int32 × Int32 × Int32 × HSt
  | 0, S, v1, v2, v3, v4, v5 => (v1, v2, v3, v4, v5, S)
  | n + 1, S, v1, v2, v3, v4, v5 =>
    if (16 : Int32) ≤ v5 then ((pr (v1) (pr (v2) (pr (v3) (pr (v4) (pr (v5) (S))))))) else (bd (L_X12_goOn_58 1000 S v1 v2 v3 v4 v5 (1 : Int32)) fun r2005 => L_X12_goOn_48 n r2005.2.2.2.2.2.2 r2005.1 r2005.2.1 r2005.2.2.1 r2005.2.2.2.1 (r2005.2.2.2.2.1 + (1 : Int32)))
def T_X12_goOn_48 : Nat → HSt → Int32 → Int32 → Int32 → Int32 → Int32 → Prop
  | 0, _, _, _, _, _, _ => False
  | n + 1, S, v1, v2, v3, v4, v5 => ((¬ (16 : Int32) ≤ v5) → T_X12_goOn_58 1000 S v1 v2 v3 v4 v5 (1 : Int32)) ∧ ((¬ (16 : Int32) ≤ v5) → ∀ r2005, L_X12_goOn_58 1000 S v1 v2 v3 v4 v5 (1 : Int32) = r2005 → T_X12_goOn_48 n r2005.2.2.2.2.2.2 r2005.1 r2005.2.1 r2005.2.2.1 r2005.2.2.2.1 (r2005.2.2.2.2.1 + (1 : Int32)))
theorem qL_X12_goOn_48 : ∀ (n : Nat) (S : HSt) (v1 : Int32) (v2 : Int32) (v3 : Int32) (v4 : Int32) (v5 : Int32), shp (L_X12_goOn_48 n S v1 v2 v3 v4 v5).2.2.2.2.2 = shp S := by
  intro n
  induction n with
  | zero => intros; rfl
  | succ n ih =>
    intro S v1 v2 v3 v4 v5
    unfold L_X12_goOn_48
    repeat' (first | with_reducible refine shpr5 ?_ | with_reducible rfl | with_reducible refine (ih _ _ _ _ _ _).trans ?_ | with_reducible refine (q_X12_doTick _ _ _ _ _ _).trans ?_ | with_reducible refine (qL_X12_goOn_12 _ _ _ _ _ _).trans ?_ | with_reducible refine (qL_X12_goOn_58 _ _ _ _ _ _ _ _).trans ?_ | with_reducible refine (qL_X12_goOn_86 _ _ _ _ _ _ _ _ _).trans ?_ | with_reducible refine (shp_sI _ _ _ _).trans ?_ | with_reducible refine (shp_sJ _ _ _ _).trans ?_ | with_reducible refine shi ?_ ?_ | with_reducible refine shb (fun _ _ => ?_) | with_reducible refine shiP (fun q : Int32 × Int32 × Int32 × Int32 × Int32 × HSt => q.2.2.2.2.2) ?_ ?_ | with_reducible refine shbP (fun q : Int32 × Int32 × Int32 × Int32 × Int32 × HSt => q.2.2.2.2.2) (fun _ _ => ?_) | (subst_vars; with_reducible rfl) | (subst_vars; with_reducible refine (ih _ _ _ _ _ _).trans ?_) | (subst_vars; with_reducible refine (q_X12_doTick _ _ _ _ _ _).trans ?_) | (subst_vars; with_reducible refine (qL_X12_goOn_12 _ _ _ _ _ _).trans ?_) | (subst_vars; with_reducible refine (qL_X12_goOn_58 _ _ _ _ _ _ _ _).trans ?_) | (subst_vars; with_reducible refine (qL_X12_goOn_86 _ _ _ _ _ _ _ _ _).trans ?_) | (subst_vars; with_reducible refine (shp_sI _ _ _ _).trans ?_) | (subst_vars; with_reducible refine (shp_sJ _ _ _ _).trans ?_) | (subst_vars; with_reducible refine shi ?_ ?_) | (subst_vars; with_reducible refine shb (fun _ _ => ?_)))
set_option maxRecDepth 100000 in
theorem l_X12_goOn_48 {p : Program} {l : Launch} {e : Env} {s : State} {m : MethodId} {args : Array Value} {below : List Frame} {meth : Method} {c : Code} {G : GG} {Q : State → Prop} (hC : ACx p s m args meth c cX12_goOn RX12 8 (some .int)) (hSt : St G s)  : ∀ (n : Nat) (S : HSt) (v1 : Int32) (v2 : Int32) (v3 : Int32) (v4 : Int32) (v5 : Int32), MS S → T_X12_goOn_48 n S v1 v2 v3 v4 v5 → AW p l e (rmD 3 0 0) s m args below meth c G 8 Q (L_X12_goOn_48 n S v1 v2 v3 v4 v5).2.2.2.2.2 0 0 202 [(0, .ref 64), (1, .int (L_X12_goOn_48 n S v1 v2 v3 v4 v5).1), (2, .int (L_X12_goOn_48 n S v1 v2 v3 v4 v5).2.1), (3, .int (L_X12_goOn_48 n S v1 v2 v3 v4 v5).2.2.1), (4, .int (L_X12_goOn_48 n S v1 v2 v3 v4 v5).2.2.2.1), (5, .int (L_X12_goOn_48 n S v1 v2 v3 v4 v5).2.2.2.2.1)] [] → AW p l e (rmD 3 0 0) s m args below meth c G 8 Q S 0 0 48 [(0, .ref 64), (1, .int v1), (2, .int v2), (3, .int v3), (4, .int v4), (5, .int v5)] [] := by
  intro n
  induction n with
  | zero => intro S v1 v2 v3 v4 v5 _ hT; exact hT.elim
  | succ n ih =>
    intro S v1 v2 v3 v4 v5 hM hT hk
    unfold T_X12_goOn_48 at hT
    obtain ⟨h0, h1⟩ := hT
    refine aw_iload hC 5 dX12_goOn_48 rfl ?_
    refine aw_bipush (v := 16) hC dX12_goOn_50 (by decide) ?_
    refine aw_icmp_ge hC 202 dX12_goOn_52 (by decide) (fun c2004 => ?_) (fun c2004 => ?_)
    · refine aw_sub [0, 1, 2, 3, 4, 5] rfl ?_
      have E : L_X12_goOn_48 (n + 1) S v1 v2 v3 v4 v5 = _ := (if_pos c2004).trans (rfl)
      rw [E] at hk
      exact hk
    · refine aw_iconst (v := 1) hC dX12_goOn_55 (by decide) ?_
      refine aw_istore hC [(6, .int _), (0, .ref 64), (1, .int _), (2, .int _), (3, .int _), (4, .int _), (5, .int _)] dX12_goOn_56 (by decide) rfl ?_
      refine aw_sub [1, 2, 3, 4, 5, 6, 0] rfl ?_
      refine l_X12_goOn_58 hC hSt 1000 _ _ _ _ _ _ _ hM (h0 c2004) ?_
      generalize er2005 : L_X12_goOn_58 1000 S v1 v2 v3 v4 v5 (1 : Int32) = r2005
      have hM : MS r2005.2.2.2.2.2.2 := MS.of (by rw [← er2005]; exact qL_X12_goOn_58 _ _ _ _ _ _ _ _) hM
      refine aw_iinc (v := (r2005.2.2.2.2.1 + (1 : Int32))) hC 5 [(5, .int _), (0, .ref 64), (1, .int _), (2, .int _), (3, .int _), (4, .int _), (6, .int _)] dX12_goOn_196 rfl rfl (by decide) rfl ?_
      refine aw_goto hC 48 dX12_goOn_199 (by decide) ?_
      refine aw_sub [1, 2, 3, 4, 5, 0] rfl ?_
      have hTn := (h1 c2004 r2005 er2005)
      have hMn : MS r2005.2.2.2.2.2.2 := hM
      have E : L_X12_goOn_48 (n + 1) S v1 v2 v3 v4 v5 = _ := (if_neg c2004).trans ((bd_eq er2005).trans (rfl))
      rw [E] at hk
      exact ih _ _ _ _ _ _ hMn hTn hk
noncomputable def L_X12_goOn_36 : Nat → HSt → Int32 → Int32 → Int32 → Int32 → Int32 × Int32 × Int32 × Int32 × HSt
  | 0, S, v1, v2, v3, v4 => (v1, v2, v3, v4, S)
  | n + 1, S, v1, v2, v3, v4 =>
    if ((15 : Int32) * v1) < v4 then ((pr (v1) (pr (v2) (pr (v3) (pr (v4) (S)))))) else (bd (L_X12_goOn_48 1000 S v1 v2 v3 v4 (0 : Int32)) fun r1004 => L_X12_goOn_36 n r1004.2.2.2.2.2 r1004.1 r1004.2.1 r1004.2.2.1 (r1004.2.2.2.1 + (1 : Int32)))
def T_X12_goOn_36 : Nat → HSt → Int32 → Int32 → Int32 → Int32 → Prop
  | 0, _, _, _, _, _ => False
  | n + 1, S, v1, v2, v3, v4 => ((¬ ((15 : Int32) * v1) < v4) → T_X12_goOn_48 1000 S v1 v2 v3 v4 (0 : Int32)) ∧ ((¬ ((15 : Int32) * v1) < v4) → ∀ r1004, L_X12_goOn_48 1000 S v1 v2 v3 v4 (0 : Int32) = r1004 → T_X12_goOn_36 n r1004.2.2.2.2.2 r1004.1 r1004.2.1 r1004.2.2.1 (r1004.2.2.2.1 + (1 : Int32)))
theorem qL_X12_goOn_36 : ∀ (n : Nat) (S : HSt) (v1 : Int32) (v2 : Int32) (v3 : Int32) (v4 : Int32), shp (L_X12_goOn_36 n S v1 v2 v3 v4).2.2.2.2 = shp S := by
  intro n
  induction n with
  | zero => intros; rfl
  | succ n ih =>
    intro S v1 v2 v3 v4
    unfold L_X12_goOn_36
    repeat' (first | with_reducible refine shpr4 ?_ | with_reducible rfl | with_reducible refine (ih _ _ _ _ _).trans ?_ | with_reducible refine (q_X12_doTick _ _ _ _ _ _).trans ?_ | with_reducible refine (qL_X12_goOn_12 _ _ _ _ _ _).trans ?_ | with_reducible refine (qL_X12_goOn_48 _ _ _ _ _ _ _).trans ?_ | with_reducible refine (qL_X12_goOn_58 _ _ _ _ _ _ _ _).trans ?_ | with_reducible refine (qL_X12_goOn_86 _ _ _ _ _ _ _ _ _).trans ?_ | with_reducible refine (shp_sI _ _ _ _).trans ?_ | with_reducible refine (shp_sJ _ _ _ _).trans ?_ | with_reducible refine shi ?_ ?_ | with_reducible refine shb (fun _ _ => ?_) | with_reducible refine shiP (fun q : Int32 × Int32 × Int32 × Int32 × HSt => q.2.2.2.2) ?_ ?_ | with_reducible refine shbP (fun q : Int32 × Int32 × Int32 × Int32 × HSt => q.2.2.2.2) (fun _ _ => ?_) | (subst_vars; with_reducible rfl) | (subst_vars; with_reducible refine (ih _ _ _ _ _).trans ?_) | (subst_vars; with_reducible refine (q_X12_doTick _ _ _ _ _ _).trans ?_) | (subst_vars; with_reducible refine (qL_X12_goOn_12 _ _ _ _ _ _).trans ?_) | (subst_vars; with_reducible refine (qL_X12_goOn_48 _ _ _ _ _ _ _).trans ?_) | (subst_vars; with_reducible refine (qL_X12_goOn_58 _ _ _ _ _ _ _ _).trans ?_) | (subst_vars; with_reducible refine (qL_X12_goOn_86 _ _ _ _ _ _ _ _ _).trans ?_) | (subst_vars; with_reducible refine (shp_sI _ _ _ _).trans ?_) | (subst_vars; with_reducible refine (shp_sJ _ _ _ _).trans ?_) | (subst_vars; with_reducible refine shi ?_ ?_) | (subst_vars; with_reducible refine shb (fun _ _ => ?_)))
set_option maxRecDepth 100000 in
theorem l_X12_goOn_36 {p : Program} {l : Launch} {e : Env} {s : State} {m : MethodId} {args : Array Value} {below : List Frame} {meth : Method} {c : Code} {G : GG} {Q : State → Prop} (hC : ACx p s m args meth c cX12_goOn RX12 8 (some .int)) (hSt : St G s)  : ∀ (n : Nat) (S : HSt) (v1 : Int32) (v2 : Int32) (v3 : Int32) (v4 : Int32), MS S → T_X12_goOn_36 n S v1 v2 v3 v4 → AW p l e (rmD 3 0 0) s m args below meth c G 8 Q (L_X12_goOn_36 n S v1 v2 v3 v4).2.2.2.2 0 0 208 [(0, .ref 64), (1, .int (L_X12_goOn_36 n S v1 v2 v3 v4).1), (2, .int (L_X12_goOn_36 n S v1 v2 v3 v4).2.1), (3, .int (L_X12_goOn_36 n S v1 v2 v3 v4).2.2.1), (4, .int (L_X12_goOn_36 n S v1 v2 v3 v4).2.2.2.1)] [] → AW p l e (rmD 3 0 0) s m args below meth c G 8 Q S 0 0 36 [(0, .ref 64), (1, .int v1), (2, .int v2), (3, .int v3), (4, .int v4)] [] := by
  intro n
  induction n with
  | zero => intro S v1 v2 v3 v4 _ hT; exact hT.elim
  | succ n ih =>
    intro S v1 v2 v3 v4 hM hT hk
    unfold T_X12_goOn_36 at hT
    obtain ⟨h0, h1⟩ := hT
    refine aw_iload hC 4 dX12_goOn_36 rfl ?_
    refine aw_bipush (v := 15) hC dX12_goOn_38 (by decide) ?_
    refine aw_iload_n hC 1 dX12_goOn_40 rfl rfl ?_
    refine aw_imul hC dX12_goOn_41 ?_
    refine aw_icmp_gt hC 208 dX12_goOn_42 (by decide) (fun c1003 => ?_) (fun c1003 => ?_)
    · refine aw_sub [0, 1, 2, 3, 4] rfl ?_
      have E : L_X12_goOn_36 (n + 1) S v1 v2 v3 v4 = _ := (if_pos c1003).trans (rfl)
      rw [E] at hk
      exact hk
    · refine aw_iconst (v := 0) hC dX12_goOn_45 (by decide) ?_
      refine aw_istore hC [(5, .int _), (0, .ref 64), (1, .int _), (2, .int _), (3, .int _), (4, .int _)] dX12_goOn_46 (by decide) rfl ?_
      refine aw_sub [1, 2, 3, 4, 5, 0] rfl ?_
      refine l_X12_goOn_48 hC hSt 1000 _ _ _ _ _ _ hM (h0 c1003) ?_
      generalize er1004 : L_X12_goOn_48 1000 S v1 v2 v3 v4 (0 : Int32) = r1004
      have hM : MS r1004.2.2.2.2.2 := MS.of (by rw [← er1004]; exact qL_X12_goOn_48 _ _ _ _ _ _ _) hM
      refine aw_iinc (v := (r1004.2.2.2.1 + (1 : Int32))) hC 4 [(4, .int _), (0, .ref 64), (1, .int _), (2, .int _), (3, .int _), (5, .int _)] dX12_goOn_202 rfl rfl (by decide) rfl ?_
      refine aw_goto hC 36 dX12_goOn_205 (by decide) ?_
      refine aw_sub [1, 2, 3, 4, 0] rfl ?_
      have hTn := (h1 c1003 r1004 er1004)
      have hMn : MS r1004.2.2.2.2.2 := hM
      have E : L_X12_goOn_36 (n + 1) S v1 v2 v3 v4 = _ := (if_neg c1003).trans ((bd_eq er1004).trans (rfl))
      rw [E] at hk
      exact ih _ _ _ _ _ hMn hTn hk
noncomputable def L_X12_goOn_211 : Nat → HSt → Int32 → Int32 → Int32 → Int32 → Int32 × Int32 × Int32 × Int32 × HSt
  | 0, S, v1, v2, v3, v4 => (v1, v2, v3, v4, S)
  | n + 1, S, v1, v2, v3, v4 =>
    if (582096 : Int32) ≤ v4 then ((pr (v1) (pr (v2) (pr (v3) (pr (v4) (S)))))) else (bd ((sI S 77 v4.toNatClampNeg (vp_nar .boolean (gI S 78 v4.toNatClampNeg)))) fun S1005 => L_X12_goOn_211 n S1005 v1 v2 v3 (v4 + (1 : Int32)))
def T_X12_goOn_211 : Nat → HSt → Int32 → Int32 → Int32 → Int32 → Prop
  | 0, _, _, _, _, _ => False
  | n + 1, S, v1, v2, v3, v4 => ((¬ (582096 : Int32) ≤ v4) → vp_in v4 582096) ∧ ((¬ (582096 : Int32) ≤ v4) → vp_in v4 582096) ∧ ((¬ (582096 : Int32) ≤ v4) → ∀ S1005 : HSt, (sI S 77 v4.toNatClampNeg (vp_nar .boolean (gI S 78 v4.toNatClampNeg))) = S1005 → T_X12_goOn_211 n S1005 v1 v2 v3 (v4 + (1 : Int32)))
theorem qL_X12_goOn_211 : ∀ (n : Nat) (S : HSt) (v1 : Int32) (v2 : Int32) (v3 : Int32) (v4 : Int32), shp (L_X12_goOn_211 n S v1 v2 v3 v4).2.2.2.2 = shp S := by
  intro n
  induction n with
  | zero => intros; rfl
  | succ n ih =>
    intro S v1 v2 v3 v4
    unfold L_X12_goOn_211
    repeat' (first | with_reducible refine shpr4 ?_ | with_reducible rfl | with_reducible refine (ih _ _ _ _ _).trans ?_ | with_reducible refine (q_X12_doTick _ _ _ _ _ _).trans ?_ | with_reducible refine (qL_X12_goOn_12 _ _ _ _ _ _).trans ?_ | with_reducible refine (qL_X12_goOn_36 _ _ _ _ _ _).trans ?_ | with_reducible refine (qL_X12_goOn_48 _ _ _ _ _ _ _).trans ?_ | with_reducible refine (qL_X12_goOn_58 _ _ _ _ _ _ _ _).trans ?_ | with_reducible refine (qL_X12_goOn_86 _ _ _ _ _ _ _ _ _).trans ?_ | with_reducible refine (shp_sI _ _ _ _).trans ?_ | with_reducible refine (shp_sJ _ _ _ _).trans ?_ | with_reducible refine shi ?_ ?_ | with_reducible refine shb (fun _ _ => ?_) | with_reducible refine shiP (fun q : Int32 × Int32 × Int32 × Int32 × HSt => q.2.2.2.2) ?_ ?_ | with_reducible refine shbP (fun q : Int32 × Int32 × Int32 × Int32 × HSt => q.2.2.2.2) (fun _ _ => ?_) | (subst_vars; with_reducible rfl) | (subst_vars; with_reducible refine (ih _ _ _ _ _).trans ?_) | (subst_vars; with_reducible refine (q_X12_doTick _ _ _ _ _ _).trans ?_) | (subst_vars; with_reducible refine (qL_X12_goOn_12 _ _ _ _ _ _).trans ?_) | (subst_vars; with_reducible refine (qL_X12_goOn_36 _ _ _ _ _ _).trans ?_) | (subst_vars; with_reducible refine (qL_X12_goOn_48 _ _ _ _ _ _ _).trans ?_) | (subst_vars; with_reducible refine (qL_X12_goOn_58 _ _ _ _ _ _ _ _).trans ?_) | (subst_vars; with_reducible refine (qL_X12_goOn_86 _ _ _ _ _ _ _ _ _).trans ?_) | (subst_vars; with_reducible refine (shp_sI _ _ _ _).trans ?_) | (subst_vars; with_reducible refine (shp_sJ _ _ _ _).trans ?_) | (subst_vars; with_reducible refine shi ?_ ?_) | (subst_vars; with_reducible refine shb (fun _ _ => ?_)))
set_option maxRecDepth 100000 in
theorem l_X12_goOn_211 {p : Program} {l : Launch} {e : Env} {s : State} {m : MethodId} {args : Array Value} {below : List Frame} {meth : Method} {c : Code} {G : GG} {Q : State → Prop} (hC : ACx p s m args meth c cX12_goOn RX12 8 (some .int)) (hSt : St G s)  : ∀ (n : Nat) (S : HSt) (v1 : Int32) (v2 : Int32) (v3 : Int32) (v4 : Int32), MS S → T_X12_goOn_211 n S v1 v2 v3 v4 → AW p l e (rmD 3 0 0) s m args below meth c G 8 Q (L_X12_goOn_211 n S v1 v2 v3 v4).2.2.2.2 0 0 238 [(0, .ref 64), (1, .int (L_X12_goOn_211 n S v1 v2 v3 v4).1), (2, .int (L_X12_goOn_211 n S v1 v2 v3 v4).2.1), (3, .int (L_X12_goOn_211 n S v1 v2 v3 v4).2.2.1), (4, .int (L_X12_goOn_211 n S v1 v2 v3 v4).2.2.2.1)] [] → AW p l e (rmD 3 0 0) s m args below meth c G 8 Q S 0 0 211 [(0, .ref 64), (1, .int v1), (2, .int v2), (3, .int v3), (4, .int v4)] [] := by
  intro n
  induction n with
  | zero => intro S v1 v2 v3 v4 _ hT; exact hT.elim
  | succ n ih =>
    intro S v1 v2 v3 v4 hM hT hk
    unfold T_X12_goOn_211 at hT
    obtain ⟨h0, h1, h2⟩ := hT
    refine aw_iload hC 4 dX12_goOn_211 rfl ?_
    refine aw_ldc (v := 582096) hC w_931 dX12_goOn_213 ?_
    refine aw_icmp_ge hC 238 dX12_goOn_215 (by decide) (fun c1004 => ?_) (fun c1004 => ?_)
    · refine aw_sub [0, 1, 2, 3, 4] rfl ?_
      have E : L_X12_goOn_211 (n + 1) S v1 v2 v3 v4 = _ := (if_pos c1004).trans (rfl)
      rw [E] at hk
      exact hk
    · refine aw_aload_n hC 0 dX12_goOn_218 rfl rfl ?_
      refine aw_getP (b := 77) hC hSt 40 (ms_lt 64 (by decide) hM) (ms_k 64 12 0 (by decide) hM) rfl (by decide) w_933 rfl (ms_p 40 77 (by decide) hM) dX12_goOn_219 ?_
      refine aw_iload hC 4 dX12_goOn_222 rfl ?_
      refine aw_aload_n hC 0 dX12_goOn_224 rfl rfl ?_
      refine aw_getP (b := 78) hC hSt 41 (ms_lt 64 (by decide) hM) (ms_k 64 12 0 (by decide) hM) rfl (by decide) w_934 rfl (ms_p 41 78 (by decide) hM) dX12_goOn_225 ?_
      refine aw_iload hC 4 dX12_goOn_228 rfl ?_
      refine aw_zald hC hSt (ms_lt 78 (by decide) hM) (ms_k 78 16 582096 (by decide) hM) (vp_len (n := 582096) (ms_l 78 16 582096 (by decide) hM) (h0 c1004)) dX12_goOn_230 ?_
      refine aw_zast hC hSt (ms_lt 77 (by decide) hM) (ms_k 77 16 582096 (by decide) hM) (vp_len (n := 582096) (ms_l 77 16 582096 (by decide) hM) (h1 c1004)) dX12_goOn_231 ?_
      generalize eS1005 : (sI S 77 v4.toNatClampNeg (vp_nar .boolean (gI S 78 v4.toNatClampNeg))) = S1005
      have hM : MS S1005 := MS.of (by rw [← eS1005]; exact shp_sI _ _ _ _) hM
      refine aw_iinc (v := (v4 + (1 : Int32))) hC 4 [(4, .int _), (0, .ref 64), (1, .int _), (2, .int _), (3, .int _)] dX12_goOn_232 rfl rfl (by decide) rfl ?_
      refine aw_goto hC 211 dX12_goOn_235 (by decide) ?_
      refine aw_sub [1, 2, 3, 4, 0] rfl ?_
      have hTn := (h2 c1004 S1005 eS1005)
      have hMn : MS S1005 := hM
      have E : L_X12_goOn_211 (n + 1) S v1 v2 v3 v4 = _ := (if_neg c1004).trans ((bd_eq eS1005).trans (rfl))
      rw [E] at hk
      exact ih _ _ _ _ _ hMn hTn hk
noncomputable def f_X12_goOn (S : HSt) (_o : Nat) (a1 : Int32) : Int32 × HSt := bd ((gI S 71 (3 : Int32).toNatClampNeg)) fun x1 => bd (L_X12_goOn_12 FU S a1 x1 (0 : Int32) (0 : Int32)) fun r2 => bd (L_X12_goOn_36 1000 r2.2.2.2.2 r2.1 r2.2.1 r2.2.2.1 (0 : Int32)) fun r3 => bd (L_X12_goOn_211 FU r3.2.2.2.2 r3.1 r3.2.1 r3.2.2.1 (0 : Int32)) fun r4 => pr (r4.2.2.1) (r4.2.2.2.2)
def p_X12_goOn (S : HSt) (_o : Nat) (a1 : Int32) : Prop := (∀ x1 : Int32, (gI S 71 (3 : Int32).toNatClampNeg) = x1 → T_X12_goOn_12 FU S a1 x1 (0 : Int32) (0 : Int32)) ∧ (∀ x1 : Int32, (gI S 71 (3 : Int32).toNatClampNeg) = x1 → ∀ r2, L_X12_goOn_12 FU S a1 x1 (0 : Int32) (0 : Int32) = r2 → T_X12_goOn_36 1000 r2.2.2.2.2 r2.1 r2.2.1 r2.2.2.1 (0 : Int32)) ∧ (∀ x1 : Int32, (gI S 71 (3 : Int32).toNatClampNeg) = x1 → ∀ r2, L_X12_goOn_12 FU S a1 x1 (0 : Int32) (0 : Int32) = r2 → ∀ r3, L_X12_goOn_36 1000 r2.2.2.2.2 r2.1 r2.2.1 r2.2.2.1 (0 : Int32) = r3 → T_X12_goOn_211 FU r3.2.2.2.2 r3.1 r3.2.1 r3.2.2.1 (0 : Int32))
set_option maxRecDepth 100000 in
theorem t_X12_goOn (G : GG) (l : Launch) {S : HSt} (hM : MS S) (a1 : Int32) (hp : p_X12_goOn S 64 a1) : AM G l yX12_goOn cX12_goOn 8 (some .int) (rmD 3 0 0) 0 0 [.ref 64, .int a1] S (FP (some (.int (f_X12_goOn S 64 a1).1)) ((f_X12_goOn S 64 a1).2)) := by
  obtain ⟨h0, h1, h2⟩ := hp
  refine AM.mk (by decide) (Nat.le_of_ble_eq_true rfl) ?_
  intro p e s m below meth c hC hSt _
  refine aw_aload_n hC 0 dX12_goOn_0 rfl rfl ?_
  refine aw_getP (b := 71) hC hSt 27 (ms_lt 64 (by decide) hM) (ms_k 64 12 0 (by decide) hM) rfl (by decide) w_925 rfl (ms_p 27 71 (by decide) hM) dX12_goOn_1 ?_
  refine aw_iconst (v := 3) hC dX12_goOn_4 (by decide) ?_
  refine aw_iald hC hSt (ms_lt 71 (by decide) hM) (ms_k 71 14 7 (by decide) hM) (vp_len (n := 7) (ms_l 71 14 7 (by decide) hM) (by unfold vp_in; decide)) dX12_goOn_5 ?_
  refine aw_istore_n hC [(2, .int _), (0, .ref 64), (1, .int _)] dX12_goOn_6 rfl (by decide) rfl ?_
  generalize ex1 : (gI S 71 (3 : Int32).toNatClampNeg) = x1
  refine aw_iconst (v := 0) hC dX12_goOn_7 (by decide) ?_
  refine aw_istore_n hC [(3, .int _), (2, .int _), (0, .ref 64), (1, .int _)] dX12_goOn_8 rfl (by decide) rfl ?_
  refine aw_iconst (v := 0) hC dX12_goOn_9 (by decide) ?_
  refine aw_istore hC [(4, .int _), (3, .int _), (2, .int _), (0, .ref 64), (1, .int _)] dX12_goOn_10 (by decide) rfl ?_
  refine aw_sub [3, 4, 2, 1, 0] rfl ?_
  refine l_X12_goOn_12 hC hSt FU _ _ _ _ _ hM (h0 x1 ex1) ?_
  generalize er2 : L_X12_goOn_12 FU S a1 x1 (0 : Int32) (0 : Int32) = r2
  have hM : MS r2.2.2.2.2 := MS.of (by rw [← er2]; exact qL_X12_goOn_12 _ _ _ _ _ _) hM
  refine aw_iconst (v := 0) hC dX12_goOn_33 (by decide) ?_
  refine aw_istore hC [(4, .int _), (0, .ref 64), (1, .int _), (2, .int _), (3, .int _)] dX12_goOn_34 (by decide) rfl ?_
  refine aw_sub [1, 2, 3, 4, 0] rfl ?_
  refine l_X12_goOn_36 hC hSt 1000 _ _ _ _ _ hM (h1 x1 ex1 r2 er2) ?_
  generalize er3 : L_X12_goOn_36 1000 r2.2.2.2.2 r2.1 r2.2.1 r2.2.2.1 (0 : Int32) = r3
  have hM : MS r3.2.2.2.2 := MS.of (by rw [← er3]; exact qL_X12_goOn_36 _ _ _ _ _ _) hM
  refine aw_iconst (v := 0) hC dX12_goOn_208 (by decide) ?_
  refine aw_istore hC [(4, .int _), (0, .ref 64), (1, .int _), (2, .int _), (3, .int _)] dX12_goOn_209 (by decide) rfl ?_
  refine aw_sub [1, 2, 3, 4, 0] rfl ?_
  refine l_X12_goOn_211 hC hSt FU _ _ _ _ _ hM (h2 x1 ex1 r2 er2 r3 er3) ?_
  generalize er4 : L_X12_goOn_211 FU r3.2.2.2.2 r3.1 r3.2.1 r3.2.2.1 (0 : Int32) = r4
  have hM : MS r4.2.2.2.2 := MS.of (by rw [← er4]; exact qL_X12_goOn_211 _ _ _ _ _ _) hM
  refine aw_iload_n hC 3 dX12_goOn_238 rfl rfl ?_
  refine aw_iret hC dX12_goOn_239 (Nat.le_refl _) (Nat.le_refl _) ?_
  exact FP.qI ((bd_eq ex1).trans ((bd_eq er2).trans ((bd_eq er3).trans ((bd_eq er4).trans (rfl)))))
theorem q_X12_goOn (S : HSt) (_o : Nat) (a1 : Int32) : shp ((f_X12_goOn S _o a1).2) = shp S := by
  unfold f_X12_goOn
  repeat' (first | with_reducible refine shpr1 ?_ | with_reducible rfl | with_reducible refine (q_X12_doTick _ _ _ _ _ _).trans ?_ | with_reducible refine (qL_X12_goOn_12 _ _ _ _ _ _).trans ?_ | with_reducible refine (qL_X12_goOn_36 _ _ _ _ _ _).trans ?_ | with_reducible refine (qL_X12_goOn_48 _ _ _ _ _ _ _).trans ?_ | with_reducible refine (qL_X12_goOn_58 _ _ _ _ _ _ _ _).trans ?_ | with_reducible refine (qL_X12_goOn_86 _ _ _ _ _ _ _ _ _).trans ?_ | with_reducible refine (qL_X12_goOn_211 _ _ _ _ _ _).trans ?_ | with_reducible refine (shp_sI _ _ _ _).trans ?_ | with_reducible refine (shp_sJ _ _ _ _).trans ?_ | with_reducible refine shi ?_ ?_ | with_reducible refine shb (fun _ _ => ?_) | with_reducible refine shiP (fun q : Int32 × HSt => q.2) ?_ ?_ | with_reducible refine shbP (fun q : Int32 × HSt => q.2) (fun _ _ => ?_) | (subst_vars; with_reducible rfl) | (subst_vars; with_reducible refine (q_X12_doTick _ _ _ _ _ _).trans ?_) | (subst_vars; with_reducible refine (qL_X12_goOn_12 _ _ _ _ _ _).trans ?_) | (subst_vars; with_reducible refine (qL_X12_goOn_36 _ _ _ _ _ _).trans ?_) | (subst_vars; with_reducible refine (qL_X12_goOn_48 _ _ _ _ _ _ _).trans ?_) | (subst_vars; with_reducible refine (qL_X12_goOn_58 _ _ _ _ _ _ _ _).trans ?_) | (subst_vars; with_reducible refine (qL_X12_goOn_86 _ _ _ _ _ _ _ _ _).trans ?_) | (subst_vars; with_reducible refine (qL_X12_goOn_211 _ _ _ _ _ _).trans ?_) | (subst_vars; with_reducible refine (shp_sI _ _ _ _).trans ?_) | (subst_vars; with_reducible refine (shp_sJ _ _ _ _).trans ?_) | (subst_vars; with_reducible refine shi ?_ ?_) | (subst_vars; with_reducible refine shb (fun _ _ => ?_)))