noncomputable def F_X12_allOdds (S : HSt) (_o : Nat)  : Int32 × HSt := pr (((12 : Int32) * (((2 : Int32) * (f_X12_horseOf S 64 (2 : Int32))) + (1 : Int32)))) (S)
noncomputable def f_X12_allOdds (S : HSt) (_o : Nat)  : Int32 := (F_X12_allOdds S _o).1
def p_X12_allOdds (S : HSt) (_o : Nat)  : Prop := (p_X12_horseOf S 64 (2 : Int32))
set_option maxRecDepth 100000 in
theorem t_X12_allOdds (G : GG) (l : Launch) {S : HSt} (hM : MS S)  (hp : p_X12_allOdds S 64) : AM G l yX12_allOdds cX12_allOdds 1 (some .int) (rmD 1 0 0) 0 0 [.ref 64] S (FP (some (.int (f_X12_allOdds S 64))) (S)) := by
  have h0 := hp
  unfold p_X12_allOdds at h0
  refine AM.mk (by decide) (Nat.le_of_ble_eq_true rfl) ?_
  intro p e s m below meth c hC hSt _
  refine aw_bipush (v := 12) hC dX12_allOdds_0 (by decide) ?_
  refine aw_iconst (v := 2) hC dX12_allOdds_2 (by decide) ?_
  refine aw_aload_n hC 0 dX12_allOdds_3 rfl rfl ?_
  refine aw_iconst (v := 2) hC dX12_allOdds_4 (by decide) ?_
  refine aw_cV1r hC hSt (t_X12_horseOf G l hM _ (h0)) w_1093 w_1121 w_1122 w_1123 w_953 rfl rfl (by decide +kernel) ⟨Nat.le_of_ble_eq_true rfl, Nat.le_of_ble_eq_true rfl⟩ (ms_lt 64 (by decide) hM) (ms_k 64 12 0 (by decide) hM) rfl (Nat.le_of_ble_eq_true rfl) dX12_allOdds_5 ⟨Nat.zero_le _, Nat.zero_le _⟩ ?_
  refine aw_imul hC dX12_allOdds_8 ?_
  refine aw_iconst (v := 1) hC dX12_allOdds_9 (by decide) ?_
  refine aw_iadd hC dX12_allOdds_10 ?_
  refine aw_imul hC dX12_allOdds_11 ?_
  refine aw_iret hC dX12_allOdds_12 (Nat.le_refl _) (Nat.le_refl _) ?_
  exact FP.pI (rfl)
noncomputable def L_X12_common_6 : Nat → HSt → Int64 → Int64 → Int64 → Int64 → Int64 × Int64 × Int64 × Int64
  | 0, S, v0, v2, v4, v6 => (v0, v2, v4, v6)
  | n + 1, S, v0, v2, v4, v6 =>
    if (lg_cmp v6 (0 : Int64)) = 0 then ((pr (v0) (pr (v2) (pr (v4) (v6))))) else (bd ((v4 - v4 / v6 * v6)) fun x1002 => L_X12_common_6 n S v0 v2 v6 x1002)
def T_X12_common_6 : Nat → HSt → Int64 → Int64 → Int64 → Int64 → Prop
  | 0, _, _, _, _, _ => False
  | n + 1, S, v0, v2, v4, v6 => ((¬ (lg_cmp v6 (0 : Int64)) = 0) → ¬ v6 = 0) ∧ ((¬ (lg_cmp v6 (0 : Int64)) = 0) → ∀ x1002 : Int64, (v4 - v4 / v6 * v6) = x1002 → T_X12_common_6 n S v0 v2 v6 x1002)
set_option maxRecDepth 100000 in
theorem l_X12_common_6 {p : Program} {l : Launch} {e : Env} {s : State} {m : MethodId} {args : Array Value} {below : List Frame} {meth : Method} {c : Code} {G : GG} {Q : State → Prop} (hC : ACx p s m args meth c cX12_common RX12 10 (some .long)) (hSt : St G s)  : ∀ (n : Nat) (S : HSt) (v0 : Int64) (v2 : Int64) (v4 : Int64) (v6 : Int64), T_X12_common_6 n S v0 v2 v4 v6 → AW p l e (rmD 0 0 0) s m args below meth c G 10 Q S 0 0 31 [(0, .long (L_X12_common_6 n S v0 v2 v4 v6).1), (2, .long (L_X12_common_6 n S v0 v2 v4 v6).2.1), (4, .long (L_X12_common_6 n S v0 v2 v4 v6).2.2.1), (6, .long (L_X12_common_6 n S v0 v2 v4 v6).2.2.2)] [] → AW p l e (rmD 0 0 0) s m args below meth c G 10 Q S 0 0 6 [(0, .long v0), (2, .long v2), (4, .long v4), (6, .long v6)] [] := by
  intro n
  induction n with
  | zero => intro S v0 v2 v4 v6 hT; exact hT.elim
  | succ n ih =>
    intro S v0 v2 v4 v6 hT hk
    unfold T_X12_common_6 at hT
    obtain ⟨h0, h1⟩ := hT
    refine aw_lload hC 3 dX12_common_6 rfl ?_
    refine aw_lconst (v := 0) hC dX12_common_8 (by decide) ?_
    refine aw_lcmp hC dX12_common_9 ?_
    refine aw_if_eq hC 31 dX12_common_10 (by decide) (fun c1001 => ?_) (fun c1001 => ?_)
    · refine aw_sub [0, 1, 2, 3] rfl ?_
      have E : L_X12_common_6 (n + 1) S v0 v2 v4 v6 = _ := (if_pos c1001).trans (rfl)
      rw [E] at hk
      exact hk
    · refine aw_lload hC 2 dX12_common_13 rfl ?_
      refine aw_lload hC 3 dX12_common_15 rfl ?_
      refine aw_lrem hC dX12_common_17 ((h0 c1001)) ?_
      refine aw_lstore hC [(8, .long _), (0, .long _), (2, .long _), (4, .long _), (6, .long _)] dX12_common_18 (by decide) rfl ?_
      generalize ex1002 : (v4 - v4 / v6 * v6) = x1002
      refine aw_lload hC 4 dX12_common_20 rfl ?_
      refine aw_lstore hC [(4, .long _), (8, .long _), (0, .long _), (2, .long _), (6, .long _)] dX12_common_22 (by decide) rfl ?_
      refine aw_lload hC 1 dX12_common_24 rfl ?_
      refine aw_lstore hC [(6, .long _), (4, .long _), (8, .long _), (0, .long _), (2, .long _)] dX12_common_26 (by decide) rfl ?_
      refine aw_goto hC 6 dX12_common_28 (by decide) ?_
      refine aw_sub [3, 4, 1, 0] rfl ?_
      have hTn := (h1 c1001 x1002 ex1002)
      have E : L_X12_common_6 (n + 1) S v0 v2 v4 v6 = _ := (if_neg c1001).trans ((bd_eq ex1002).trans (rfl))
      rw [E] at hk
      exact ih _ _ _ _ _ hTn hk
noncomputable def F_X12_common (S : HSt) (a1 : Int64) (a2 : Int64) : Int64 × HSt := bd (L_X12_common_6 1000 S a1 a2 a1 a2) fun r1 => pr (r1.2.2.1) (S)
noncomputable def f_X12_common (S : HSt) (a1 : Int64) (a2 : Int64) : Int64 := (F_X12_common S a1 a2).1
def p_X12_common (S : HSt) (a1 : Int64) (a2 : Int64) : Prop := (T_X12_common_6 1000 S a1 a2 a1 a2)
set_option maxRecDepth 100000 in
theorem t_X12_common (G : GG) (l : Launch) {S : HSt} (a1 : Int64) (a2 : Int64) (hp : p_X12_common S a1 a2) : AM G l yX12_common cX12_common 10 (some .long) (rmD 0 0 0) 0 0 [.long a1, .long a2] S (FP (some (.long (f_X12_common S a1 a2))) (S)) := by
  have h0 := hp
  unfold p_X12_common at h0
  refine AM.mk (by decide) (Nat.le_of_ble_eq_true rfl) ?_
  intro p e s m below meth c hC hSt _
  refine aw_lload_n hC 0 dX12_common_0 rfl rfl ?_
  refine aw_lstore hC [(4, .long _), (0, .long _), (2, .long _)] dX12_common_1 (by decide) rfl ?_
  refine aw_lload_n hC 2 dX12_common_3 rfl rfl ?_
  refine aw_lstore hC [(6, .long _), (4, .long _), (0, .long _), (2, .long _)] dX12_common_4 (by decide) rfl ?_
  refine aw_sub [2, 3, 1, 0] rfl ?_
  refine l_X12_common_6 hC hSt 1000 _ _ _ _ _  (h0) ?_
  generalize er1 : L_X12_common_6 1000 S a1 a2 a1 a2 = r1
  refine aw_lload hC 2 dX12_common_31 rfl ?_
  refine aw_lret hC dX12_common_33 (Nat.le_refl _) (Nat.le_refl _) ?_
  exact FP.pJ ((bd_eq er1).trans (rfl))
noncomputable def F_X12_partOf (S : HSt) (a1 : Int64) (a2 : Int64) (a3 : Int32) : Int64 × HSt := bd ((if a3 = 0 then a1 else a2)) fun x2 => pr ((x2 / (f_X12_common S a1 a2))) (S)
noncomputable def f_X12_partOf (S : HSt) (a1 : Int64) (a2 : Int64) (a3 : Int32) : Int64 := (F_X12_partOf S a1 a2 a3).1
def p_X12_partOf (S : HSt) (a1 : Int64) (a2 : Int64) (a3 : Int32) : Prop := (∀ x2 : Int64, (if a3 = 0 then a1 else a2) = x2 → p_X12_common S a1 a2) ∧ (∀ x2 : Int64, (if a3 = 0 then a1 else a2) = x2 → ¬ (f_X12_common S a1 a2) = 0)
set_option maxRecDepth 100000 in
theorem t_X12_partOf (G : GG) (l : Launch) {S : HSt} (a1 : Int64) (a2 : Int64) (a3 : Int32) (hp : p_X12_partOf S a1 a2 a3) : AM G l yX12_partOf cX12_partOf 5 (some .long) (rmD 1 0 0) 0 0 [.long a1, .long a2, .int a3] S (FP (some (.long (f_X12_partOf S a1 a2 a3))) (S)) := by
  obtain ⟨h0, h1⟩ := hp
  refine AM.mk (by decide) (Nat.le_of_ble_eq_true rfl) ?_
  intro p e s m below meth c hC hSt _
  refine aw_iload hC 2 dX12_partOf_0 rfl ?_
  refine aw_cut (S' := S) (pc' := 10) (lv' := [(0, .long a1), (2, .long a2), (4, .int a3)]) (st' := [.long (if a3 = 0 then a1 else a2)]) ?_ (fun Jc1 => ?_)
  · generalize ex2 : (if a3 = 0 then a1 else a2) = x2
    refine aw_lload_n hC 0 dX12_partOf_10 rfl rfl ?_
    refine aw_lload_n hC 1 dX12_partOf_11 rfl rfl ?_
    refine aw_cS2r hC hSt (t_X12_common G l  _ _ (h0 x2 ex2)) w_1136 w_1138 w_1139 w_953 rfl rfl (by decide +kernel) ⟨Nat.le_of_ble_eq_true rfl, Nat.le_of_ble_eq_true rfl⟩ (Nat.le_of_ble_eq_true rfl) dX12_partOf_12 ⟨Nat.zero_le _, Nat.zero_le _⟩ ?_
    refine aw_ldiv hC dX12_partOf_15 ((h1 x2 ex2)) ?_
    refine aw_lret hC dX12_partOf_16 (Nat.le_refl _) (Nat.le_refl _) ?_
    exact FP.pJ ((bd_eq ex2).trans (rfl))
  · refine aw_if_ne hC 9 dX12_partOf_2 (by decide) (fun c1 => ?_) (fun c1 => ?_)
    · refine aw_lload_n hC 1 dX12_partOf_9 rfl rfl ?_
      simp only [bd_def, if_neg c1] at Jc1 ⊢
      exact Jc1
    · refine aw_lload_n hC 0 dX12_partOf_5 rfl rfl ?_
      refine aw_goto hC 10 dX12_partOf_6 (by decide) ?_
      simp only [bd_def, if_pos c1] at Jc1 ⊢
      exact Jc1
noncomputable def f_X12_counts (S : HSt) (_o : Nat) (a1 : Int32) (a2 : Int32) : Int32 × HSt := if (gI S 64 24) ≤ (gI S 68 (68 : Int32).toNatClampNeg) then (bd (f_X12_oddsOf S 64 a1 a2) fun r2 => bd ((if ((2 : Int32) * r2.1) < (f_X12_allOdds r2.2 64) then (-(gI r2.2 68 (71 : Int32).toNatClampNeg)) else (bd ((if a1 = 0 then (1 : Int32) else (2 : Int32))) fun x5 => (gI r2.2 68 ((68 : Int32) + x5).toNatClampNeg)))) fun x6 => pr (x6) (r2.2)) else (pr ((0 : Int32)) (S))
def p_X12_counts (S : HSt) (_o : Nat) (a1 : Int32) (a2 : Int32) : Prop := (((gI S 64 24) ≤ (gI S 68 (68 : Int32).toNatClampNeg)) → p_X12_oddsOf S 64 a1 a2) ∧ (((gI S 64 24) ≤ (gI S 68 (68 : Int32).toNatClampNeg)) → ∀ r2, f_X12_oddsOf S 64 a1 a2 = r2 → p_X12_allOdds r2.2 64) ∧ (((gI S 64 24) ≤ (gI S 68 (68 : Int32).toNatClampNeg)) → ∀ r2, f_X12_oddsOf S 64 a1 a2 = r2 → (¬ ((2 : Int32) * r2.1) < (f_X12_allOdds r2.2 64)) → ∀ x5 : Int32, (if a1 = 0 then (1 : Int32) else (2 : Int32)) = x5 → vp_in ((68 : Int32) + x5) 172)
set_option maxRecDepth 100000 in
theorem t_X12_counts (G : GG) (l : Launch) {S : HSt} (hM : MS S) (a1 : Int32) (a2 : Int32) (hp : p_X12_counts S 64 a1 a2) : AM G l yX12_counts cX12_counts 3 (some .int) (rmD 4 0 0) 0 0 [.ref 64, .int a1, .int a2] S (FP (some (.int (f_X12_counts S 64 a1 a2).1)) ((f_X12_counts S 64 a1 a2).2)) := by
  obtain ⟨h0, h1, h2⟩ := hp
  refine AM.mk (by decide) (Nat.le_of_ble_eq_true rfl) ?_
  intro p e s m below meth c hC hSt _
  refine aw_aload_n hC 0 dX12_counts_0 rfl rfl ?_
  refine aw_getI hC hSt 24 (ms_lt 64 (by decide) hM) (ms_k 64 12 0 (by decide) hM) rfl (by decide) w_1036 rfl dX12_counts_1 ?_
  refine aw_aload_n hC 0 dX12_counts_4 rfl rfl ?_
  refine aw_getP (b := 68) hC hSt 5 (ms_lt 64 (by decide) hM) (ms_k 64 12 0 (by decide) hM) rfl (by decide) w_920 rfl (ms_p 5 68 (by decide) hM) dX12_counts_5 ?_
  refine aw_bipush (v := 68) hC dX12_counts_8 (by decide) ?_
  refine aw_iald hC hSt (ms_lt 68 (by decide) hM) (ms_k 68 14 172 (by decide) hM) (vp_len (n := 172) (ms_l 68 14 172 (by decide) hM) (by unfold vp_in; decide)) dX12_counts_10 ?_
  refine aw_icmp_le hC 16 dX12_counts_11 (by decide) (fun c1 => ?_) (fun c1 => ?_)
  · refine aw_iconst (v := 2) hC dX12_counts_16 (by decide) ?_
    refine aw_aload_n hC 0 dX12_counts_17 rfl rfl ?_
    refine aw_iload_n hC 1 dX12_counts_18 rfl rfl ?_
    refine aw_iload_n hC 2 dX12_counts_19 rfl rfl ?_
    refine aw_cV2r hC hSt (t_X12_oddsOf G l hM _ _ (h0 c1)) w_1134 w_1140 w_1141 w_1142 w_953 rfl rfl (by decide +kernel) ⟨Nat.le_of_ble_eq_true rfl, Nat.le_of_ble_eq_true rfl⟩ (ms_lt 64 (by decide) hM) (ms_k 64 12 0 (by decide) hM) rfl (Nat.le_of_ble_eq_true rfl) dX12_counts_20 ⟨Nat.zero_le _, Nat.zero_le _⟩ ?_
    generalize er2 : f_X12_oddsOf S 64 a1 a2 = r2
    have hM : MS r2.2 := MS.of (by rw [← er2]; exact q_X12_oddsOf _ _ _ _) hM
    refine aw_imul hC dX12_counts_23 ?_
    refine aw_aload_n hC 0 dX12_counts_24 rfl rfl ?_
    refine aw_cV0r hC hSt (t_X12_allOdds G l hM  (h1 c1 r2 er2)) w_1135 w_1143 w_1144 w_1145 w_953 rfl rfl (by decide +kernel) ⟨Nat.le_of_ble_eq_true rfl, Nat.le_of_ble_eq_true rfl⟩ (ms_lt 64 (by decide) hM) (ms_k 64 12 0 (by decide) hM) rfl (Nat.le_of_ble_eq_true rfl) dX12_counts_25 ⟨Nat.zero_le _, Nat.zero_le _⟩ ?_
    refine aw_cut (S' := r2.2) (pc' := 59) (lv' := [(0, .ref 64), (1, .int a1), (2, .int a2)]) (st' := [.int (if ((2 : Int32) * r2.1) < (f_X12_allOdds r2.2 64) then (-(gI r2.2 68 (71 : Int32).toNatClampNeg)) else (bd ((if a1 = 0 then (1 : Int32) else (2 : Int32))) fun x5 => (gI r2.2 68 ((68 : Int32) + x5).toNatClampNeg)))]) ?_ (fun Jc3 => ?_)
    · generalize ex6 : (if ((2 : Int32) * r2.1) < (f_X12_allOdds r2.2 64) then (-(gI r2.2 68 (71 : Int32).toNatClampNeg)) else (bd ((if a1 = 0 then (1 : Int32) else (2 : Int32))) fun x5 => (gI r2.2 68 ((68 : Int32) + x5).toNatClampNeg))) = x6
      refine aw_iret hC dX12_counts_59 (Nat.le_refl _) (Nat.le_refl _) ?_
      exact FP.qI ((if_pos c1).trans ((bd_eq er2).trans ((bd_eq ex6).trans (rfl))))
    · refine aw_icmp_lt hC 51 dX12_counts_28 (by decide) (fun c3 => ?_) (fun c3 => ?_)
      · refine aw_aload_n hC 0 dX12_counts_51 rfl rfl ?_
        refine aw_getP (b := 68) hC hSt 5 (ms_lt 64 (by decide) hM) (ms_k 64 12 0 (by decide) hM) rfl (by decide) w_920 rfl (ms_p 5 68 (by decide) hM) dX12_counts_52 ?_
        refine aw_bipush (v := 71) hC dX12_counts_55 (by decide) ?_
        refine aw_iald hC hSt (ms_lt 68 (by decide) hM) (ms_k 68 14 172 (by decide) hM) (vp_len (n := 172) (ms_l 68 14 172 (by decide) hM) (by unfold vp_in; decide)) dX12_counts_57 ?_
        refine aw_ineg hC dX12_counts_58 ?_
        simp only [bd_def, if_pos c3] at Jc3 ⊢
        exact Jc3
      · refine aw_aload_n hC 0 dX12_counts_31 rfl rfl ?_
        refine aw_getP (b := 68) hC hSt 5 (ms_lt 64 (by decide) hM) (ms_k 64 12 0 (by decide) hM) rfl (by decide) w_920 rfl (ms_p 5 68 (by decide) hM) dX12_counts_32 ?_
        refine aw_bipush (v := 68) hC dX12_counts_35 (by decide) ?_
        refine aw_iload_n hC 1 dX12_counts_37 rfl rfl ?_
        refine aw_cut (S' := r2.2) (pc' := 46) (lv' := [(0, .ref 64), (1, .int a1), (2, .int a2)]) (st' := [.int (if a1 = 0 then (1 : Int32) else (2 : Int32)), .int (68 : Int32), .ref 68]) ?_ (fun Jc4 => ?_)
        · generalize ex5 : (if a1 = 0 then (1 : Int32) else (2 : Int32)) = x5
          refine aw_iadd hC dX12_counts_46 ?_
          refine aw_iald hC hSt (ms_lt 68 (by decide) hM) (ms_k 68 14 172 (by decide) hM) (vp_len (n := 172) (ms_l 68 14 172 (by decide) hM) (h2 c1 r2 er2 c3 x5 ex5)) dX12_counts_47 ?_
          refine aw_goto hC 59 dX12_counts_48 (by decide) ?_
          subst ex5
          simp only [bd_def, if_neg c3] at Jc3 ⊢
          exact Jc3
        · refine aw_if_eq hC 45 dX12_counts_38 (by decide) (fun c4 => ?_) (fun c4 => ?_)
          · refine aw_iconst (v := 1) hC dX12_counts_45 (by decide) ?_
            simp only [bd_def, if_pos c4] at Jc4 ⊢
            exact Jc4
          · refine aw_iconst (v := 2) hC dX12_counts_41 (by decide) ?_
            refine aw_goto hC 46 dX12_counts_42 (by decide) ?_
            simp only [bd_def, if_neg c4] at Jc4 ⊢
            exact Jc4
  · refine aw_iconst (v := 0) hC dX12_counts_14 (by decide) ?_
    refine aw_iret hC dX12_counts_15 (Nat.le_refl _) (Nat.le_refl _) ?_
    exact FP.qI ((if_neg c1).trans (rfl))
theorem q_X12_counts (S : HSt) (_o : Nat) (a1 : Int32) (a2 : Int32) : shp ((f_X12_counts S _o a1 a2).2) = shp S := by
  unfold f_X12_counts
  repeat' (first | with_reducible refine shpr1 ?_ | with_reducible rfl | with_reducible refine (q_X12_oddsOf _ _ _ _).trans ?_ | with_reducible refine (shp_sI _ _ _ _).trans ?_ | with_reducible refine (shp_sJ _ _ _ _).trans ?_ | with_reducible refine shi ?_ ?_ | with_reducible refine shb (fun _ _ => ?_) | with_reducible refine shiP (fun q : Int32 × HSt => q.2) ?_ ?_ | with_reducible refine shbP (fun q : Int32 × HSt => q.2) (fun _ _ => ?_) | (subst_vars; with_reducible rfl) | (subst_vars; with_reducible refine (q_X12_oddsOf _ _ _ _).trans ?_) | (subst_vars; with_reducible refine (shp_sI _ _ _ _).trans ?_) | (subst_vars; with_reducible refine (shp_sJ _ _ _ _).trans ?_) | (subst_vars; with_reducible refine shi ?_ ?_) | (subst_vars; with_reducible refine shb (fun _ _ => ?_)))
noncomputable def f_X12_take (S : HSt) (_o : Nat) (a1 : Int32) (a2 : Int32) : Int64 × HSt := bd ((sI S 64 0 (0 : Int32))) fun S1 => if (f_X12_in S1 a1.toInt64 (0 : Int64) ((gI S1 68 (0 : Int32).toNatClampNeg) - (1 : Int32)).toInt64) = 0 then (pr ((-9000000000000000001 : Int64)) (S1)) else (if a2 = (-1000000 : Int32) then (bd ((sI S1 64 18 a1)) fun S4 => bd ((sI S4 64 19 a2)) fun S5 => bd (f_X12_first S5 64) fun r6 => bd (f_X12_keepLive r6 64) fun r7 => pr ((1 : Int64)) (r7)) else (if (f_X12_in S1 a2.toInt64 (0 : Int64) ((gI S1 68 (1 : Int32).toNatClampNeg) - (1 : Int32)).toInt64) = 0 then (pr ((-9000000000000000001 : Int64)) (S1)) else (bd ((sI S1 64 18 a1)) fun S9 => bd ((sI S9 64 19 a2)) fun S10 => bd (f_X12_first S10 64) fun r11 => bd (f_X12_keepLive r11 64) fun r12 => pr ((1 : Int64)) (r12))))
def p_X12_take (S : HSt) (_o : Nat) (a1 : Int32) (a2 : Int32) : Prop := (∀ S1 : HSt, (sI S 64 0 (0 : Int32)) = S1 → (¬ (f_X12_in S1 a1.toInt64 (0 : Int64) ((gI S1 68 (0 : Int32).toNatClampNeg) - (1 : Int32)).toInt64) = 0) → (a2 = (-1000000 : Int32)) → ∀ S4 : HSt, (sI S1 64 18 a1) = S4 → ∀ S5 : HSt, (sI S4 64 19 a2) = S5 → ∀ r6, f_X12_first S5 64 = r6 → p_X12_keepLive r6 64) ∧ (∀ S1 : HSt, (sI S 64 0 (0 : Int32)) = S1 → (¬ (f_X12_in S1 a1.toInt64 (0 : Int64) ((gI S1 68 (0 : Int32).toNatClampNeg) - (1 : Int32)).toInt64) = 0) → (¬ a2 = (-1000000 : Int32)) → (¬ (f_X12_in S1 a2.toInt64 (0 : Int64) ((gI S1 68 (1 : Int32).toNatClampNeg) - (1 : Int32)).toInt64) = 0) → ∀ S9 : HSt, (sI S1 64 18 a1) = S9 → ∀ S10 : HSt, (sI S9 64 19 a2) = S10 → ∀ r11, f_X12_first S10 64 = r11 → p_X12_keepLive r11 64)
set_option maxRecDepth 100000 in
theorem t_X12_take (G : GG) (l : Launch) {S : HSt} (hM : MS S) (a1 : Int32) (a2 : Int32) (hp : p_X12_take S 64 a1 a2) : AM G l yX12_take cX12_take 3 (some .long) (rmD 2 0 0) 0 0 [.ref 64, .int a1, .int a2] S (FP (some (.long (f_X12_take S 64 a1 a2).1)) ((f_X12_take S 64 a1 a2).2)) := by
  obtain ⟨h0, h1⟩ := hp
  refine AM.mk (by decide) (Nat.le_of_ble_eq_true rfl) ?_
  intro p e s m below meth c hC hSt _
  refine aw_aload_n hC 0 dX12_take_0 rfl rfl ?_
  refine aw_iconst (v := 0) hC dX12_take_1 (by decide) ?_
  refine aw_putI hC hSt 0 (ms_lt 64 (by decide) hM) (ms_k 64 12 0 (by decide) hM) rfl (by decide) w_955 rfl rfl rfl rfl dX12_take_2 ?_
  generalize eS1 : (sI S 64 0 (0 : Int32)) = S1
  have hM : MS S1 := MS.of (by rw [← eS1]; exact shp_sI _ _ _ _) hM
  refine aw_iload_n hC 1 dX12_take_5 rfl rfl ?_
  refine aw_i2l hC dX12_take_6 ?_
  refine aw_lconst (v := 0) hC dX12_take_7 (by decide) ?_
  refine aw_aload_n hC 0 dX12_take_8 rfl rfl ?_
  refine aw_getP (b := 68) hC hSt 5 (ms_lt 64 (by decide) hM) (ms_k 64 12 0 (by decide) hM) rfl (by decide) w_920 rfl (ms_p 5 68 (by decide) hM) dX12_take_9 ?_
  refine aw_iconst (v := 0) hC dX12_take_12 (by decide) ?_
  refine aw_iald hC hSt (ms_lt 68 (by decide) hM) (ms_k 68 14 172 (by decide) hM) (vp_len (n := 172) (ms_l 68 14 172 (by decide) hM) (by unfold vp_in; decide)) dX12_take_13 ?_
  refine aw_iconst (v := 1) hC dX12_take_14 (by decide) ?_
  refine aw_isub hC dX12_take_15 ?_
  refine aw_i2l hC dX12_take_16 ?_
  refine aw_cS3r hC hSt (t_X12_in G l  _ _ _) w_945 w_951 w_952 w_953 rfl rfl (by decide +kernel) ⟨Nat.le_of_ble_eq_true rfl, Nat.le_of_ble_eq_true rfl⟩ (Nat.le_of_ble_eq_true rfl) dX12_take_17 ⟨Nat.zero_le _, Nat.zero_le _⟩ ?_
  refine aw_if_eq hC 47 dX12_take_20 (by decide) (fun c2 => ?_) (fun c2 => ?_)
  · refine aw_ldc2 (v := -9000000000000000001) hC w_957 dX12_take_47 ?_
    refine aw_lret hC dX12_take_50 (Nat.le_refl _) (Nat.le_refl _) ?_
    exact FP.qJ ((bd_eq eS1).trans ((if_pos c2).trans (rfl)))
  · refine aw_iload_n hC 2 dX12_take_23 rfl rfl ?_
    refine aw_ldc (v := -1000000) hC w_923 dX12_take_24 ?_
    refine aw_icmp_eq hC 51 dX12_take_26 (by decide) (fun c3 => ?_) (fun c3 => ?_)
    · refine aw_aload_n hC 0 dX12_take_51 rfl rfl ?_
      refine aw_iload_n hC 1 dX12_take_52 rfl rfl ?_
      refine aw_putI hC hSt 18 (ms_lt 64 (by decide) hM) (ms_k 64 12 0 (by decide) hM) rfl (by decide) w_1052 rfl rfl rfl rfl dX12_take_53 ?_
      generalize eS4 : (sI S1 64 18 a1) = S4
      have hM : MS S4 := MS.of (by rw [← eS4]; exact shp_sI _ _ _ _) hM
      refine aw_aload_n hC 0 dX12_take_56 rfl rfl ?_
      refine aw_iload_n hC 2 dX12_take_57 rfl rfl ?_
      refine aw_putI hC hSt 19 (ms_lt 64 (by decide) hM) (ms_k 64 12 0 (by decide) hM) rfl (by decide) w_924 rfl rfl rfl rfl dX12_take_58 ?_
      generalize eS5 : (sI S4 64 19 a2) = S5
      have hM : MS S5 := MS.of (by rw [← eS5]; exact shp_sI _ _ _ _) hM
      refine aw_aload_n hC 0 dX12_take_61 rfl rfl ?_
      refine aw_cV0v hC hSt (t_X12_first G l hM ) w_1031 w_1071 w_1072 w_1073 w_953 rfl rfl (by decide +kernel) ⟨Nat.le_of_ble_eq_true rfl, Nat.le_of_ble_eq_true rfl⟩ (ms_lt 64 (by decide) hM) (ms_k 64 12 0 (by decide) hM) rfl (Nat.le_of_ble_eq_true rfl) dX12_take_62 ⟨Nat.zero_le _, Nat.zero_le _⟩ ?_
      generalize er6 : f_X12_first S5 64 = r6
      have hM : MS r6 := MS.of (by rw [← er6]; exact q_X12_first _ _) hM
      refine aw_aload_n hC 0 dX12_take_65 rfl rfl ?_
      refine aw_cV0v hC hSt (t_X12_keepLive G l hM  (h0 S1 eS1 c2 c3 S4 eS4 S5 eS5 r6 er6)) w_1040 w_1074 w_1075 w_1076 w_953 rfl rfl (by decide +kernel) ⟨Nat.le_of_ble_eq_true rfl, Nat.le_of_ble_eq_true rfl⟩ (ms_lt 64 (by decide) hM) (ms_k 64 12 0 (by decide) hM) rfl (Nat.le_of_ble_eq_true rfl) dX12_take_66 ⟨Nat.zero_le _, Nat.zero_le _⟩ ?_
      generalize er7 : f_X12_keepLive r6 64 = r7
      have hM : MS r7 := MS.of (by rw [← er7]; exact q_X12_keepLive _ _) hM
      refine aw_lconst (v := 1) hC dX12_take_69 (by decide) ?_
      refine aw_lret hC dX12_take_70 (Nat.le_refl _) (Nat.le_refl _) ?_
      exact FP.qJ ((bd_eq eS1).trans ((if_neg c2).trans ((if_pos c3).trans ((bd_eq eS4).trans ((bd_eq eS5).trans ((bd_eq er6).trans ((bd_eq er7).trans (rfl))))))))
    · refine aw_iload_n hC 2 dX12_take_29 rfl rfl ?_
      refine aw_i2l hC dX12_take_30 ?_
      refine aw_lconst (v := 0) hC dX12_take_31 (by decide) ?_
      refine aw_aload_n hC 0 dX12_take_32 rfl rfl ?_
      refine aw_getP (b := 68) hC hSt 5 (ms_lt 64 (by decide) hM) (ms_k 64 12 0 (by decide) hM) rfl (by decide) w_920 rfl (ms_p 5 68 (by decide) hM) dX12_take_33 ?_
      refine aw_iconst (v := 1) hC dX12_take_36 (by decide) ?_
      refine aw_iald hC hSt (ms_lt 68 (by decide) hM) (ms_k 68 14 172 (by decide) hM) (vp_len (n := 172) (ms_l 68 14 172 (by decide) hM) (by unfold vp_in; decide)) dX12_take_37 ?_
      refine aw_iconst (v := 1) hC dX12_take_38 (by decide) ?_
      refine aw_isub hC dX12_take_39 ?_
      refine aw_i2l hC dX12_take_40 ?_
      refine aw_cS3r hC hSt (t_X12_in G l  _ _ _) w_945 w_951 w_952 w_953 rfl rfl (by decide +kernel) ⟨Nat.le_of_ble_eq_true rfl, Nat.le_of_ble_eq_true rfl⟩ (Nat.le_of_ble_eq_true rfl) dX12_take_41 ⟨Nat.zero_le _, Nat.zero_le _⟩ ?_
      refine aw_if_ne hC 51 dX12_take_44 (by decide) (fun c8 => ?_) (fun c8 => ?_)
      · refine aw_aload_n hC 0 dX12_take_51 rfl rfl ?_
        refine aw_iload_n hC 1 dX12_take_52 rfl rfl ?_
        refine aw_putI hC hSt 18 (ms_lt 64 (by decide) hM) (ms_k 64 12 0 (by decide) hM) rfl (by decide) w_1052 rfl rfl rfl rfl dX12_take_53 ?_
        generalize eS9 : (sI S1 64 18 a1) = S9
        have hM : MS S9 := MS.of (by rw [← eS9]; exact shp_sI _ _ _ _) hM
        refine aw_aload_n hC 0 dX12_take_56 rfl rfl ?_
        refine aw_iload_n hC 2 dX12_take_57 rfl rfl ?_
        refine aw_putI hC hSt 19 (ms_lt 64 (by decide) hM) (ms_k 64 12 0 (by decide) hM) rfl (by decide) w_924 rfl rfl rfl rfl dX12_take_58 ?_
        generalize eS10 : (sI S9 64 19 a2) = S10
        have hM : MS S10 := MS.of (by rw [← eS10]; exact shp_sI _ _ _ _) hM
        refine aw_aload_n hC 0 dX12_take_61 rfl rfl ?_
        refine aw_cV0v hC hSt (t_X12_first G l hM ) w_1031 w_1071 w_1072 w_1073 w_953 rfl rfl (by decide +kernel) ⟨Nat.le_of_ble_eq_true rfl, Nat.le_of_ble_eq_true rfl⟩ (ms_lt 64 (by decide) hM) (ms_k 64 12 0 (by decide) hM) rfl (Nat.le_of_ble_eq_true rfl) dX12_take_62 ⟨Nat.zero_le _, Nat.zero_le _⟩ ?_
        generalize er11 : f_X12_first S10 64 = r11
        have hM : MS r11 := MS.of (by rw [← er11]; exact q_X12_first _ _) hM
        refine aw_aload_n hC 0 dX12_take_65 rfl rfl ?_
        refine aw_cV0v hC hSt (t_X12_keepLive G l hM  (h1 S1 eS1 c2 c3 c8 S9 eS9 S10 eS10 r11 er11)) w_1040 w_1074 w_1075 w_1076 w_953 rfl rfl (by decide +kernel) ⟨Nat.le_of_ble_eq_true rfl, Nat.le_of_ble_eq_true rfl⟩ (ms_lt 64 (by decide) hM) (ms_k 64 12 0 (by decide) hM) rfl (Nat.le_of_ble_eq_true rfl) dX12_take_66 ⟨Nat.zero_le _, Nat.zero_le _⟩ ?_
        generalize er12 : f_X12_keepLive r11 64 = r12
        have hM : MS r12 := MS.of (by rw [← er12]; exact q_X12_keepLive _ _) hM
        refine aw_lconst (v := 1) hC dX12_take_69 (by decide) ?_
        refine aw_lret hC dX12_take_70 (Nat.le_refl _) (Nat.le_refl _) ?_
        exact FP.qJ ((bd_eq eS1).trans ((if_neg c2).trans ((if_neg c3).trans ((if_neg c8).trans ((bd_eq eS9).trans ((bd_eq eS10).trans ((bd_eq er11).trans ((bd_eq er12).trans (rfl)))))))))
      · refine aw_ldc2 (v := -9000000000000000001) hC w_957 dX12_take_47 ?_
        refine aw_lret hC dX12_take_50 (Nat.le_refl _) (Nat.le_refl _) ?_
        exact FP.qJ ((bd_eq eS1).trans ((if_neg c2).trans ((if_neg c3).trans ((if_pos c8).trans (rfl)))))
theorem q_X12_take (S : HSt) (_o : Nat) (a1 : Int32) (a2 : Int32) : shp ((f_X12_take S _o a1 a2).2) = shp S := by
  unfold f_X12_take
  repeat' (first | with_reducible refine shpr1 ?_ | with_reducible rfl | with_reducible refine (q_X12_first _ _).trans ?_ | with_reducible refine (q_X12_keepLive _ _).trans ?_ | with_reducible refine (shp_sI _ _ _ _).trans ?_ | with_reducible refine (shp_sJ _ _ _ _).trans ?_ | with_reducible refine shi ?_ ?_ | with_reducible refine shb (fun _ _ => ?_) | with_reducible refine shiP (fun q : Int64 × HSt => q.2) ?_ ?_ | with_reducible refine shbP (fun q : Int64 × HSt => q.2) (fun _ _ => ?_) | (subst_vars; with_reducible rfl) | (subst_vars; with_reducible refine (q_X12_first _ _).trans ?_) | (subst_vars; with_reducible refine (q_X12_keepLive _ _).trans ?_) | (subst_vars; with_reducible refine (shp_sI _ _ _ _).trans ?_) | (subst_vars; with_reducible refine (shp_sJ _ _ _ _).trans ?_) | (subst_vars; with_reducible refine shi ?_ ?_) | (subst_vars; with_reducible refine shb (fun _ _ => ?_)))
noncomputable def f_X12_tick (S : HSt) (_o : Nat) (a1 : Int32) (a2 : Int32) (a3 : Int32) (a4 : Int32) : Int64 × HSt := bd ((sI S 64 0 (0 : Int32))) fun S1 => if (f_X12_in S1 a1.toInt64 (0 : Int64) (1 : Int64)) = 0 then (pr ((-9000000000000000001 : Int64)) (S1)) else (if (f_X12_in S1 a2.toInt64 (0 : Int64) (4 : Int64)) = 0 then (pr ((-9000000000000000001 : Int64)) (S1)) else (if (f_X12_in S1 a3.toInt64 (0 : Int64) (9 : Int64)) = 0 then (pr ((-9000000000000000001 : Int64)) (S1)) else (if (f_X12_in S1 a4.toInt64 (0 : Int64) (15 : Int64)) = 0 then (pr ((-9000000000000000001 : Int64)) (S1)) else (bd (f_X12_layLive S1 64) fun r6 => if (gI r6 64 7) = 0 then (pr ((-9000000000000000002 : Int64)) (r6)) else (if (f_X12_isStill r6 64) = 0 then (bd ((if a1 = (1 : Int32) then (1 : Int32) else (0 : Int32))) fun x10 => bd (f_X12_doTick r6 64 x10 a2 a3 a4) fun r11 => bd (f_X12_keepLive r11 64) fun r12 => pr ((gI r12 64 26).toInt64) (r12)) else (pr ((-9000000000000000002 : Int64)) (r6)))))))
def p_X12_tick (S : HSt) (_o : Nat) (a1 : Int32) (a2 : Int32) (a3 : Int32) (a4 : Int32) : Prop := (∀ S1 : HSt, (sI S 64 0 (0 : Int32)) = S1 → (¬ (f_X12_in S1 a1.toInt64 (0 : Int64) (1 : Int64)) = 0) → (¬ (f_X12_in S1 a2.toInt64 (0 : Int64) (4 : Int64)) = 0) → (¬ (f_X12_in S1 a3.toInt64 (0 : Int64) (9 : Int64)) = 0) → (¬ (f_X12_in S1 a4.toInt64 (0 : Int64) (15 : Int64)) = 0) → ∀ r6, f_X12_layLive S1 64 = r6 → (¬ (gI r6 64 7) = 0) → ((f_X12_isStill r6 64) = 0) → ∀ x10 : Int32, (if a1 = (1 : Int32) then (1 : Int32) else (0 : Int32)) = x10 → p_X12_doTick r6 64 x10 a2 a3 a4) ∧ (∀ S1 : HSt, (sI S 64 0 (0 : Int32)) = S1 → (¬ (f_X12_in S1 a1.toInt64 (0 : Int64) (1 : Int64)) = 0) → (¬ (f_X12_in S1 a2.toInt64 (0 : Int64) (4 : Int64)) = 0) → (¬ (f_X12_in S1 a3.toInt64 (0 : Int64) (9 : Int64)) = 0) → (¬ (f_X12_in S1 a4.toInt64 (0 : Int64) (15 : Int64)) = 0) → ∀ r6, f_X12_layLive S1 64 = r6 → (¬ (gI r6 64 7) = 0) → ((f_X12_isStill r6 64) = 0) → ∀ x10 : Int32, (if a1 = (1 : Int32) then (1 : Int32) else (0 : Int32)) = x10 → ∀ r11, f_X12_doTick r6 64 x10 a2 a3 a4 = r11 → p_X12_keepLive r11 64)
set_option maxRecDepth 100000 in
theorem t_X12_tick (G : GG) (l : Launch) {S : HSt} (hM : MS S) (a1 : Int32) (a2 : Int32) (a3 : Int32) (a4 : Int32) (hp : p_X12_tick S 64 a1 a2 a3 a4) : AM G l yX12_tick cX12_tick 5 (some .long) (rmD 3 0 0) 0 0 [.ref 64, .int a1, .int a2, .int a3, .int a4] S (FP (some (.long (f_X12_tick S 64 a1 a2 a3 a4).1)) ((f_X12_tick S 64 a1 a2 a3 a4).2)) := by
  obtain ⟨h0, h1⟩ := hp
  refine AM.mk (by decide) (Nat.le_of_ble_eq_true rfl) ?_
  intro p e s m below meth c hC hSt _
  refine aw_aload_n hC 0 dX12_tick_0 rfl rfl ?_
  refine aw_iconst (v := 0) hC dX12_tick_1 (by decide) ?_
  refine aw_putI hC hSt 0 (ms_lt 64 (by decide) hM) (ms_k 64 12 0 (by decide) hM) rfl (by decide) w_955 rfl rfl rfl rfl dX12_tick_2 ?_
  generalize eS1 : (sI S 64 0 (0 : Int32)) = S1
  have hM : MS S1 := MS.of (by rw [← eS1]; exact shp_sI _ _ _ _) hM
  refine aw_iload_n hC 1 dX12_tick_5 rfl rfl ?_
  refine aw_i2l hC dX12_tick_6 ?_
  refine aw_lconst (v := 0) hC dX12_tick_7 (by decide) ?_
  refine aw_lconst (v := 1) hC dX12_tick_8 (by decide) ?_
  refine aw_cS3r hC hSt (t_X12_in G l  _ _ _) w_945 w_951 w_952 w_953 rfl rfl (by decide +kernel) ⟨Nat.le_of_ble_eq_true rfl, Nat.le_of_ble_eq_true rfl⟩ (Nat.le_of_ble_eq_true rfl) dX12_tick_9 ⟨Nat.zero_le _, Nat.zero_le _⟩ ?_
  refine aw_if_eq hC 52 dX12_tick_12 (by decide) (fun c2 => ?_) (fun c2 => ?_)
  · refine aw_ldc2 (v := -9000000000000000001) hC w_957 dX12_tick_52 ?_
    refine aw_lret hC dX12_tick_55 (Nat.le_refl _) (Nat.le_refl _) ?_
    exact FP.qJ ((bd_eq eS1).trans ((if_pos c2).trans (rfl)))
  · refine aw_iload_n hC 2 dX12_tick_15 rfl rfl ?_
    refine aw_i2l hC dX12_tick_16 ?_
    refine aw_lconst (v := 0) hC dX12_tick_17 (by decide) ?_
    refine aw_ldc2 (v := 4) hC w_1148 dX12_tick_18 ?_
    refine aw_cS3r hC hSt (t_X12_in G l  _ _ _) w_945 w_951 w_952 w_953 rfl rfl (by decide +kernel) ⟨Nat.le_of_ble_eq_true rfl, Nat.le_of_ble_eq_true rfl⟩ (Nat.le_of_ble_eq_true rfl) dX12_tick_21 ⟨Nat.zero_le _, Nat.zero_le _⟩ ?_
    refine aw_if_eq hC 52 dX12_tick_24 (by decide) (fun c3 => ?_) (fun c3 => ?_)
    · refine aw_ldc2 (v := -9000000000000000001) hC w_957 dX12_tick_52 ?_
      refine aw_lret hC dX12_tick_55 (Nat.le_refl _) (Nat.le_refl _) ?_
      exact FP.qJ ((bd_eq eS1).trans ((if_neg c2).trans ((if_pos c3).trans (rfl))))
    · refine aw_iload_n hC 3 dX12_tick_27 rfl rfl ?_
      refine aw_i2l hC dX12_tick_28 ?_
      refine aw_lconst (v := 0) hC dX12_tick_29 (by decide) ?_
      refine aw_ldc2 (v := 9) hC w_1149 dX12_tick_30 ?_
      refine aw_cS3r hC hSt (t_X12_in G l  _ _ _) w_945 w_951 w_952 w_953 rfl rfl (by decide +kernel) ⟨Nat.le_of_ble_eq_true rfl, Nat.le_of_ble_eq_true rfl⟩ (Nat.le_of_ble_eq_true rfl) dX12_tick_33 ⟨Nat.zero_le _, Nat.zero_le _⟩ ?_
      refine aw_if_eq hC 52 dX12_tick_36 (by decide) (fun c4 => ?_) (fun c4 => ?_)
      · refine aw_ldc2 (v := -9000000000000000001) hC w_957 dX12_tick_52 ?_
        refine aw_lret hC dX12_tick_55 (Nat.le_refl _) (Nat.le_refl _) ?_
        exact FP.qJ ((bd_eq eS1).trans ((if_neg c2).trans ((if_neg c3).trans ((if_pos c4).trans (rfl)))))
      · refine aw_iload hC 4 dX12_tick_39 rfl ?_
        refine aw_i2l hC dX12_tick_41 ?_
        refine aw_lconst (v := 0) hC dX12_tick_42 (by decide) ?_
        refine aw_ldc2 (v := 15) hC w_1150 dX12_tick_43 ?_
        refine aw_cS3r hC hSt (t_X12_in G l  _ _ _) w_945 w_951 w_952 w_953 rfl rfl (by decide +kernel) ⟨Nat.le_of_ble_eq_true rfl, Nat.le_of_ble_eq_true rfl⟩ (Nat.le_of_ble_eq_true rfl) dX12_tick_46 ⟨Nat.zero_le _, Nat.zero_le _⟩ ?_
        refine aw_if_ne hC 56 dX12_tick_49 (by decide) (fun c5 => ?_) (fun c5 => ?_)
        · refine aw_aload_n hC 0 dX12_tick_56 rfl rfl ?_
          refine aw_cV0v hC hSt (t_X12_layLive G l hM ) w_1091 w_1152 w_1153 w_1154 w_953 rfl rfl (by decide +kernel) ⟨Nat.le_of_ble_eq_true rfl, Nat.le_of_ble_eq_true rfl⟩ (ms_lt 64 (by decide) hM) (ms_k 64 12 0 (by decide) hM) rfl (Nat.le_of_ble_eq_true rfl) dX12_tick_57 ⟨Nat.zero_le _, Nat.zero_le _⟩ ?_
          generalize er6 : f_X12_layLive S1 64 = r6
          have hM : MS r6 := MS.of (by rw [← er6]; exact q_X12_layLive _ _) hM
          refine aw_aload_n hC 0 dX12_tick_60 rfl rfl ?_
          refine aw_getI hC hSt 7 (ms_lt 64 (by decide) hM) (ms_k 64 12 0 (by decide) hM) rfl (by decide) w_1051 rfl dX12_tick_61 ?_
          refine aw_if_eq hC 74 dX12_tick_64 (by decide) (fun c7 => ?_) (fun c7 => ?_)
          · refine aw_ldc2 (v := -9000000000000000002) hC w_1151 dX12_tick_74 ?_
            refine aw_lret hC dX12_tick_77 (Nat.le_refl _) (Nat.le_refl _) ?_
            exact FP.qJ ((bd_eq eS1).trans ((if_neg c2).trans ((if_neg c3).trans ((if_neg c4).trans ((if_neg c5).trans ((bd_eq er6).trans ((if_pos c7).trans (rfl))))))))
          · refine aw_aload_n hC 0 dX12_tick_67 rfl rfl ?_
            refine aw_cV0r hC hSt (t_X12_isStill G l hM ) w_1099 w_1118 w_1119 w_1120 w_953 rfl rfl (by decide +kernel) ⟨Nat.le_of_ble_eq_true rfl, Nat.le_of_ble_eq_true rfl⟩ (ms_lt 64 (by decide) hM) (ms_k 64 12 0 (by decide) hM) rfl (Nat.le_of_ble_eq_true rfl) dX12_tick_68 ⟨Nat.zero_le _, Nat.zero_le _⟩ ?_
            refine aw_if_eq hC 78 dX12_tick_71 (by decide) (fun c8 => ?_) (fun c8 => ?_)
            · refine aw_aload_n hC 0 dX12_tick_78 rfl rfl ?_
              refine aw_iload_n hC 1 dX12_tick_79 rfl rfl ?_
              refine aw_iconst (v := 1) hC dX12_tick_80 (by decide) ?_
              refine aw_cut (S' := r6) (pc' := 89) (lv' := [(0, .ref 64), (1, .int a1), (2, .int a2), (3, .int a3), (4, .int a4)]) (st' := [.int (if a1 = (1 : Int32) then (1 : Int32) else (0 : Int32)), .ref 64]) ?_ (fun Jc9 => ?_)
              · generalize ex10 : (if a1 = (1 : Int32) then (1 : Int32) else (0 : Int32)) = x10
                refine aw_iload_n hC 2 dX12_tick_89 rfl rfl ?_
                refine aw_iload_n hC 3 dX12_tick_90 rfl rfl ?_
                refine aw_iload hC 4 dX12_tick_91 rfl ?_
                refine aw_cV4v hC hSt (t_X12_doTick G l hM _ _ _ _ (h0 S1 eS1 c2 c3 c4 c5 r6 er6 c7 c8 x10 ex10)) w_1110 w_1155 w_1156 w_1157 w_953 rfl rfl (by decide +kernel) ⟨Nat.le_of_ble_eq_true rfl, Nat.le_of_ble_eq_true rfl⟩ (ms_lt 64 (by decide) hM) (ms_k 64 12 0 (by decide) hM) rfl (Nat.le_of_ble_eq_true rfl) dX12_tick_93 ⟨Nat.zero_le _, Nat.zero_le _⟩ ?_
                generalize er11 : f_X12_doTick r6 64 x10 a2 a3 a4 = r11
                have hM : MS r11 := MS.of (by rw [← er11]; exact q_X12_doTick _ _ _ _ _ _) hM
                refine aw_aload_n hC 0 dX12_tick_96 rfl rfl ?_
                refine aw_cV0v hC hSt (t_X12_keepLive G l hM  (h1 S1 eS1 c2 c3 c4 c5 r6 er6 c7 c8 x10 ex10 r11 er11)) w_1040 w_1074 w_1075 w_1076 w_953 rfl rfl (by decide +kernel) ⟨Nat.le_of_ble_eq_true rfl, Nat.le_of_ble_eq_true rfl⟩ (ms_lt 64 (by decide) hM) (ms_k 64 12 0 (by decide) hM) rfl (Nat.le_of_ble_eq_true rfl) dX12_tick_97 ⟨Nat.zero_le _, Nat.zero_le _⟩ ?_
                generalize er12 : f_X12_keepLive r11 64 = r12
                have hM : MS r12 := MS.of (by rw [← er12]; exact q_X12_keepLive _ _) hM
                refine aw_aload_n hC 0 dX12_tick_100 rfl rfl ?_
                refine aw_getI hC hSt 26 (ms_lt 64 (by decide) hM) (ms_k 64 12 0 (by decide) hM) rfl (by decide) w_1038 rfl dX12_tick_101 ?_
                refine aw_i2l hC dX12_tick_104 ?_
                refine aw_lret hC dX12_tick_105 (Nat.le_refl _) (Nat.le_refl _) ?_
                exact FP.qJ ((bd_eq eS1).trans ((if_neg c2).trans ((if_neg c3).trans ((if_neg c4).trans ((if_neg c5).trans ((bd_eq er6).trans ((if_neg c7).trans ((if_pos c8).trans ((bd_eq ex10).trans ((bd_eq er11).trans ((bd_eq er12).trans (rfl))))))))))))
              · refine aw_icmp_ne hC 88 dX12_tick_81 (by decide) (fun c9 => ?_) (fun c9 => ?_)
                · refine aw_iconst (v := 0) hC dX12_tick_88 (by decide) ?_
                  simp only [bd_def, if_neg c9] at Jc9 ⊢
                  exact Jc9
                · refine aw_iconst (v := 1) hC dX12_tick_84 (by decide) ?_
                  refine aw_goto hC 89 dX12_tick_85 (by decide) ?_
                  simp only [bd_def, if_pos c9] at Jc9 ⊢
                  exact Jc9
            · refine aw_ldc2 (v := -9000000000000000002) hC w_1151 dX12_tick_74 ?_
              refine aw_lret hC dX12_tick_77 (Nat.le_refl _) (Nat.le_refl _) ?_
              exact FP.qJ ((bd_eq eS1).trans ((if_neg c2).trans ((if_neg c3).trans ((if_neg c4).trans ((if_neg c5).trans ((bd_eq er6).trans ((if_neg c7).trans ((if_neg c8).trans (rfl)))))))))
        · refine aw_ldc2 (v := -9000000000000000001) hC w_957 dX12_tick_52 ?_
          refine aw_lret hC dX12_tick_55 (Nat.le_refl _) (Nat.le_refl _) ?_
          exact FP.qJ ((bd_eq eS1).trans ((if_neg c2).trans ((if_neg c3).trans ((if_neg c4).trans ((if_pos c5).trans (rfl))))))
theorem q_X12_tick (S : HSt) (_o : Nat) (a1 : Int32) (a2 : Int32) (a3 : Int32) (a4 : Int32) : shp ((f_X12_tick S _o a1 a2 a3 a4).2) = shp S := by
  unfold f_X12_tick
  repeat' (first | with_reducible refine shpr1 ?_ | with_reducible rfl | with_reducible refine (q_X12_doTick _ _ _ _ _ _).trans ?_ | with_reducible refine (q_X12_keepLive _ _).trans ?_ | with_reducible refine (q_X12_layLive _ _).trans ?_ | with_reducible refine (shp_sI _ _ _ _).trans ?_ | with_reducible refine (shp_sJ _ _ _ _).trans ?_ | with_reducible refine shi ?_ ?_ | with_reducible refine shb (fun _ _ => ?_) | with_reducible refine shiP (fun q : Int64 × HSt => q.2) ?_ ?_ | with_reducible refine shbP (fun q : Int64 × HSt => q.2) (fun _ _ => ?_) | (subst_vars; with_reducible rfl) | (subst_vars; with_reducible refine (q_X12_doTick _ _ _ _ _ _).trans ?_) | (subst_vars; with_reducible refine (q_X12_keepLive _ _).trans ?_) | (subst_vars; with_reducible refine (q_X12_layLive _ _).trans ?_) | (subst_vars; with_reducible refine (shp_sI _ _ _ _).trans ?_) | (subst_vars; with_reducible refine (shp_sJ _ _ _ _).trans ?_) | (subst_vars; with_reducible refine shi ?_ ?_) | (subst_vars; with_reducible refine shb (fun _ _ => ?_)))
noncomputable def f_X12_hurl (S : HSt) (_o : Nat) (a1 : Int32) (a2 : Int32) : Int64 × HSt := bd ((sI S 64 0 (0 : Int32))) fun S1 => if (f_X12_in S1 a1.toInt64 (0 : Int64) (1 : Int64)) = 0 then (pr ((-9000000000000000001 : Int64)) (S1)) else (if (f_X12_isBeast S1 64 a2) = 0 then (pr ((-9000000000000000001 : Int64)) (S1)) else (bd (f_X12_layLive S1 64) fun r4 => bd ((if a1 = (1 : Int32) then (1 : Int32) else (0 : Int32))) fun x6 => bd (f_X12_missBy r4 64 x6 a2 (gI r4 64 21)) fun r7 => bd (r7.1) fun x8 => bd (f_X12_shut r7.2 64) fun r9 => bd (f_X12_keepLive r9 64) fun r10 => pr (x8.toInt64) (r10)))
def p_X12_hurl (S : HSt) (_o : Nat) (a1 : Int32) (a2 : Int32) : Prop := (∀ S1 : HSt, (sI S 64 0 (0 : Int32)) = S1 → (¬ (f_X12_in S1 a1.toInt64 (0 : Int64) (1 : Int64)) = 0) → (¬ (f_X12_isBeast S1 64 a2) = 0) → ∀ r4, f_X12_layLive S1 64 = r4 → ∀ x6 : Int32, (if a1 = (1 : Int32) then (1 : Int32) else (0 : Int32)) = x6 → p_X12_missBy r4 64 x6 a2 (gI r4 64 21)) ∧ (∀ S1 : HSt, (sI S 64 0 (0 : Int32)) = S1 → (¬ (f_X12_in S1 a1.toInt64 (0 : Int64) (1 : Int64)) = 0) → (¬ (f_X12_isBeast S1 64 a2) = 0) → ∀ r4, f_X12_layLive S1 64 = r4 → ∀ x6 : Int32, (if a1 = (1 : Int32) then (1 : Int32) else (0 : Int32)) = x6 → ∀ r7, f_X12_missBy r4 64 x6 a2 (gI r4 64 21) = r7 → ∀ x8 : Int32, r7.1 = x8 → ∀ r9, f_X12_shut r7.2 64 = r9 → p_X12_keepLive r9 64)
set_option maxRecDepth 100000 in
theorem t_X12_hurl (G : GG) (l : Launch) {S : HSt} (hM : MS S) (a1 : Int32) (a2 : Int32) (hp : p_X12_hurl S 64 a1 a2) : AM G l yX12_hurl cX12_hurl 4 (some .long) (rmD 2 0 0) 0 0 [.ref 64, .int a1, .int a2] S (FP (some (.long (f_X12_hurl S 64 a1 a2).1)) ((f_X12_hurl S 64 a1 a2).2)) := by
  obtain ⟨h0, h1⟩ := hp
  refine AM.mk (by decide) (Nat.le_of_ble_eq_true rfl) ?_
  intro p e s m below meth c hC hSt _
  refine aw_aload_n hC 0 dX12_hurl_0 rfl rfl ?_
  refine aw_iconst (v := 0) hC dX12_hurl_1 (by decide) ?_
  refine aw_putI hC hSt 0 (ms_lt 64 (by decide) hM) (ms_k 64 12 0 (by decide) hM) rfl (by decide) w_955 rfl rfl rfl rfl dX12_hurl_2 ?_
  generalize eS1 : (sI S 64 0 (0 : Int32)) = S1
  have hM : MS S1 := MS.of (by rw [← eS1]; exact shp_sI _ _ _ _) hM
  refine aw_iload_n hC 1 dX12_hurl_5 rfl rfl ?_
  refine aw_i2l hC dX12_hurl_6 ?_
  refine aw_lconst (v := 0) hC dX12_hurl_7 (by decide) ?_
  refine aw_lconst (v := 1) hC dX12_hurl_8 (by decide) ?_
  refine aw_cS3r hC hSt (t_X12_in G l  _ _ _) w_945 w_951 w_952 w_953 rfl rfl (by decide +kernel) ⟨Nat.le_of_ble_eq_true rfl, Nat.le_of_ble_eq_true rfl⟩ (Nat.le_of_ble_eq_true rfl) dX12_hurl_9 ⟨Nat.zero_le _, Nat.zero_le _⟩ ?_
  refine aw_if_eq hC 23 dX12_hurl_12 (by decide) (fun c2 => ?_) (fun c2 => ?_)
  · refine aw_ldc2 (v := -9000000000000000001) hC w_957 dX12_hurl_23 ?_
    refine aw_lret hC dX12_hurl_26 (Nat.le_refl _) (Nat.le_refl _) ?_
    exact FP.qJ ((bd_eq eS1).trans ((if_pos c2).trans (rfl)))
  · refine aw_aload_n hC 0 dX12_hurl_15 rfl rfl ?_
    refine aw_iload_n hC 2 dX12_hurl_16 rfl rfl ?_
    refine aw_cV1r hC hSt (t_X12_isBeast G l hM _) w_1081 w_1159 w_1160 w_1161 w_953 rfl rfl (by decide +kernel) ⟨Nat.le_of_ble_eq_true rfl, Nat.le_of_ble_eq_true rfl⟩ (ms_lt 64 (by decide) hM) (ms_k 64 12 0 (by decide) hM) rfl (Nat.le_of_ble_eq_true rfl) dX12_hurl_17 ⟨Nat.zero_le _, Nat.zero_le _⟩ ?_
    refine aw_if_ne hC 27 dX12_hurl_20 (by decide) (fun c3 => ?_) (fun c3 => ?_)
    · refine aw_aload_n hC 0 dX12_hurl_27 rfl rfl ?_
      refine aw_cV0v hC hSt (t_X12_layLive G l hM ) w_1091 w_1152 w_1153 w_1154 w_953 rfl rfl (by decide +kernel) ⟨Nat.le_of_ble_eq_true rfl, Nat.le_of_ble_eq_true rfl⟩ (ms_lt 64 (by decide) hM) (ms_k 64 12 0 (by decide) hM) rfl (Nat.le_of_ble_eq_true rfl) dX12_hurl_28 ⟨Nat.zero_le _, Nat.zero_le _⟩ ?_
      generalize er4 : f_X12_layLive S1 64 = r4
      have hM : MS r4 := MS.of (by rw [← er4]; exact q_X12_layLive _ _) hM
      refine aw_aload_n hC 0 dX12_hurl_31 rfl rfl ?_
      refine aw_iload_n hC 1 dX12_hurl_32 rfl rfl ?_
      refine aw_iconst (v := 1) hC dX12_hurl_33 (by decide) ?_
      refine aw_cut (S' := r4) (pc' := 42) (lv' := [(0, .ref 64), (1, .int a1), (2, .int a2)]) (st' := [.int (if a1 = (1 : Int32) then (1 : Int32) else (0 : Int32)), .ref 64]) ?_ (fun Jc5 => ?_)
      · generalize ex6 : (if a1 = (1 : Int32) then (1 : Int32) else (0 : Int32)) = x6
        refine aw_iload_n hC 2 dX12_hurl_42 rfl rfl ?_
        refine aw_aload_n hC 0 dX12_hurl_43 rfl rfl ?_
        refine aw_getI hC hSt 21 (ms_lt 64 (by decide) hM) (ms_k 64 12 0 (by decide) hM) rfl (by decide) w_1033 rfl dX12_hurl_44 ?_
        refine aw_cV3r hC hSt (t_X12_missBy G l hM _ _ _ (h0 S1 eS1 c2 c3 r4 er4 x6 ex6)) w_1116 w_1128 w_1129 w_1130 w_953 rfl rfl (by decide +kernel) ⟨Nat.le_of_ble_eq_true rfl, Nat.le_of_ble_eq_true rfl⟩ (ms_lt 64 (by decide) hM) (ms_k 64 12 0 (by decide) hM) rfl (Nat.le_of_ble_eq_true rfl) dX12_hurl_47 ⟨Nat.zero_le _, Nat.zero_le _⟩ ?_
        generalize er7 : f_X12_missBy r4 64 x6 a2 (gI r4 64 21) = r7
        have hM : MS r7.2 := MS.of (by rw [← er7]; exact q_X12_missBy _ _ _ _ _) hM
        refine aw_istore_n hC [(3, .int _), (0, .ref 64), (1, .int _), (2, .int _)] dX12_hurl_50 rfl (by decide) rfl ?_
        generalize ex8 : r7.1 = x8
        refine aw_aload_n hC 1 dX12_hurl_51 rfl rfl ?_
        refine aw_cV0v hC hSt (t_X12_shut G l hM ) w_1111 w_1113 w_1114 w_1115 w_953 rfl rfl (by decide +kernel) ⟨Nat.le_of_ble_eq_true rfl, Nat.le_of_ble_eq_true rfl⟩ (ms_lt 64 (by decide) hM) (ms_k 64 12 0 (by decide) hM) rfl (Nat.le_of_ble_eq_true rfl) dX12_hurl_52 ⟨Nat.zero_le _, Nat.zero_le _⟩ ?_
        generalize er9 : f_X12_shut r7.2 64 = r9
        have hM : MS r9 := MS.of (by rw [← er9]; exact q_X12_shut _ _) hM
        refine aw_aload_n hC 1 dX12_hurl_55 rfl rfl ?_
        refine aw_cV0v hC hSt (t_X12_keepLive G l hM  (h1 S1 eS1 c2 c3 r4 er4 x6 ex6 r7 er7 x8 ex8 r9 er9)) w_1040 w_1074 w_1075 w_1076 w_953 rfl rfl (by decide +kernel) ⟨Nat.le_of_ble_eq_true rfl, Nat.le_of_ble_eq_true rfl⟩ (ms_lt 64 (by decide) hM) (ms_k 64 12 0 (by decide) hM) rfl (Nat.le_of_ble_eq_true rfl) dX12_hurl_56 ⟨Nat.zero_le _, Nat.zero_le _⟩ ?_
        generalize er10 : f_X12_keepLive r9 64 = r10
        have hM : MS r10 := MS.of (by rw [← er10]; exact q_X12_keepLive _ _) hM
        refine aw_iload_n hC 0 dX12_hurl_59 rfl rfl ?_
        refine aw_i2l hC dX12_hurl_60 ?_
        refine aw_lret hC dX12_hurl_61 (Nat.le_refl _) (Nat.le_refl _) ?_
        exact FP.qJ ((bd_eq eS1).trans ((if_neg c2).trans ((if_neg c3).trans ((bd_eq er4).trans ((bd_eq ex6).trans ((bd_eq er7).trans ((bd_eq ex8).trans ((bd_eq er9).trans ((bd_eq er10).trans (rfl))))))))))
      · refine aw_icmp_ne hC 41 dX12_hurl_34 (by decide) (fun c5 => ?_) (fun c5 => ?_)
        · refine aw_iconst (v := 0) hC dX12_hurl_41 (by decide) ?_
          simp only [bd_def, if_neg c5] at Jc5 ⊢
          exact Jc5
        · refine aw_iconst (v := 1) hC dX12_hurl_37 (by decide) ?_
          refine aw_goto hC 42 dX12_hurl_38 (by decide) ?_
          simp only [bd_def, if_pos c5] at Jc5 ⊢
          exact Jc5
    · refine aw_ldc2 (v := -9000000000000000001) hC w_957 dX12_hurl_23 ?_
      refine aw_lret hC dX12_hurl_26 (Nat.le_refl _) (Nat.le_refl _) ?_
      exact FP.qJ ((bd_eq eS1).trans ((if_neg c2).trans ((if_pos c3).trans (rfl))))
theorem q_X12_hurl (S : HSt) (_o : Nat) (a1 : Int32) (a2 : Int32) : shp ((f_X12_hurl S _o a1 a2).2) = shp S := by
  unfold f_X12_hurl
  repeat' (first | with_reducible refine shpr1 ?_ | with_reducible rfl | with_reducible refine (q_X12_keepLive _ _).trans ?_ | with_reducible refine (q_X12_layLive _ _).trans ?_ | with_reducible refine (q_X12_missBy _ _ _ _ _).trans ?_ | with_reducible refine (q_X12_shut _ _).trans ?_ | with_reducible refine (shp_sI _ _ _ _).trans ?_ | with_reducible refine (shp_sJ _ _ _ _).trans ?_ | with_reducible refine shi ?_ ?_ | with_reducible refine shb (fun _ _ => ?_) | with_reducible refine shiP (fun q : Int64 × HSt => q.2) ?_ ?_ | with_reducible refine shbP (fun q : Int64 × HSt => q.2) (fun _ _ => ?_) | (subst_vars; with_reducible rfl) | (subst_vars; with_reducible refine (q_X12_keepLive _ _).trans ?_) | (subst_vars; with_reducible refine (q_X12_layLive _ _).trans ?_) | (subst_vars; with_reducible refine (q_X12_missBy _ _ _ _ _).trans ?_) | (subst_vars; with_reducible refine (q_X12_shut _ _).trans ?_) | (subst_vars; with_reducible refine (shp_sI _ _ _ _).trans ?_) | (subst_vars; with_reducible refine (shp_sJ _ _ _ _).trans ?_) | (subst_vars; with_reducible refine shi ?_ ?_) | (subst_vars; with_reducible refine shb (fun _ _ => ?_)))
noncomputable def f_X12_close (S : HSt) (_o : Nat)  : Int64 × HSt := bd ((sI S 64 0 (0 : Int32))) fun S1 => if (gI S1 64 7) = 0 then (pr ((-9000000000000000002 : Int64)) (S1)) else (bd (f_X12_layLive S1 64) fun r3 => bd (f_X12_doClose r3 64) fun r4 => bd (f_X12_keepLive r4 64) fun r5 => pr ((gI r5 64 24).toInt64) (r5))
def p_X12_close (S : HSt) (_o : Nat)  : Prop := (∀ S1 : HSt, (sI S 64 0 (0 : Int32)) = S1 → (¬ (gI S1 64 7) = 0) → ∀ r3, f_X12_layLive S1 64 = r3 → ∀ r4, f_X12_doClose r3 64 = r4 → p_X12_keepLive r4 64)
set_option maxRecDepth 100000 in
theorem t_X12_close (G : GG) (l : Launch) {S : HSt} (hM : MS S)  (hp : p_X12_close S 64) : AM G l yX12_close cX12_close 1 (some .long) (rmD 2 0 0) 0 0 [.ref 64] S (FP (some (.long (f_X12_close S 64).1)) ((f_X12_close S 64).2)) := by
  have h0 := hp
  unfold p_X12_close at h0
  refine AM.mk (by decide) (Nat.le_of_ble_eq_true rfl) ?_
  intro p e s m below meth c hC hSt _
  refine aw_aload_n hC 0 dX12_close_0 rfl rfl ?_
  refine aw_iconst (v := 0) hC dX12_close_1 (by decide) ?_
  refine aw_putI hC hSt 0 (ms_lt 64 (by decide) hM) (ms_k 64 12 0 (by decide) hM) rfl (by decide) w_955 rfl rfl rfl rfl dX12_close_2 ?_
  generalize eS1 : (sI S 64 0 (0 : Int32)) = S1
  have hM : MS S1 := MS.of (by rw [← eS1]; exact shp_sI _ _ _ _) hM
  refine aw_aload_n hC 0 dX12_close_5 rfl rfl ?_
  refine aw_getI hC hSt 7 (ms_lt 64 (by decide) hM) (ms_k 64 12 0 (by decide) hM) rfl (by decide) w_1051 rfl dX12_close_6 ?_
  refine aw_if_ne hC 16 dX12_close_9 (by decide) (fun c2 => ?_) (fun c2 => ?_)
  · refine aw_aload_n hC 0 dX12_close_16 rfl rfl ?_
    refine aw_cV0v hC hSt (t_X12_layLive G l hM ) w_1091 w_1152 w_1153 w_1154 w_953 rfl rfl (by decide +kernel) ⟨Nat.le_of_ble_eq_true rfl, Nat.le_of_ble_eq_true rfl⟩ (ms_lt 64 (by decide) hM) (ms_k 64 12 0 (by decide) hM) rfl (Nat.le_of_ble_eq_true rfl) dX12_close_17 ⟨Nat.zero_le _, Nat.zero_le _⟩ ?_
    generalize er3 : f_X12_layLive S1 64 = r3
    have hM : MS r3 := MS.of (by rw [← er3]; exact q_X12_layLive _ _) hM
    refine aw_aload_n hC 0 dX12_close_20 rfl rfl ?_
    refine aw_cV0v hC hSt (t_X12_doClose G l hM ) w_1112 w_1163 w_1164 w_1165 w_953 rfl rfl (by decide +kernel) ⟨Nat.le_of_ble_eq_true rfl, Nat.le_of_ble_eq_true rfl⟩ (ms_lt 64 (by decide) hM) (ms_k 64 12 0 (by decide) hM) rfl (Nat.le_of_ble_eq_true rfl) dX12_close_21 ⟨Nat.zero_le _, Nat.zero_le _⟩ ?_
    generalize er4 : f_X12_doClose r3 64 = r4
    have hM : MS r4 := MS.of (by rw [← er4]; exact q_X12_doClose _ _) hM
    refine aw_aload_n hC 0 dX12_close_24 rfl rfl ?_
    refine aw_cV0v hC hSt (t_X12_keepLive G l hM  (h0 S1 eS1 c2 r3 er3 r4 er4)) w_1040 w_1074 w_1075 w_1076 w_953 rfl rfl (by decide +kernel) ⟨Nat.le_of_ble_eq_true rfl, Nat.le_of_ble_eq_true rfl⟩ (ms_lt 64 (by decide) hM) (ms_k 64 12 0 (by decide) hM) rfl (Nat.le_of_ble_eq_true rfl) dX12_close_25 ⟨Nat.zero_le _, Nat.zero_le _⟩ ?_
    generalize er5 : f_X12_keepLive r4 64 = r5
    have hM : MS r5 := MS.of (by rw [← er5]; exact q_X12_keepLive _ _) hM
    refine aw_aload_n hC 0 dX12_close_28 rfl rfl ?_
    refine aw_getI hC hSt 24 (ms_lt 64 (by decide) hM) (ms_k 64 12 0 (by decide) hM) rfl (by decide) w_1036 rfl dX12_close_29 ?_
    refine aw_i2l hC dX12_close_32 ?_
    refine aw_lret hC dX12_close_33 (Nat.le_refl _) (Nat.le_refl _) ?_
    exact FP.qJ ((bd_eq eS1).trans ((if_neg c2).trans ((bd_eq er3).trans ((bd_eq er4).trans ((bd_eq er5).trans (rfl))))))
  · refine aw_ldc2 (v := -9000000000000000002) hC w_1151 dX12_close_12 ?_
    refine aw_lret hC dX12_close_15 (Nat.le_refl _) (Nat.le_refl _) ?_
    exact FP.qJ ((bd_eq eS1).trans ((if_pos c2).trans (rfl)))
theorem q_X12_close (S : HSt) (_o : Nat)  : shp ((f_X12_close S _o).2) = shp S := by
  unfold f_X12_close
  repeat' (first | with_reducible refine shpr1 ?_ | with_reducible rfl | with_reducible refine (q_X12_doClose _ _).trans ?_ | with_reducible refine (q_X12_keepLive _ _).trans ?_ | with_reducible refine (q_X12_layLive _ _).trans ?_ | with_reducible refine (shp_sI _ _ _ _).trans ?_ | with_reducible refine (shp_sJ _ _ _ _).trans ?_ | with_reducible refine shi ?_ ?_ | with_reducible refine shb (fun _ _ => ?_) | with_reducible refine shiP (fun q : Int64 × HSt => q.2) ?_ ?_ | with_reducible refine shbP (fun q : Int64 × HSt => q.2) (fun _ _ => ?_) | (subst_vars; with_reducible rfl) | (subst_vars; with_reducible refine (q_X12_doClose _ _).trans ?_) | (subst_vars; with_reducible refine (q_X12_keepLive _ _).trans ?_) | (subst_vars; with_reducible refine (q_X12_layLive _ _).trans ?_) | (subst_vars; with_reducible refine (shp_sI _ _ _ _).trans ?_) | (subst_vars; with_reducible refine (shp_sJ _ _ _ _).trans ?_) | (subst_vars; with_reducible refine shi ?_ ?_) | (subst_vars; with_reducible refine shb (fun _ _ => ?_)))
noncomputable def f_X12_now (S : HSt) (_o : Nat) (a1 : Int32) : Int64 × HSt := bd ((sI S 64 0 (0 : Int32))) fun S1 => bd ((if (f_X12_in S1 a1.toInt64 (0 : Int64) (6 : Int64)) = 0 then (-9000000000000000001 : Int64) else (if (gI S1 64 7) = 0 then (-9000000000000000002 : Int64) else (gI S1 71 a1.toNatClampNeg).toInt64))) fun x4 => pr (x4) (S1)
def p_X12_now (S : HSt) (_o : Nat) (a1 : Int32) : Prop := (∀ S1 : HSt, (sI S 64 0 (0 : Int32)) = S1 → (¬ (f_X12_in S1 a1.toInt64 (0 : Int64) (6 : Int64)) = 0) → (¬ (gI S1 64 7) = 0) → vp_in a1 7)
set_option maxRecDepth 100000 in
theorem t_X12_now (G : GG) (l : Launch) {S : HSt} (hM : MS S) (a1 : Int32) (hp : p_X12_now S 64 a1) : AM G l yX12_now cX12_now 2 (some .long) (rmD 1 0 0) 0 0 [.ref 64, .int a1] S (FP (some (.long (f_X12_now S 64 a1).1)) ((f_X12_now S 64 a1).2)) := by
  have h0 := hp
  unfold p_X12_now at h0
  refine AM.mk (by decide) (Nat.le_of_ble_eq_true rfl) ?_
  intro p e s m below meth c hC hSt _
  refine aw_aload_n hC 0 dX12_now_0 rfl rfl ?_
  refine aw_iconst (v := 0) hC dX12_now_1 (by decide) ?_
  refine aw_putI hC hSt 0 (ms_lt 64 (by decide) hM) (ms_k 64 12 0 (by decide) hM) rfl (by decide) w_955 rfl rfl rfl rfl dX12_now_2 ?_
  generalize eS1 : (sI S 64 0 (0 : Int32)) = S1
  have hM : MS S1 := MS.of (by rw [← eS1]; exact shp_sI _ _ _ _) hM
  refine aw_iload_n hC 1 dX12_now_5 rfl rfl ?_
  refine aw_i2l hC dX12_now_6 ?_
  refine aw_lconst (v := 0) hC dX12_now_7 (by decide) ?_
  refine aw_ldc2 (v := 6) hC w_1168 dX12_now_8 ?_
  refine aw_cS3r hC hSt (t_X12_in G l  _ _ _) w_945 w_951 w_952 w_953 rfl rfl (by decide +kernel) ⟨Nat.le_of_ble_eq_true rfl, Nat.le_of_ble_eq_true rfl⟩ (Nat.le_of_ble_eq_true rfl) dX12_now_11 ⟨Nat.zero_le _, Nat.zero_le _⟩ ?_
  refine aw_cut (S' := S1) (pc' := 43) (lv' := [(0, .ref 64), (1, .int a1)]) (st' := [.long (if (f_X12_in S1 a1.toInt64 (0 : Int64) (6 : Int64)) = 0 then (-9000000000000000001 : Int64) else (if (gI S1 64 7) = 0 then (-9000000000000000002 : Int64) else (gI S1 71 a1.toNatClampNeg).toInt64))]) ?_ (fun Jc2 => ?_)
  · generalize ex4 : (if (f_X12_in S1 a1.toInt64 (0 : Int64) (6 : Int64)) = 0 then (-9000000000000000001 : Int64) else (if (gI S1 64 7) = 0 then (-9000000000000000002 : Int64) else (gI S1 71 a1.toNatClampNeg).toInt64)) = x4
    refine aw_lret hC dX12_now_43 (Nat.le_refl _) (Nat.le_refl _) ?_
    exact FP.qJ ((bd_eq eS1).trans ((bd_eq ex4).trans (rfl)))
  · refine aw_if_ne hC 23 dX12_now_14 (by decide) (fun c2 => ?_) (fun c2 => ?_)
    · refine aw_aload_n hC 0 dX12_now_23 rfl rfl ?_
      refine aw_getI hC hSt 7 (ms_lt 64 (by decide) hM) (ms_k 64 12 0 (by decide) hM) rfl (by decide) w_1051 rfl dX12_now_24 ?_
      refine aw_if_eq hC 40 dX12_now_27 (by decide) (fun c3 => ?_) (fun c3 => ?_)
      · refine aw_ldc2 (v := -9000000000000000002) hC w_1151 dX12_now_40 ?_
        simp only [bd_def, if_neg c2, if_pos c3] at Jc2 ⊢
        exact Jc2
      · refine aw_aload_n hC 0 dX12_now_30 rfl rfl ?_
        refine aw_getP (b := 71) hC hSt 27 (ms_lt 64 (by decide) hM) (ms_k 64 12 0 (by decide) hM) rfl (by decide) w_925 rfl (ms_p 27 71 (by decide) hM) dX12_now_31 ?_
        refine aw_iload_n hC 1 dX12_now_34 rfl rfl ?_
        refine aw_iald hC hSt (ms_lt 71 (by decide) hM) (ms_k 71 14 7 (by decide) hM) (vp_len (n := 7) (ms_l 71 14 7 (by decide) hM) (h0 S1 eS1 c2 c3)) dX12_now_35 ?_
        refine aw_i2l hC dX12_now_36 ?_
        refine aw_goto hC 43 dX12_now_37 (by decide) ?_
        simp only [bd_def, if_neg c2, if_neg c3] at Jc2 ⊢
        exact Jc2
    · refine aw_ldc2 (v := -9000000000000000001) hC w_957 dX12_now_17 ?_
      refine aw_goto hC 43 dX12_now_20 (by decide) ?_
      simp only [bd_def, if_pos c2] at Jc2 ⊢
      exact Jc2
theorem q_X12_now (S : HSt) (_o : Nat) (a1 : Int32) : shp ((f_X12_now S _o a1).2) = shp S := by
  unfold f_X12_now
  repeat' (first | with_reducible refine shpr1 ?_ | with_reducible rfl | with_reducible refine (shp_sI _ _ _ _).trans ?_ | with_reducible refine (shp_sJ _ _ _ _).trans ?_ | with_reducible refine shi ?_ ?_ | with_reducible refine shb (fun _ _ => ?_) | with_reducible refine shiP (fun q : Int64 × HSt => q.2) ?_ ?_ | with_reducible refine shbP (fun q : Int64 × HSt => q.2) (fun _ _ => ?_) | (subst_vars; with_reducible rfl) | (subst_vars; with_reducible refine (shp_sI _ _ _ _).trans ?_) | (subst_vars; with_reducible refine (shp_sJ _ _ _ _).trans ?_) | (subst_vars; with_reducible refine shi ?_ ?_) | (subst_vars; with_reducible refine shb (fun _ _ => ?_)))
noncomputable def f_X12_piece (S : HSt) (_o : Nat) (a1 : Int32) : Int64 × HSt := bd ((sI S 64 0 (0 : Int32))) fun S1 => if (gI S1 64 7) = 0 then (pr ((-9000000000000000002 : Int64)) (S1)) else (if (f_X12_in S1 a1.toInt64 (0 : Int64) (((f_X12_ropeOf S1 64 (0 : Int32)) / (10 : Int32)) - (1 : Int32)).toInt64) = 0 then (pr ((-9000000000000000001 : Int64)) (S1)) else (bd (((gI S1 71 (0 : Int32).toNatClampNeg) / (10 : Int32))) fun x4 => bd ((if x4 ≤ a1 then (if a1 = x4 then (3 : Int64) else (if ((x4 + (4 : Int32)) + ((gI S1 71 (0 : Int32).toNatClampNeg) / (40 : Int32))) < a1 then (0 : Int64) else (1 : Int64))) else (2 : Int64))) fun x8 => pr (x8) (S1)))
def p_X12_piece (S : HSt) (_o : Nat) (a1 : Int32) : Prop := (∀ S1 : HSt, (sI S 64 0 (0 : Int32)) = S1 → (¬ (gI S1 64 7) = 0) → p_X12_ropeOf S1 64 (0 : Int32))
set_option maxRecDepth 100000 in
theorem t_X12_piece (G : GG) (l : Launch) {S : HSt} (hM : MS S) (a1 : Int32) (hp : p_X12_piece S 64 a1) : AM G l yX12_piece cX12_piece 3 (some .long) (rmD 1 0 0) 0 0 [.ref 64, .int a1] S (FP (some (.long (f_X12_piece S 64 a1).1)) ((f_X12_piece S 64 a1).2)) := by
  have h0 := hp
  unfold p_X12_piece at h0
  refine AM.mk (by decide) (Nat.le_of_ble_eq_true rfl) ?_
  intro p e s m below meth c hC hSt _
  refine aw_aload_n hC 0 dX12_piece_0 rfl rfl ?_
  refine aw_iconst (v := 0) hC dX12_piece_1 (by decide) ?_
  refine aw_putI hC hSt 0 (ms_lt 64 (by decide) hM) (ms_k 64 12 0 (by decide) hM) rfl (by decide) w_955 rfl rfl rfl rfl dX12_piece_2 ?_
  generalize eS1 : (sI S 64 0 (0 : Int32)) = S1
  have hM : MS S1 := MS.of (by rw [← eS1]; exact shp_sI _ _ _ _) hM
  refine aw_aload_n hC 0 dX12_piece_5 rfl rfl ?_
  refine aw_getI hC hSt 7 (ms_lt 64 (by decide) hM) (ms_k 64 12 0 (by decide) hM) rfl (by decide) w_1051 rfl dX12_piece_6 ?_
  refine aw_if_ne hC 16 dX12_piece_9 (by decide) (fun c2 => ?_) (fun c2 => ?_)
  · refine aw_iload_n hC 1 dX12_piece_16 rfl rfl ?_
    refine aw_i2l hC dX12_piece_17 ?_
    refine aw_lconst (v := 0) hC dX12_piece_18 (by decide) ?_
    refine aw_aload_n hC 0 dX12_piece_19 rfl rfl ?_
    refine aw_iconst (v := 0) hC dX12_piece_20 (by decide) ?_
    refine aw_cV1r hC hSt (t_X12_ropeOf G l hM _ (h0 S1 eS1 c2)) w_1092 w_1095 w_1096 w_1097 w_953 rfl rfl (by decide +kernel) ⟨Nat.le_of_ble_eq_true rfl, Nat.le_of_ble_eq_true rfl⟩ (ms_lt 64 (by decide) hM) (ms_k 64 12 0 (by decide) hM) rfl (Nat.le_of_ble_eq_true rfl) dX12_piece_21 ⟨Nat.zero_le _, Nat.zero_le _⟩ ?_
    refine aw_bipush (v := 10) hC dX12_piece_24 (by decide) ?_
    refine aw_idiv hC dX12_piece_26 (by decide) ?_
    refine aw_iconst (v := 1) hC dX12_piece_27 (by decide) ?_
    refine aw_isub hC dX12_piece_28 ?_
    refine aw_i2l hC dX12_piece_29 ?_
    refine aw_cS3r hC hSt (t_X12_in G l  _ _ _) w_945 w_951 w_952 w_953 rfl rfl (by decide +kernel) ⟨Nat.le_of_ble_eq_true rfl, Nat.le_of_ble_eq_true rfl⟩ (Nat.le_of_ble_eq_true rfl) dX12_piece_30 ⟨Nat.zero_le _, Nat.zero_le _⟩ ?_
    refine aw_if_ne hC 40 dX12_piece_33 (by decide) (fun c3 => ?_) (fun c3 => ?_)
    · refine aw_aload_n hC 0 dX12_piece_40 rfl rfl ?_
      refine aw_getP (b := 71) hC hSt 27 (ms_lt 64 (by decide) hM) (ms_k 64 12 0 (by decide) hM) rfl (by decide) w_925 rfl (ms_p 27 71 (by decide) hM) dX12_piece_41 ?_
      refine aw_iconst (v := 0) hC dX12_piece_44 (by decide) ?_
      refine aw_iald hC hSt (ms_lt 71 (by decide) hM) (ms_k 71 14 7 (by decide) hM) (vp_len (n := 7) (ms_l 71 14 7 (by decide) hM) (by unfold vp_in; decide)) dX12_piece_45 ?_
      refine aw_bipush (v := 10) hC dX12_piece_46 (by decide) ?_
      refine aw_idiv hC dX12_piece_48 (by decide) ?_
      refine aw_istore_n hC [(2, .int _), (0, .ref 64), (1, .int _)] dX12_piece_49 rfl (by decide) rfl ?_
      generalize ex4 : ((gI S1 71 (0 : Int32).toNatClampNeg) / (10 : Int32)) = x4
      refine aw_iload_n hC 2 dX12_piece_50 rfl rfl ?_
      refine aw_iload_n hC 0 dX12_piece_51 rfl rfl ?_
      refine aw_cut (S' := S1) (pc' := 94) (lv' := [(2, .int x4), (0, .ref 64), (1, .int a1)]) (st' := [.long (if x4 ≤ a1 then (if a1 = x4 then (3 : Int64) else (if ((x4 + (4 : Int32)) + ((gI S1 71 (0 : Int32).toNatClampNeg) / (40 : Int32))) < a1 then (0 : Int64) else (1 : Int64))) else (2 : Int64))]) ?_ (fun Jc5 => ?_)
      · generalize ex8 : (if x4 ≤ a1 then (if a1 = x4 then (3 : Int64) else (if ((x4 + (4 : Int32)) + ((gI S1 71 (0 : Int32).toNatClampNeg) / (40 : Int32))) < a1 then (0 : Int64) else (1 : Int64))) else (2 : Int64)) = x8
        refine aw_lret hC dX12_piece_94 (Nat.le_refl _) (Nat.le_refl _) ?_
        exact FP.qJ ((bd_eq eS1).trans ((if_neg c2).trans ((if_neg c3).trans ((bd_eq ex4).trans ((bd_eq ex8).trans (rfl))))))
      · refine aw_icmp_ge hC 61 dX12_piece_52 (by decide) (fun c5 => ?_) (fun c5 => ?_)
        · refine aw_iload_n hC 2 dX12_piece_61 rfl rfl ?_
          refine aw_iload_n hC 0 dX12_piece_62 rfl rfl ?_
          refine aw_icmp_ne hC 72 dX12_piece_63 (by decide) (fun c6 => ?_) (fun c6 => ?_)
          · refine aw_iload_n hC 2 dX12_piece_72 rfl rfl ?_
            refine aw_iload_n hC 0 dX12_piece_73 rfl rfl ?_
            refine aw_iconst (v := 4) hC dX12_piece_74 (by decide) ?_
            refine aw_iadd hC dX12_piece_75 ?_
            refine aw_aload_n hC 1 dX12_piece_76 rfl rfl ?_
            refine aw_getP (b := 71) hC hSt 27 (ms_lt 64 (by decide) hM) (ms_k 64 12 0 (by decide) hM) rfl (by decide) w_925 rfl (ms_p 27 71 (by decide) hM) dX12_piece_77 ?_
            refine aw_iconst (v := 0) hC dX12_piece_80 (by decide) ?_
            refine aw_iald hC hSt (ms_lt 71 (by decide) hM) (ms_k 71 14 7 (by decide) hM) (vp_len (n := 7) (ms_l 71 14 7 (by decide) hM) (by unfold vp_in; decide)) dX12_piece_81 ?_
            refine aw_bipush (v := 40) hC dX12_piece_82 (by decide) ?_
            refine aw_idiv hC dX12_piece_84 (by decide) ?_
            refine aw_iadd hC dX12_piece_85 ?_
            refine aw_icmp_gt hC 93 dX12_piece_86 (by decide) (fun c7 => ?_) (fun c7 => ?_)
            · refine aw_lconst (v := 0) hC dX12_piece_93 (by decide) ?_
              simp only [bd_def, if_pos c5, if_neg c6, if_pos c7] at Jc5 ⊢
              exact Jc5
            · refine aw_lconst (v := 1) hC dX12_piece_89 (by decide) ?_
              refine aw_goto hC 94 dX12_piece_90 (by decide) ?_
              simp only [bd_def, if_pos c5, if_neg c6, if_neg c7] at Jc5 ⊢
              exact Jc5
          · refine aw_ldc2 (v := 3) hC w_1084 dX12_piece_66 ?_
            refine aw_goto hC 94 dX12_piece_69 (by decide) ?_
            simp only [bd_def, if_pos c5, if_pos c6] at Jc5 ⊢
            exact Jc5
        · refine aw_ldc2 (v := 2) hC w_956 dX12_piece_55 ?_
          refine aw_goto hC 94 dX12_piece_58 (by decide) ?_
          simp only [bd_def, if_neg c5] at Jc5 ⊢
          exact Jc5
    · refine aw_ldc2 (v := -9000000000000000001) hC w_957 dX12_piece_36 ?_
      refine aw_lret hC dX12_piece_39 (Nat.le_refl _) (Nat.le_refl _) ?_
      exact FP.qJ ((bd_eq eS1).trans ((if_neg c2).trans ((if_pos c3).trans (rfl))))
  · refine aw_ldc2 (v := -9000000000000000002) hC w_1151 dX12_piece_12 ?_
    refine aw_lret hC dX12_piece_15 (Nat.le_refl _) (Nat.le_refl _) ?_
    exact FP.qJ ((bd_eq eS1).trans ((if_pos c2).trans (rfl)))
theorem q_X12_piece (S : HSt) (_o : Nat) (a1 : Int32) : shp ((f_X12_piece S _o a1).2) = shp S := by
  unfold f_X12_piece
  repeat' (first | with_reducible refine shpr1 ?_ | with_reducible rfl | with_reducible refine (shp_sI _ _ _ _).trans ?_ | with_reducible refine (shp_sJ _ _ _ _).trans ?_ | with_reducible refine shi ?_ ?_ | with_reducible refine shb (fun _ _ => ?_) | with_reducible refine shiP (fun q : Int64 × HSt => q.2) ?_ ?_ | with_reducible refine shbP (fun q : Int64 × HSt => q.2) (fun _ _ => ?_) | (subst_vars; with_reducible rfl) | (subst_vars; with_reducible refine (shp_sI _ _ _ _).trans ?_) | (subst_vars; with_reducible refine (shp_sJ _ _ _ _).trans ?_) | (subst_vars; with_reducible refine shi ?_ ?_) | (subst_vars; with_reducible refine shb (fun _ _ => ?_)))
noncomputable def f_X12_odds (S : HSt) (_o : Nat) (a1 : Int32) (a2 : Int32) (a3 : Int32) : Int64 × HSt := bd ((sI S 64 0 (0 : Int32))) fun S1 => if (f_X12_in S1 a1.toInt64 (0 : Int64) (1 : Int64)) = 0 then (pr ((-9000000000000000001 : Int64)) (S1)) else (if (f_X12_isBeast S1 64 a2) = 0 then (pr ((-9000000000000000001 : Int64)) (S1)) else (if (f_X12_in S1 a3.toInt64 (0 : Int64) (1 : Int64)) = 0 then (pr ((-9000000000000000001 : Int64)) (S1)) else (bd (f_X12_layLive S1 64) fun r5 => bd ((if a1 = (1 : Int32) then (1 : Int32) else (0 : Int32))) fun x7 => bd (f_X12_oddsOf r5 64 x7 a2) fun r8 => pr ((f_X12_partOf r8.2 r8.1.toInt64 (f_X12_allOdds r8.2 64).toInt64 a3)) (r8.2))))
def p_X12_odds (S : HSt) (_o : Nat) (a1 : Int32) (a2 : Int32) (a3 : Int32) : Prop := (∀ S1 : HSt, (sI S 64 0 (0 : Int32)) = S1 → (¬ (f_X12_in S1 a1.toInt64 (0 : Int64) (1 : Int64)) = 0) → (¬ (f_X12_isBeast S1 64 a2) = 0) → (¬ (f_X12_in S1 a3.toInt64 (0 : Int64) (1 : Int64)) = 0) → ∀ r5, f_X12_layLive S1 64 = r5 → ∀ x7 : Int32, (if a1 = (1 : Int32) then (1 : Int32) else (0 : Int32)) = x7 → p_X12_oddsOf r5 64 x7 a2) ∧ (∀ S1 : HSt, (sI S 64 0 (0 : Int32)) = S1 → (¬ (f_X12_in S1 a1.toInt64 (0 : Int64) (1 : Int64)) = 0) → (¬ (f_X12_isBeast S1 64 a2) = 0) → (¬ (f_X12_in S1 a3.toInt64 (0 : Int64) (1 : Int64)) = 0) → ∀ r5, f_X12_layLive S1 64 = r5 → ∀ x7 : Int32, (if a1 = (1 : Int32) then (1 : Int32) else (0 : Int32)) = x7 → ∀ r8, f_X12_oddsOf r5 64 x7 a2 = r8 → p_X12_allOdds r8.2 64) ∧ (∀ S1 : HSt, (sI S 64 0 (0 : Int32)) = S1 → (¬ (f_X12_in S1 a1.toInt64 (0 : Int64) (1 : Int64)) = 0) → (¬ (f_X12_isBeast S1 64 a2) = 0) → (¬ (f_X12_in S1 a3.toInt64 (0 : Int64) (1 : Int64)) = 0) → ∀ r5, f_X12_layLive S1 64 = r5 → ∀ x7 : Int32, (if a1 = (1 : Int32) then (1 : Int32) else (0 : Int32)) = x7 → ∀ r8, f_X12_oddsOf r5 64 x7 a2 = r8 → p_X12_partOf r8.2 r8.1.toInt64 (f_X12_allOdds r8.2 64).toInt64 a3)
set_option maxRecDepth 100000 in
theorem t_X12_odds (G : GG) (l : Launch) {S : HSt} (hM : MS S) (a1 : Int32) (a2 : Int32) (a3 : Int32) (hp : p_X12_odds S 64 a1 a2 a3) : AM G l yX12_odds cX12_odds 4 (some .long) (rmD 4 0 0) 0 0 [.ref 64, .int a1, .int a2, .int a3] S (FP (some (.long (f_X12_odds S 64 a1 a2 a3).1)) ((f_X12_odds S 64 a1 a2 a3).2)) := by
  obtain ⟨h0, h1, h2⟩ := hp
  refine AM.mk (by decide) (Nat.le_of_ble_eq_true rfl) ?_
  intro p e s m below meth c hC hSt _
  refine aw_aload_n hC 0 dX12_odds_0 rfl rfl ?_
  refine aw_iconst (v := 0) hC dX12_odds_1 (by decide) ?_
  refine aw_putI hC hSt 0 (ms_lt 64 (by decide) hM) (ms_k 64 12 0 (by decide) hM) rfl (by decide) w_955 rfl rfl rfl rfl dX12_odds_2 ?_
  generalize eS1 : (sI S 64 0 (0 : Int32)) = S1
  have hM : MS S1 := MS.of (by rw [← eS1]; exact shp_sI _ _ _ _) hM
  refine aw_iload_n hC 1 dX12_odds_5 rfl rfl ?_
  refine aw_i2l hC dX12_odds_6 ?_
  refine aw_lconst (v := 0) hC dX12_odds_7 (by decide) ?_
  refine aw_lconst (v := 1) hC dX12_odds_8 (by decide) ?_
  refine aw_cS3r hC hSt (t_X12_in G l  _ _ _) w_945 w_951 w_952 w_953 rfl rfl (by decide +kernel) ⟨Nat.le_of_ble_eq_true rfl, Nat.le_of_ble_eq_true rfl⟩ (Nat.le_of_ble_eq_true rfl) dX12_odds_9 ⟨Nat.zero_le _, Nat.zero_le _⟩ ?_
  refine aw_if_eq hC 33 dX12_odds_12 (by decide) (fun c2 => ?_) (fun c2 => ?_)
  · refine aw_ldc2 (v := -9000000000000000001) hC w_957 dX12_odds_33 ?_
    refine aw_lret hC dX12_odds_36 (Nat.le_refl _) (Nat.le_refl _) ?_
    exact FP.qJ ((bd_eq eS1).trans ((if_pos c2).trans (rfl)))
  · refine aw_aload_n hC 0 dX12_odds_15 rfl rfl ?_
    refine aw_iload_n hC 2 dX12_odds_16 rfl rfl ?_
    refine aw_cV1r hC hSt (t_X12_isBeast G l hM _) w_1081 w_1159 w_1160 w_1161 w_953 rfl rfl (by decide +kernel) ⟨Nat.le_of_ble_eq_true rfl, Nat.le_of_ble_eq_true rfl⟩ (ms_lt 64 (by decide) hM) (ms_k 64 12 0 (by decide) hM) rfl (Nat.le_of_ble_eq_true rfl) dX12_odds_17 ⟨Nat.zero_le _, Nat.zero_le _⟩ ?_
    refine aw_if_eq hC 33 dX12_odds_20 (by decide) (fun c3 => ?_) (fun c3 => ?_)
    · refine aw_ldc2 (v := -9000000000000000001) hC w_957 dX12_odds_33 ?_
      refine aw_lret hC dX12_odds_36 (Nat.le_refl _) (Nat.le_refl _) ?_
      exact FP.qJ ((bd_eq eS1).trans ((if_neg c2).trans ((if_pos c3).trans (rfl))))
    · refine aw_iload_n hC 3 dX12_odds_23 rfl rfl ?_
      refine aw_i2l hC dX12_odds_24 ?_
      refine aw_lconst (v := 0) hC dX12_odds_25 (by decide) ?_
      refine aw_lconst (v := 1) hC dX12_odds_26 (by decide) ?_
      refine aw_cS3r hC hSt (t_X12_in G l  _ _ _) w_945 w_951 w_952 w_953 rfl rfl (by decide +kernel) ⟨Nat.le_of_ble_eq_true rfl, Nat.le_of_ble_eq_true rfl⟩ (Nat.le_of_ble_eq_true rfl) dX12_odds_27 ⟨Nat.zero_le _, Nat.zero_le _⟩ ?_
      refine aw_if_ne hC 37 dX12_odds_30 (by decide) (fun c4 => ?_) (fun c4 => ?_)
      · refine aw_aload_n hC 0 dX12_odds_37 rfl rfl ?_
        refine aw_cV0v hC hSt (t_X12_layLive G l hM ) w_1091 w_1152 w_1153 w_1154 w_953 rfl rfl (by decide +kernel) ⟨Nat.le_of_ble_eq_true rfl, Nat.le_of_ble_eq_true rfl⟩ (ms_lt 64 (by decide) hM) (ms_k 64 12 0 (by decide) hM) rfl (Nat.le_of_ble_eq_true rfl) dX12_odds_38 ⟨Nat.zero_le _, Nat.zero_le _⟩ ?_
        generalize er5 : f_X12_layLive S1 64 = r5
        have hM : MS r5 := MS.of (by rw [← er5]; exact q_X12_layLive _ _) hM
        refine aw_aload_n hC 0 dX12_odds_41 rfl rfl ?_
        refine aw_iload_n hC 1 dX12_odds_42 rfl rfl ?_
        refine aw_iconst (v := 1) hC dX12_odds_43 (by decide) ?_
        refine aw_cut (S' := r5) (pc' := 52) (lv' := [(0, .ref 64), (1, .int a1), (2, .int a2), (3, .int a3)]) (st' := [.int (if a1 = (1 : Int32) then (1 : Int32) else (0 : Int32)), .ref 64]) ?_ (fun Jc6 => ?_)
        · generalize ex7 : (if a1 = (1 : Int32) then (1 : Int32) else (0 : Int32)) = x7
          refine aw_iload_n hC 2 dX12_odds_52 rfl rfl ?_
          refine aw_cV2r hC hSt (t_X12_oddsOf G l hM _ _ (h0 S1 eS1 c2 c3 c4 r5 er5 x7 ex7)) w_1134 w_1140 w_1141 w_1142 w_953 rfl rfl (by decide +kernel) ⟨Nat.le_of_ble_eq_true rfl, Nat.le_of_ble_eq_true rfl⟩ (ms_lt 64 (by decide) hM) (ms_k 64 12 0 (by decide) hM) rfl (Nat.le_of_ble_eq_true rfl) dX12_odds_53 ⟨Nat.zero_le _, Nat.zero_le _⟩ ?_
          generalize er8 : f_X12_oddsOf r5 64 x7 a2 = r8
          have hM : MS r8.2 := MS.of (by rw [← er8]; exact q_X12_oddsOf _ _ _ _) hM
          refine aw_i2l hC dX12_odds_56 ?_
          refine aw_aload_n hC 0 dX12_odds_57 rfl rfl ?_
          refine aw_cV0r hC hSt (t_X12_allOdds G l hM  (h1 S1 eS1 c2 c3 c4 r5 er5 x7 ex7 r8 er8)) w_1135 w_1143 w_1144 w_1145 w_953 rfl rfl (by decide +kernel) ⟨Nat.le_of_ble_eq_true rfl, Nat.le_of_ble_eq_true rfl⟩ (ms_lt 64 (by decide) hM) (ms_k 64 12 0 (by decide) hM) rfl (Nat.le_of_ble_eq_true rfl) dX12_odds_58 ⟨Nat.zero_le _, Nat.zero_le _⟩ ?_
          refine aw_i2l hC dX12_odds_61 ?_
          refine aw_iload_n hC 3 dX12_odds_62 rfl rfl ?_
          refine aw_cS3r hC hSt (t_X12_partOf G l  _ _ _ (h2 S1 eS1 c2 c3 c4 r5 er5 x7 ex7 r8 er8)) w_1137 w_1170 w_1171 w_953 rfl rfl (by decide +kernel) ⟨Nat.le_of_ble_eq_true rfl, Nat.le_of_ble_eq_true rfl⟩ (Nat.le_of_ble_eq_true rfl) dX12_odds_63 ⟨Nat.zero_le _, Nat.zero_le _⟩ ?_
          refine aw_lret hC dX12_odds_66 (Nat.le_refl _) (Nat.le_refl _) ?_
          exact FP.qJ ((bd_eq eS1).trans ((if_neg c2).trans ((if_neg c3).trans ((if_neg c4).trans ((bd_eq er5).trans ((bd_eq ex7).trans ((bd_eq er8).trans (rfl))))))))
        · refine aw_icmp_ne hC 51 dX12_odds_44 (by decide) (fun c6 => ?_) (fun c6 => ?_)
          · refine aw_iconst (v := 0) hC dX12_odds_51 (by decide) ?_
            simp only [bd_def, if_neg c6] at Jc6 ⊢
            exact Jc6
          · refine aw_iconst (v := 1) hC dX12_odds_47 (by decide) ?_
            refine aw_goto hC 52 dX12_odds_48 (by decide) ?_
            simp only [bd_def, if_pos c6] at Jc6 ⊢
            exact Jc6
      · refine aw_ldc2 (v := -9000000000000000001) hC w_957 dX12_odds_33 ?_
        refine aw_lret hC dX12_odds_36 (Nat.le_refl _) (Nat.le_refl _) ?_
        exact FP.qJ ((bd_eq eS1).trans ((if_neg c2).trans ((if_neg c3).trans ((if_pos c4).trans (rfl)))))
theorem q_X12_odds (S : HSt) (_o : Nat) (a1 : Int32) (a2 : Int32) (a3 : Int32) : shp ((f_X12_odds S _o a1 a2 a3).2) = shp S := by
  unfold f_X12_odds
  repeat' (first | with_reducible refine shpr1 ?_ | with_reducible rfl | with_reducible refine (q_X12_layLive _ _).trans ?_ | with_reducible refine (q_X12_oddsOf _ _ _ _).trans ?_ | with_reducible refine (shp_sI _ _ _ _).trans ?_ | with_reducible refine (shp_sJ _ _ _ _).trans ?_ | with_reducible refine shi ?_ ?_ | with_reducible refine shb (fun _ _ => ?_) | with_reducible refine shiP (fun q : Int64 × HSt => q.2) ?_ ?_ | with_reducible refine shbP (fun q : Int64 × HSt => q.2) (fun _ _ => ?_) | (subst_vars; with_reducible rfl) | (subst_vars; with_reducible refine (q_X12_layLive _ _).trans ?_) | (subst_vars; with_reducible refine (q_X12_oddsOf _ _ _ _).trans ?_) | (subst_vars; with_reducible refine (shp_sI _ _ _ _).trans ?_) | (subst_vars; with_reducible refine (shp_sJ _ _ _ _).trans ?_) | (subst_vars; with_reducible refine shi ?_ ?_) | (subst_vars; with_reducible refine shb (fun _ _ => ?_)))
noncomputable def f_X12_need (S : HSt) (_o : Nat) (a1 : Int32) : Int64 × HSt := bd ((sI S 64 0 (0 : Int32))) fun S1 => bd ((if (f_X12_in S1 a1.toInt64 (0 : Int64) (200 : Int64)) = 0 then (-9000000000000000001 : Int64) else (if (gI S1 64 7) = 0 then (-9000000000000000002 : Int64) else (f_X12_needOf S1 64 a1).toInt64))) fun x4 => pr (x4) (S1)
def p_X12_need (S : HSt) (_o : Nat) (a1 : Int32) : Prop := (∀ S1 : HSt, (sI S 64 0 (0 : Int32)) = S1 → (¬ (f_X12_in S1 a1.toInt64 (0 : Int64) (200 : Int64)) = 0) → (¬ (gI S1 64 7) = 0) → p_X12_needOf S1 64 a1)
set_option maxRecDepth 100000 in
theorem t_X12_need (G : GG) (l : Launch) {S : HSt} (hM : MS S) (a1 : Int32) (hp : p_X12_need S 64 a1) : AM G l yX12_need cX12_need 2 (some .long) (rmD 2 0 0) 0 0 [.ref 64, .int a1] S (FP (some (.long (f_X12_need S 64 a1).1)) ((f_X12_need S 64 a1).2)) := by
  have h0 := hp
  unfold p_X12_need at h0
  refine AM.mk (by decide) (Nat.le_of_ble_eq_true rfl) ?_
  intro p e s m below meth c hC hSt _
  refine aw_aload_n hC 0 dX12_need_0 rfl rfl ?_
  refine aw_iconst (v := 0) hC dX12_need_1 (by decide) ?_
  refine aw_putI hC hSt 0 (ms_lt 64 (by decide) hM) (ms_k 64 12 0 (by decide) hM) rfl (by decide) w_955 rfl rfl rfl rfl dX12_need_2 ?_
  generalize eS1 : (sI S 64 0 (0 : Int32)) = S1
  have hM : MS S1 := MS.of (by rw [← eS1]; exact shp_sI _ _ _ _) hM
  refine aw_iload_n hC 1 dX12_need_5 rfl rfl ?_
  refine aw_i2l hC dX12_need_6 ?_
  refine aw_lconst (v := 0) hC dX12_need_7 (by decide) ?_
  refine aw_ldc2 (v := 200) hC w_1174 dX12_need_8 ?_
  refine aw_cS3r hC hSt (t_X12_in G l  _ _ _) w_945 w_951 w_952 w_953 rfl rfl (by decide +kernel) ⟨Nat.le_of_ble_eq_true rfl, Nat.le_of_ble_eq_true rfl⟩ (Nat.le_of_ble_eq_true rfl) dX12_need_11 ⟨Nat.zero_le _, Nat.zero_le _⟩ ?_
  refine aw_cut (S' := S1) (pc' := 42) (lv' := [(0, .ref 64), (1, .int a1)]) (st' := [.long (if (f_X12_in S1 a1.toInt64 (0 : Int64) (200 : Int64)) = 0 then (-9000000000000000001 : Int64) else (if (gI S1 64 7) = 0 then (-9000000000000000002 : Int64) else (f_X12_needOf S1 64 a1).toInt64))]) ?_ (fun Jc2 => ?_)
  · generalize ex4 : (if (f_X12_in S1 a1.toInt64 (0 : Int64) (200 : Int64)) = 0 then (-9000000000000000001 : Int64) else (if (gI S1 64 7) = 0 then (-9000000000000000002 : Int64) else (f_X12_needOf S1 64 a1).toInt64)) = x4
    refine aw_lret hC dX12_need_42 (Nat.le_refl _) (Nat.le_refl _) ?_
    exact FP.qJ ((bd_eq eS1).trans ((bd_eq ex4).trans (rfl)))
  · refine aw_if_ne hC 23 dX12_need_14 (by decide) (fun c2 => ?_) (fun c2 => ?_)
    · refine aw_aload_n hC 0 dX12_need_23 rfl rfl ?_
      refine aw_getI hC hSt 7 (ms_lt 64 (by decide) hM) (ms_k 64 12 0 (by decide) hM) rfl (by decide) w_1051 rfl dX12_need_24 ?_
      refine aw_if_eq hC 39 dX12_need_27 (by decide) (fun c3 => ?_) (fun c3 => ?_)
      · refine aw_ldc2 (v := -9000000000000000002) hC w_1151 dX12_need_39 ?_
        simp only [bd_def, if_neg c2, if_pos c3] at Jc2 ⊢
        exact Jc2
      · refine aw_aload_n hC 0 dX12_need_30 rfl rfl ?_
        refine aw_iload_n hC 1 dX12_need_31 rfl rfl ?_
        refine aw_cV1r hC hSt (t_X12_needOf G l hM _ (h0 S1 eS1 c2 c3)) w_1094 w_1104 w_1105 w_1106 w_953 rfl rfl (by decide +kernel) ⟨Nat.le_of_ble_eq_true rfl, Nat.le_of_ble_eq_true rfl⟩ (ms_lt 64 (by decide) hM) (ms_k 64 12 0 (by decide) hM) rfl (Nat.le_of_ble_eq_true rfl) dX12_need_32 ⟨Nat.zero_le _, Nat.zero_le _⟩ ?_
        refine aw_i2l hC dX12_need_35 ?_
        refine aw_goto hC 42 dX12_need_36 (by decide) ?_
        simp only [bd_def, if_neg c2, if_neg c3] at Jc2 ⊢
        exact Jc2
    · refine aw_ldc2 (v := -9000000000000000001) hC w_957 dX12_need_17 ?_
      refine aw_goto hC 42 dX12_need_20 (by decide) ?_
      simp only [bd_def, if_pos c2] at Jc2 ⊢
      exact Jc2
theorem q_X12_need (S : HSt) (_o : Nat) (a1 : Int32) : shp ((f_X12_need S _o a1).2) = shp S := by
  unfold f_X12_need
  repeat' (first | with_reducible refine shpr1 ?_ | with_reducible rfl | with_reducible refine (shp_sI _ _ _ _).trans ?_ | with_reducible refine (shp_sJ _ _ _ _).trans ?_ | with_reducible refine shi ?_ ?_ | with_reducible refine shb (fun _ _ => ?_) | with_reducible refine shiP (fun q : Int64 × HSt => q.2) ?_ ?_ | with_reducible refine shbP (fun q : Int64 × HSt => q.2) (fun _ _ => ?_) | (subst_vars; with_reducible rfl) | (subst_vars; with_reducible refine (shp_sI _ _ _ _).trans ?_) | (subst_vars; with_reducible refine (shp_sJ _ _ _ _).trans ?_) | (subst_vars; with_reducible refine shi ?_ ?_) | (subst_vars; with_reducible refine shb (fun _ _ => ?_)))
noncomputable def L_X12_greatest_36 : Nat → HSt → Int32 → Int32 → Int32 × Int32
  | 0, S, v1, v2 => (v1, v2)
  | n + 1, S, v1, v2 =>
    if v2 < 0 then ((pr (v1) (v2))) else (if (f_X12_needOf S 64 v2) ≤ v1 then ((pr (v1) (v2))) else (L_X12_greatest_36 n S v1 (v2 + (-1 : Int32))))
def T_X12_greatest_36 : Nat → HSt → Int32 → Int32 → Prop
  | 0, _, _, _ => False
  | n + 1, S, v1, v2 => ((¬ v2 < 0) → p_X12_needOf S 64 v2) ∧ ((¬ v2 < 0) → (¬ (f_X12_needOf S 64 v2) ≤ v1) → T_X12_greatest_36 n S v1 (v2 + (-1 : Int32)))
set_option maxRecDepth 100000 in
theorem l_X12_greatest_36 {p : Program} {l : Launch} {e : Env} {s : State} {m : MethodId} {args : Array Value} {below : List Frame} {meth : Method} {c : Code} {G : GG} {Q : State → Prop} (hC : ACx p s m args meth c cX12_greatest RX12 3 (some .long)) (hSt : St G s)  : ∀ (n : Nat) (S : HSt) (v1 : Int32) (v2 : Int32), MS S → T_X12_greatest_36 n S v1 v2 → AW p l e (rmD 2 0 0) s m args below meth c G 3 Q S 0 0 55 [(0, .ref 64), (1, .int (L_X12_greatest_36 n S v1 v2).1), (2, .int (L_X12_greatest_36 n S v1 v2).2)] [] → AW p l e (rmD 2 0 0) s m args below meth c G 3 Q S 0 0 36 [(0, .ref 64), (1, .int v1), (2, .int v2)] [] := by
  intro n
  induction n with
  | zero => intro S v1 v2 _ hT; exact hT.elim
  | succ n ih =>
    intro S v1 v2 hM hT hk
    unfold T_X12_greatest_36 at hT
    obtain ⟨h0, h1⟩ := hT
    refine aw_iload_n hC 2 dX12_greatest_36 rfl rfl ?_
    refine aw_if_lt hC 55 dX12_greatest_37 (by decide) (fun c1004 => ?_) (fun c1004 => ?_)
    · refine aw_sub [0, 1, 2] rfl ?_
      have E : L_X12_greatest_36 (n + 1) S v1 v2 = _ := (if_pos c1004).trans (rfl)
      rw [E] at hk
      exact hk
    · refine aw_aload_n hC 0 dX12_greatest_40 rfl rfl ?_
      refine aw_iload_n hC 2 dX12_greatest_41 rfl rfl ?_
      refine aw_cV1r hC hSt (t_X12_needOf G l hM _ (h0 c1004)) w_1094 w_1104 w_1105 w_1106 w_953 rfl rfl (by decide +kernel) ⟨Nat.le_of_ble_eq_true rfl, Nat.le_of_ble_eq_true rfl⟩ (ms_lt 64 (by decide) hM) (ms_k 64 12 0 (by decide) hM) rfl (Nat.le_of_ble_eq_true rfl) dX12_greatest_42 ⟨Nat.zero_le _, Nat.zero_le _⟩ ?_
      refine aw_iload_n hC 1 dX12_greatest_45 rfl rfl ?_
      refine aw_icmp_le hC 55 dX12_greatest_46 (by decide) (fun c1005 => ?_) (fun c1005 => ?_)
      · refine aw_sub [0, 1, 2] rfl ?_
        have E : L_X12_greatest_36 (n + 1) S v1 v2 = _ := (if_neg c1004).trans ((if_pos c1005).trans (rfl))
        rw [E] at hk
        exact hk
      · refine aw_iinc (v := (v2 + (-1 : Int32))) hC 2 [(2, .int _), (0, .ref 64), (1, .int _)] dX12_greatest_49 rfl rfl (by decide) rfl ?_
        refine aw_goto hC 36 dX12_greatest_52 (by decide) ?_
        refine aw_sub [1, 2, 0] rfl ?_
        have hTn := (h1 c1004 c1005)
        have hMn : MS S := hM
        have E : L_X12_greatest_36 (n + 1) S v1 v2 = _ := (if_neg c1004).trans ((if_neg c1005).trans (rfl))
        rw [E] at hk
        exact ih _ _ _ hMn hTn hk
noncomputable def f_X12_greatest (S : HSt) (_o : Nat) (a1 : Int32) : Int64 × HSt := bd ((sI S 64 0 (0 : Int32))) fun S1 => if (f_X12_in S1 a1.toInt64 (0 : Int64) (15 : Int64)) = 0 then (pr ((-9000000000000000001 : Int64)) (S1)) else (if (gI S1 64 7) = 0 then (pr ((-9000000000000000002 : Int64)) (S1)) else (bd (L_X12_greatest_36 1000 S1 a1 (400 : Int32)) fun r4 => bd ((if 0 ≤ r4.2 then r4.2.toInt64 else (-1000000 : Int64))) fun x6 => pr (x6) (S1)))
def p_X12_greatest (S : HSt) (_o : Nat) (a1 : Int32) : Prop := (∀ S1 : HSt, (sI S 64 0 (0 : Int32)) = S1 → (¬ (f_X12_in S1 a1.toInt64 (0 : Int64) (15 : Int64)) = 0) → (¬ (gI S1 64 7) = 0) → T_X12_greatest_36 1000 S1 a1 (400 : Int32))
set_option maxRecDepth 100000 in
theorem t_X12_greatest (G : GG) (l : Launch) {S : HSt} (hM : MS S) (a1 : Int32) (hp : p_X12_greatest S 64 a1) : AM G l yX12_greatest cX12_greatest 3 (some .long) (rmD 2 0 0) 0 0 [.ref 64, .int a1] S (FP (some (.long (f_X12_greatest S 64 a1).1)) ((f_X12_greatest S 64 a1).2)) := by
  have h0 := hp
  unfold p_X12_greatest at h0
  refine AM.mk (by decide) (Nat.le_of_ble_eq_true rfl) ?_
  intro p e s m below meth c hC hSt _
  refine aw_aload_n hC 0 dX12_greatest_0 rfl rfl ?_
  refine aw_iconst (v := 0) hC dX12_greatest_1 (by decide) ?_
  refine aw_putI hC hSt 0 (ms_lt 64 (by decide) hM) (ms_k 64 12 0 (by decide) hM) rfl (by decide) w_955 rfl rfl rfl rfl dX12_greatest_2 ?_
  generalize eS1 : (sI S 64 0 (0 : Int32)) = S1
  have hM : MS S1 := MS.of (by rw [← eS1]; exact shp_sI _ _ _ _) hM
  refine aw_iload_n hC 1 dX12_greatest_5 rfl rfl ?_
  refine aw_i2l hC dX12_greatest_6 ?_
  refine aw_lconst (v := 0) hC dX12_greatest_7 (by decide) ?_
  refine aw_ldc2 (v := 15) hC w_1150 dX12_greatest_8 ?_
  refine aw_cS3r hC hSt (t_X12_in G l  _ _ _) w_945 w_951 w_952 w_953 rfl rfl (by decide +kernel) ⟨Nat.le_of_ble_eq_true rfl, Nat.le_of_ble_eq_true rfl⟩ (Nat.le_of_ble_eq_true rfl) dX12_greatest_11 ⟨Nat.zero_le _, Nat.zero_le _⟩ ?_
  refine aw_if_ne hC 21 dX12_greatest_14 (by decide) (fun c2 => ?_) (fun c2 => ?_)
  · refine aw_aload_n hC 0 dX12_greatest_21 rfl rfl ?_
    refine aw_getI hC hSt 7 (ms_lt 64 (by decide) hM) (ms_k 64 12 0 (by decide) hM) rfl (by decide) w_1051 rfl dX12_greatest_22 ?_
    refine aw_if_ne hC 32 dX12_greatest_25 (by decide) (fun c3 => ?_) (fun c3 => ?_)
    · refine aw_sipush (v := 400) hC dX12_greatest_32 (by decide) ?_
      refine aw_istore_n hC [(2, .int _), (0, .ref 64), (1, .int _)] dX12_greatest_35 rfl (by decide) rfl ?_
      refine aw_sub [1, 2, 0] rfl ?_
      refine l_X12_greatest_36 hC hSt 1000 _ _ _ hM (h0 S1 eS1 c2 c3) ?_
      generalize er4 : L_X12_greatest_36 1000 S1 a1 (400 : Int32) = r4
      refine aw_iload_n hC 2 dX12_greatest_55 rfl rfl ?_
      refine aw_cut (S' := S1) (pc' := 67) (lv' := [(0, .ref 64), (1, .int r4.1), (2, .int r4.2)]) (st' := [.long (if 0 ≤ r4.2 then r4.2.toInt64 else (-1000000 : Int64))]) ?_ (fun Jc5 => ?_)
      · generalize ex6 : (if 0 ≤ r4.2 then r4.2.toInt64 else (-1000000 : Int64)) = x6
        refine aw_lret hC dX12_greatest_67 (Nat.le_refl _) (Nat.le_refl _) ?_
        exact FP.qJ ((bd_eq eS1).trans ((if_neg c2).trans ((if_neg c3).trans ((bd_eq er4).trans ((bd_eq ex6).trans (rfl))))))
      · refine aw_if_ge hC 65 dX12_greatest_56 (by decide) (fun c5 => ?_) (fun c5 => ?_)
        · refine aw_iload_n hC 2 dX12_greatest_65 rfl rfl ?_
          refine aw_i2l hC dX12_greatest_66 ?_
          simp only [bd_def, if_pos c5] at Jc5 ⊢
          exact Jc5
        · refine aw_ldc2 (v := -1000000) hC w_1176 dX12_greatest_59 ?_
          refine aw_goto hC 67 dX12_greatest_62 (by decide) ?_
          simp only [bd_def, if_neg c5] at Jc5 ⊢
          exact Jc5
    · refine aw_ldc2 (v := -9000000000000000002) hC w_1151 dX12_greatest_28 ?_
      refine aw_lret hC dX12_greatest_31 (Nat.le_refl _) (Nat.le_refl _) ?_
      exact FP.qJ ((bd_eq eS1).trans ((if_neg c2).trans ((if_pos c3).trans (rfl))))
  · refine aw_ldc2 (v := -9000000000000000001) hC w_957 dX12_greatest_17 ?_
    refine aw_lret hC dX12_greatest_20 (Nat.le_refl _) (Nat.le_refl _) ?_
    exact FP.qJ ((bd_eq eS1).trans ((if_pos c2).trans (rfl)))
theorem q_X12_greatest (S : HSt) (_o : Nat) (a1 : Int32) : shp ((f_X12_greatest S _o a1).2) = shp S := by
  unfold f_X12_greatest
  repeat' (first | with_reducible refine shpr1 ?_ | with_reducible rfl | with_reducible refine (shp_sI _ _ _ _).trans ?_ | with_reducible refine (shp_sJ _ _ _ _).trans ?_ | with_reducible refine shi ?_ ?_ | with_reducible refine shb (fun _ _ => ?_) | with_reducible refine shiP (fun q : Int64 × HSt => q.2) ?_ ?_ | with_reducible refine shbP (fun q : Int64 × HSt => q.2) (fun _ _ => ?_) | (subst_vars; with_reducible rfl) | (subst_vars; with_reducible refine (shp_sI _ _ _ _).trans ?_) | (subst_vars; with_reducible refine (shp_sJ _ _ _ _).trans ?_) | (subst_vars; with_reducible refine shi ?_ ?_) | (subst_vars; with_reducible refine shb (fun _ _ => ?_)))
noncomputable def L_X12_out_58 : Nat → HSt → Int32 → Int32 → Int32 → Int32 → Int32 → Int32 × Int32 × Int32 × Int32 × Int32
  | 0, S, v1, v2, v3, v4, v5 => (v1, v2, v3, v4, v5)
  | n + 1, S, v1, v2, v3, v4, v5 =>
    if v2 < v5 then ((pr (v1) (pr (v2) (pr (v3) (pr (v4) (v5)))))) else (bd ((if v4 = 0 then (0 : Int32) else (if (f_X12_in S ((gI S 71 (2 : Int32).toNatClampNeg) + (v5 * (v1 - v3))).toInt64 (-(f_X12_limit S 64)).toInt64 (f_X12_limit S 64).toInt64) = 0 then (0 : Int32) else (1 : Int32)))) fun x2009 => L_X12_out_58 n S v1 v2 v3 x2009 (v5 + (1 : Int32)))
def T_X12_out_58 : Nat → HSt → Int32 → Int32 → Int32 → Int32 → Int32 → Prop
  | 0, _, _, _, _, _, _ => False
  | n + 1, S, v1, v2, v3, v4, v5 => ((¬ v2 < v5) → (¬ v4 = 0) → p_X12_limit S 64) ∧ ((¬ v2 < v5) → (¬ v4 = 0) → p_X12_limit S 64) ∧ ((¬ v2 < v5) → ∀ x2009 : Int32, (if v4 = 0 then (0 : Int32) else (if (f_X12_in S ((gI S 71 (2 : Int32).toNatClampNeg) + (v5 * (v1 - v3))).toInt64 (-(f_X12_limit S 64)).toInt64 (f_X12_limit S 64).toInt64) = 0 then (0 : Int32) else (1 : Int32))) = x2009 → T_X12_out_58 n S v1 v2 v3 x2009 (v5 + (1 : Int32)))
set_option maxRecDepth 100000 in
theorem l_X12_out_58 {p : Program} {l : Launch} {e : Env} {s : State} {m : MethodId} {args : Array Value} {below : List Frame} {meth : Method} {c : Code} {G : GG} {Q : State → Prop} (hC : ACx p s m args meth c cX12_out RX12 6 (some .long)) (hSt : St G s)  : ∀ (n : Nat) (S : HSt) (v1 : Int32) (v2 : Int32) (v3 : Int32) (v4 : Int32) (v5 : Int32), MS S → T_X12_out_58 n S v1 v2 v3 v4 v5 → AW p l e (rmD 2 0 0) s m args below meth c G 6 Q S 0 0 113 [(0, .ref 64), (1, .int (L_X12_out_58 n S v1 v2 v3 v4 v5).1), (2, .int (L_X12_out_58 n S v1 v2 v3 v4 v5).2.1), (3, .int (L_X12_out_58 n S v1 v2 v3 v4 v5).2.2.1), (4, .int (L_X12_out_58 n S v1 v2 v3 v4 v5).2.2.2.1), (5, .int (L_X12_out_58 n S v1 v2 v3 v4 v5).2.2.2.2)] [] → AW p l e (rmD 2 0 0) s m args below meth c G 6 Q S 0 0 58 [(0, .ref 64), (1, .int v1), (2, .int v2), (3, .int v3), (4, .int v4), (5, .int v5)] [] := by
  intro n
  induction n with
  | zero => intro S v1 v2 v3 v4 v5 _ hT; exact hT.elim
  | succ n ih =>
    intro S v1 v2 v3 v4 v5 hM hT hk
    unfold T_X12_out_58 at hT
    obtain ⟨h0, h1, h2⟩ := hT
    refine aw_iload hC 5 dX12_out_58 rfl ?_
    refine aw_iload_n hC 2 dX12_out_60 rfl rfl ?_
    refine aw_icmp_gt hC 113 dX12_out_61 (by decide) (fun c2006 => ?_) (fun c2006 => ?_)
    · refine aw_sub [0, 1, 2, 3, 4, 5] rfl ?_
      have E : L_X12_out_58 (n + 1) S v1 v2 v3 v4 v5 = _ := (if_pos c2006).trans (rfl)
      rw [E] at hk
      exact hk
    · refine aw_iload hC 4 dX12_out_64 rfl ?_
      refine aw_cut (S' := S) (pc' := 105) (lv' := [(0, .ref 64), (1, .int v1), (2, .int v2), (3, .int v3), (4, .int v4), (5, .int v5)]) (st' := [.int (if v4 = 0 then (0 : Int32) else (if (f_X12_in S ((gI S 71 (2 : Int32).toNatClampNeg) + (v5 * (v1 - v3))).toInt64 (-(f_X12_limit S 64)).toInt64 (f_X12_limit S 64).toInt64) = 0 then (0 : Int32) else (1 : Int32)))]) ?_ (fun Jc2007 => ?_)
      · generalize ex2009 : (if v4 = 0 then (0 : Int32) else (if (f_X12_in S ((gI S 71 (2 : Int32).toNatClampNeg) + (v5 * (v1 - v3))).toInt64 (-(f_X12_limit S 64)).toInt64 (f_X12_limit S 64).toInt64) = 0 then (0 : Int32) else (1 : Int32))) = x2009
        refine aw_istore hC [(4, .int _), (0, .ref 64), (1, .int _), (2, .int _), (3, .int _), (5, .int _)] dX12_out_105 (by decide) rfl ?_
        refine aw_iinc (v := (v5 + (1 : Int32))) hC 5 [(5, .int _), (4, .int _), (0, .ref 64), (1, .int _), (2, .int _), (3, .int _)] dX12_out_107 rfl rfl (by decide) rfl ?_
        refine aw_goto hC 58 dX12_out_110 (by decide) ?_
        refine aw_sub [2, 3, 4, 5, 1, 0] rfl ?_
        have hTn := (h2 c2006 x2009 ex2009)
        have hMn : MS S := hM
        have E : L_X12_out_58 (n + 1) S v1 v2 v3 v4 v5 = _ := (if_neg c2006).trans ((bd_eq ex2009).trans (rfl))
        rw [E] at hk
        exact ih _ _ _ _ _ _ hMn hTn hk
      · refine aw_if_eq hC 104 dX12_out_66 (by decide) (fun c2007 => ?_) (fun c2007 => ?_)
        · refine aw_iconst (v := 0) hC dX12_out_104 (by decide) ?_
          simp only [bd_def, if_pos c2007] at Jc2007 ⊢
          exact Jc2007
        · refine aw_aload_n hC 0 dX12_out_69 rfl rfl ?_
          refine aw_getP (b := 71) hC hSt 27 (ms_lt 64 (by decide) hM) (ms_k 64 12 0 (by decide) hM) rfl (by decide) w_925 rfl (ms_p 27 71 (by decide) hM) dX12_out_70 ?_
          refine aw_iconst (v := 2) hC dX12_out_73 (by decide) ?_
          refine aw_iald hC hSt (ms_lt 71 (by decide) hM) (ms_k 71 14 7 (by decide) hM) (vp_len (n := 7) (ms_l 71 14 7 (by decide) hM) (by unfold vp_in; decide)) dX12_out_74 ?_
          refine aw_iload hC 5 dX12_out_75 rfl ?_
          refine aw_iload_n hC 1 dX12_out_77 rfl rfl ?_
          refine aw_iload_n hC 3 dX12_out_78 rfl rfl ?_
          refine aw_isub hC dX12_out_79 ?_
          refine aw_imul hC dX12_out_80 ?_
          refine aw_iadd hC dX12_out_81 ?_
          refine aw_i2l hC dX12_out_82 ?_
          refine aw_aload_n hC 0 dX12_out_83 rfl rfl ?_
          refine aw_cV0r hC hSt (t_X12_limit G l hM  (h0 c2006 c2007)) w_1098 w_1107 w_1108 w_1109 w_953 rfl rfl (by decide +kernel) ⟨Nat.le_of_ble_eq_true rfl, Nat.le_of_ble_eq_true rfl⟩ (ms_lt 64 (by decide) hM) (ms_k 64 12 0 (by decide) hM) rfl (Nat.le_of_ble_eq_true rfl) dX12_out_84 ⟨Nat.zero_le _, Nat.zero_le _⟩ ?_
          refine aw_ineg hC dX12_out_87 ?_
          refine aw_i2l hC dX12_out_88 ?_
          refine aw_aload_n hC 0 dX12_out_89 rfl rfl ?_
          refine aw_cV0r hC hSt (t_X12_limit G l hM  (h1 c2006 c2007)) w_1098 w_1107 w_1108 w_1109 w_953 rfl rfl (by decide +kernel) ⟨Nat.le_of_ble_eq_true rfl, Nat.le_of_ble_eq_true rfl⟩ (ms_lt 64 (by decide) hM) (ms_k 64 12 0 (by decide) hM) rfl (Nat.le_of_ble_eq_true rfl) dX12_out_90 ⟨Nat.zero_le _, Nat.zero_le _⟩ ?_
          refine aw_i2l hC dX12_out_93 ?_
          refine aw_cS3r hC hSt (t_X12_in G l  _ _ _) w_945 w_951 w_952 w_953 rfl rfl (by decide +kernel) ⟨Nat.le_of_ble_eq_true rfl, Nat.le_of_ble_eq_true rfl⟩ (Nat.le_of_ble_eq_true rfl) dX12_out_94 ⟨Nat.zero_le _, Nat.zero_le _⟩ ?_
          refine aw_if_eq hC 104 dX12_out_97 (by decide) (fun c2008 => ?_) (fun c2008 => ?_)
          · refine aw_iconst (v := 0) hC dX12_out_104 (by decide) ?_
            simp only [bd_def, if_neg c2007, if_pos c2008] at Jc2007 ⊢
            exact Jc2007
          · refine aw_iconst (v := 1) hC dX12_out_100 (by decide) ?_
            refine aw_goto hC 105 dX12_out_101 (by decide) ?_
            simp only [bd_def, if_neg c2007, if_neg c2008] at Jc2007 ⊢
            exact Jc2007
noncomputable def L_X12_out_46 : Nat → HSt → Int32 → Int32 → Int32 → Int32 × Int64 × Int32 × Int32 × Int32
  | 0, S, v1, v2, v3 => ((1 : Int32), 0, v1, v2, v3)
  | n + 1, S, v1, v2, v3 =>
    if (16 : Int32) ≤ v3 then ((pr ((0 : Int32)) (pr (0) (pr (v1) (pr (v2) (v3)))))) else (bd (L_X12_out_58 1000 S v1 v2 v3 (1 : Int32) (1 : Int32)) fun r1006 => if r1006.2.2.2.1 = 0 then (L_X12_out_46 n S r1006.1 r1006.2.1 (r1006.2.2.1 + (1 : Int32))) else ((pr ((1 : Int32)) (pr (r1006.2.2.1.toInt64) (pr (r1006.1) (pr (r1006.2.1) (r1006.2.2.1)))))))
def T_X12_out_46 : Nat → HSt → Int32 → Int32 → Int32 → Prop
  | 0, _, _, _, _ => False
  | n + 1, S, v1, v2, v3 => ((¬ (16 : Int32) ≤ v3) → T_X12_out_58 1000 S v1 v2 v3 (1 : Int32) (1 : Int32)) ∧ ((¬ (16 : Int32) ≤ v3) → ∀ r1006, L_X12_out_58 1000 S v1 v2 v3 (1 : Int32) (1 : Int32) = r1006 → (r1006.2.2.2.1 = 0) → T_X12_out_46 n S r1006.1 r1006.2.1 (r1006.2.2.1 + (1 : Int32)))
set_option maxRecDepth 100000 in
theorem l_X12_out_46 {p : Program} {l : Launch} {e : Env} {s : State} {m : MethodId} {args : Array Value} {below : List Frame} {meth : Method} {c : Code} {G : GG} {Post : Option Value → HSt → Prop} (hC : ACx p s m args meth c cX12_out RX12 6 (some .long)) (hSt : St G s)  : ∀ (n : Nat) (S : HSt) (v1 : Int32) (v2 : Int32) (v3 : Int32), MS S → T_X12_out_46 n S v1 v2 v3 → ((L_X12_out_46 n S v1 v2 v3).1 = 1 → Post (some (.long (L_X12_out_46 n S v1 v2 v3).2.1)) S) → ((L_X12_out_46 n S v1 v2 v3).1 ≠ 1 → AW p l e (rmD 2 0 0) s m args below meth c G 6 (AQ G below args s 0 0 Post) S 0 0 127 [(0, .ref 64), (1, .int (L_X12_out_46 n S v1 v2 v3).2.2.1), (2, .int (L_X12_out_46 n S v1 v2 v3).2.2.2.1), (3, .int (L_X12_out_46 n S v1 v2 v3).2.2.2.2)] []) → AW p l e (rmD 2 0 0) s m args below meth c G 6 (AQ G below args s 0 0 Post) S 0 0 46 [(0, .ref 64), (1, .int v1), (2, .int v2), (3, .int v3)] [] := by
  intro n
  induction n with
  | zero => intro S v1 v2 v3 _ hT; exact hT.elim
  | succ n ih =>
    intro S v1 v2 v3 hM hT hr hk
    unfold T_X12_out_46 at hT
    obtain ⟨h0, h1⟩ := hT
    refine aw_iload_n hC 3 dX12_out_46 rfl rfl ?_
    refine aw_bipush (v := 16) hC dX12_out_47 (by decide) ?_
    refine aw_icmp_ge hC 127 dX12_out_49 (by decide) (fun c1005 => ?_) (fun c1005 => ?_)
    · refine aw_sub [0, 1, 2, 3] rfl ?_
      have E : L_X12_out_46 (n + 1) S v1 v2 v3 = _ := (if_pos c1005).trans (rfl)
      rw [E] at hk hr
      exact hk (by show ¬ (0 : Int32) = 1; decide)
    · refine aw_iconst (v := 1) hC dX12_out_52 (by decide) ?_
      refine aw_istore hC [(4, .int _), (0, .ref 64), (1, .int _), (2, .int _), (3, .int _)] dX12_out_53 (by decide) rfl ?_
      refine aw_iconst (v := 1) hC dX12_out_55 (by decide) ?_
      refine aw_istore hC [(5, .int _), (4, .int _), (0, .ref 64), (1, .int _), (2, .int _), (3, .int _)] dX12_out_56 (by decide) rfl ?_
      refine aw_sub [2, 3, 4, 5, 1, 0] rfl ?_
      refine l_X12_out_58 hC hSt 1000 _ _ _ _ _ _ hM (h0 c1005) ?_
      generalize er1006 : L_X12_out_58 1000 S v1 v2 v3 (1 : Int32) (1 : Int32) = r1006
      refine aw_iload hC 4 dX12_out_113 rfl ?_
      refine aw_if_eq hC 121 dX12_out_115 (by decide) (fun c1007 => ?_) (fun c1007 => ?_)
      · refine aw_iinc (v := (r1006.2.2.1 + (1 : Int32))) hC 3 [(3, .int _), (0, .ref 64), (1, .int _), (2, .int _), (4, .int _), (5, .int _)] dX12_out_121 rfl rfl (by decide) rfl ?_
        refine aw_goto hC 46 dX12_out_124 (by decide) ?_
        refine aw_sub [1, 2, 3, 0] rfl ?_
        have hTn := (h1 c1005 r1006 er1006 c1007)
        have hMn : MS S := hM
        have E : L_X12_out_46 (n + 1) S v1 v2 v3 = _ := (if_neg c1005).trans ((bd_eq er1006).trans ((if_pos c1007).trans (rfl)))
        rw [E] at hk hr
        exact ih _ _ _ _ hMn hTn hr hk
      · refine aw_iload_n hC 3 dX12_out_118 rfl rfl ?_
        refine aw_i2l hC dX12_out_119 ?_
        refine aw_lret hC dX12_out_120 (Nat.le_refl _) (Nat.le_refl _) ?_
        have E : L_X12_out_46 (n + 1) S v1 v2 v3 = _ := (if_neg c1005).trans ((bd_eq er1006).trans ((if_neg c1007).trans (rfl)))
        rw [E] at hr
        exact hr rfl
noncomputable def f_X12_out (S : HSt) (_o : Nat) (a1 : Int32) (a2 : Int32) : Int64 × HSt := bd ((sI S 64 0 (0 : Int32))) fun S1 => if (f_X12_in S1 a1.toInt64 (0 : Int64) (15 : Int64)) = 0 then (pr ((-9000000000000000001 : Int64)) (S1)) else (if (f_X12_in S1 a2.toInt64 (1 : Int64) (40 : Int64)) = 0 then (pr ((-9000000000000000001 : Int64)) (S1)) else (if (gI S1 64 7) = 0 then (pr ((-9000000000000000002 : Int64)) (S1)) else (bd (L_X12_out_46 1000 S1 a1 a2 (0 : Int32)) fun r5 => if r5.1 = 1 then (pr (r5.2.1) (S1)) else (pr ((-1000000 : Int64)) (S1)))))
def p_X12_out (S : HSt) (_o : Nat) (a1 : Int32) (a2 : Int32) : Prop := (∀ S1 : HSt, (sI S 64 0 (0 : Int32)) = S1 → (¬ (f_X12_in S1 a1.toInt64 (0 : Int64) (15 : Int64)) = 0) → (¬ (f_X12_in S1 a2.toInt64 (1 : Int64) (40 : Int64)) = 0) → (¬ (gI S1 64 7) = 0) → T_X12_out_46 1000 S1 a1 a2 (0 : Int32))
set_option maxRecDepth 100000 in
theorem t_X12_out (G : GG) (l : Launch) {S : HSt} (hM : MS S) (a1 : Int32) (a2 : Int32) (hp : p_X12_out S 64 a1 a2) : AM G l yX12_out cX12_out 6 (some .long) (rmD 2 0 0) 0 0 [.ref 64, .int a1, .int a2] S (FP (some (.long (f_X12_out S 64 a1 a2).1)) ((f_X12_out S 64 a1 a2).2)) := by
  have h0 := hp
  unfold p_X12_out at h0
  refine AM.mk (by decide) (Nat.le_of_ble_eq_true rfl) ?_
  intro p e s m below meth c hC hSt _
  refine aw_aload_n hC 0 dX12_out_0 rfl rfl ?_
  refine aw_iconst (v := 0) hC dX12_out_1 (by decide) ?_
  refine aw_putI hC hSt 0 (ms_lt 64 (by decide) hM) (ms_k 64 12 0 (by decide) hM) rfl (by decide) w_955 rfl rfl rfl rfl dX12_out_2 ?_
  generalize eS1 : (sI S 64 0 (0 : Int32)) = S1
  have hM : MS S1 := MS.of (by rw [← eS1]; exact shp_sI _ _ _ _) hM
  refine aw_iload_n hC 1 dX12_out_5 rfl rfl ?_
  refine aw_i2l hC dX12_out_6 ?_
  refine aw_lconst (v := 0) hC dX12_out_7 (by decide) ?_
  refine aw_ldc2 (v := 15) hC w_1150 dX12_out_8 ?_
  refine aw_cS3r hC hSt (t_X12_in G l  _ _ _) w_945 w_951 w_952 w_953 rfl rfl (by decide +kernel) ⟨Nat.le_of_ble_eq_true rfl, Nat.le_of_ble_eq_true rfl⟩ (Nat.le_of_ble_eq_true rfl) dX12_out_11 ⟨Nat.zero_le _, Nat.zero_le _⟩ ?_
  refine aw_if_eq hC 29 dX12_out_14 (by decide) (fun c2 => ?_) (fun c2 => ?_)
  · refine aw_ldc2 (v := -9000000000000000001) hC w_957 dX12_out_29 ?_
    refine aw_lret hC dX12_out_32 (Nat.le_refl _) (Nat.le_refl _) ?_
    exact FP.qJ ((bd_eq eS1).trans ((if_pos c2).trans (rfl)))
  · refine aw_iload_n hC 2 dX12_out_17 rfl rfl ?_
    refine aw_i2l hC dX12_out_18 ?_
    refine aw_lconst (v := 1) hC dX12_out_19 (by decide) ?_
    refine aw_ldc2 (v := 40) hC w_1178 dX12_out_20 ?_
    refine aw_cS3r hC hSt (t_X12_in G l  _ _ _) w_945 w_951 w_952 w_953 rfl rfl (by decide +kernel) ⟨Nat.le_of_ble_eq_true rfl, Nat.le_of_ble_eq_true rfl⟩ (Nat.le_of_ble_eq_true rfl) dX12_out_23 ⟨Nat.zero_le _, Nat.zero_le _⟩ ?_
    refine aw_if_ne hC 33 dX12_out_26 (by decide) (fun c3 => ?_) (fun c3 => ?_)
    · refine aw_aload_n hC 0 dX12_out_33 rfl rfl ?_
      refine aw_getI hC hSt 7 (ms_lt 64 (by decide) hM) (ms_k 64 12 0 (by decide) hM) rfl (by decide) w_1051 rfl dX12_out_34 ?_
      refine aw_if_ne hC 44 dX12_out_37 (by decide) (fun c4 => ?_) (fun c4 => ?_)
      · refine aw_iconst (v := 0) hC dX12_out_44 (by decide) ?_
        refine aw_istore_n hC [(3, .int _), (0, .ref 64), (1, .int _), (2, .int _)] dX12_out_45 rfl (by decide) rfl ?_
        refine aw_sub [1, 2, 3, 0] rfl ?_
        refine l_X12_out_46 hC hSt 1000 _ _ _ _ hM (h0 S1 eS1 c2 c3 c4) (fun c6 => ?_) (fun c6 => ?_)
        · revert c6
          generalize er5 : L_X12_out_46 1000 S1 a1 a2 (0 : Int32) = r5
          intro c6
          exact FP.qJ ((bd_eq eS1).trans ((if_neg c2).trans ((if_neg c3).trans ((if_neg c4).trans ((bd_eq er5).trans ((if_pos c6).trans (rfl)))))))
        · revert c6
          generalize er5 : L_X12_out_46 1000 S1 a1 a2 (0 : Int32) = r5
          intro c6
          refine aw_ldc2 (v := -1000000) hC w_1176 dX12_out_127 ?_
          refine aw_lret hC dX12_out_130 (Nat.le_refl _) (Nat.le_refl _) ?_
          exact FP.qJ ((bd_eq eS1).trans ((if_neg c2).trans ((if_neg c3).trans ((if_neg c4).trans ((bd_eq er5).trans ((if_neg c6).trans (rfl)))))))
      · refine aw_ldc2 (v := -9000000000000000002) hC w_1151 dX12_out_40 ?_
        refine aw_lret hC dX12_out_43 (Nat.le_refl _) (Nat.le_refl _) ?_
        exact FP.qJ ((bd_eq eS1).trans ((if_neg c2).trans ((if_neg c3).trans ((if_pos c4).trans (rfl)))))
    · refine aw_ldc2 (v := -9000000000000000001) hC w_957 dX12_out_29 ?_
      refine aw_lret hC dX12_out_32 (Nat.le_refl _) (Nat.le_refl _) ?_
      exact FP.qJ ((bd_eq eS1).trans ((if_neg c2).trans ((if_pos c3).trans (rfl))))
theorem q_X12_out (S : HSt) (_o : Nat) (a1 : Int32) (a2 : Int32) : shp ((f_X12_out S _o a1 a2).2) = shp S := by
  unfold f_X12_out
  repeat' (first | with_reducible refine shpr1 ?_ | with_reducible rfl | with_reducible refine (shp_sI _ _ _ _).trans ?_ | with_reducible refine (shp_sJ _ _ _ _).trans ?_ | with_reducible refine shi ?_ ?_ | with_reducible refine shb (fun _ _ => ?_) | with_reducible refine shiP (fun q : Int64 × HSt => q.2) ?_ ?_ | with_reducible refine shbP (fun q : Int64 × HSt => q.2) (fun _ _ => ?_) | (subst_vars; with_reducible rfl) | (subst_vars; with_reducible refine (shp_sI _ _ _ _).trans ?_) | (subst_vars; with_reducible refine (shp_sJ _ _ _ _).trans ?_) | (subst_vars; with_reducible refine shi ?_ ?_) | (subst_vars; with_reducible refine shb (fun _ _ => ?_)))
noncomputable def L_X12_wraps_38 : Nat → HSt → Int32 → Int32 → Int32 → Int32 → Int32 × Int64 × Int32 × Int32 × Int32 × Int32
  | 0, S, v1, v2, v3, v4 => ((1 : Int32), 0, v1, v2, v3, v4)
  | n + 1, S, v1, v2, v3, v4 =>
    if (10 : Int32) ≤ v4 then ((pr ((0 : Int32)) (pr (0) (pr (v1) (pr (v2) (pr (v3) (v4))))))) else (if v3 < v1 then (bd ((v3 * (3 : Int32))) fun x1006 => L_X12_wraps_38 n S v1 v2 x1006 (v4 + (1 : Int32))) else ((pr ((1 : Int32)) (pr (v4.toInt64) (pr (v1) (pr (v2) (pr (v3) (v4))))))))
def T_X12_wraps_38 : Nat → HSt → Int32 → Int32 → Int32 → Int32 → Prop
  | 0, _, _, _, _, _ => False
  | n + 1, S, v1, v2, v3, v4 => ((¬ (10 : Int32) ≤ v4) → (v3 < v1) → ∀ x1006 : Int32, (v3 * (3 : Int32)) = x1006 → T_X12_wraps_38 n S v1 v2 x1006 (v4 + (1 : Int32)))
set_option maxRecDepth 100000 in
theorem l_X12_wraps_38 {p : Program} {l : Launch} {e : Env} {s : State} {m : MethodId} {args : Array Value} {below : List Frame} {meth : Method} {c : Code} {G : GG} {Post : Option Value → HSt → Prop} (hC : ACx p s m args meth c cX12_wraps RX12 5 (some .long)) (hSt : St G s)  : ∀ (n : Nat) (S : HSt) (v1 : Int32) (v2 : Int32) (v3 : Int32) (v4 : Int32), MS S → T_X12_wraps_38 n S v1 v2 v3 v4 → ((L_X12_wraps_38 n S v1 v2 v3 v4).1 = 1 → Post (some (.long (L_X12_wraps_38 n S v1 v2 v3 v4).2.1)) S) → ((L_X12_wraps_38 n S v1 v2 v3 v4).1 ≠ 1 → AW p l e (rmD 1 0 0) s m args below meth c G 5 (AQ G below args s 0 0 Post) S 0 0 64 [(0, .ref 64), (1, .int (L_X12_wraps_38 n S v1 v2 v3 v4).2.2.1), (2, .int (L_X12_wraps_38 n S v1 v2 v3 v4).2.2.2.1), (3, .int (L_X12_wraps_38 n S v1 v2 v3 v4).2.2.2.2.1), (4, .int (L_X12_wraps_38 n S v1 v2 v3 v4).2.2.2.2.2)] []) → AW p l e (rmD 1 0 0) s m args below meth c G 5 (AQ G below args s 0 0 Post) S 0 0 38 [(0, .ref 64), (1, .int v1), (2, .int v2), (3, .int v3), (4, .int v4)] [] := by
  intro n
  induction n with
  | zero => intro S v1 v2 v3 v4 _ hT; exact hT.elim
  | succ n ih =>
    intro S v1 v2 v3 v4 hM hT hr hk
    unfold T_X12_wraps_38 at hT
    have h0 := hT
    refine aw_iload hC 4 dX12_wraps_38 rfl ?_
    refine aw_bipush (v := 10) hC dX12_wraps_40 (by decide) ?_
    refine aw_icmp_ge hC 64 dX12_wraps_42 (by decide) (fun c1004 => ?_) (fun c1004 => ?_)
    · refine aw_sub [0, 1, 2, 3, 4] rfl ?_
      have E : L_X12_wraps_38 (n + 1) S v1 v2 v3 v4 = _ := (if_pos c1004).trans (rfl)
      rw [E] at hk hr
      exact hk (by show ¬ (0 : Int32) = 1; decide)
    · refine aw_iload_n hC 3 dX12_wraps_45 rfl rfl ?_
      refine aw_iload_n hC 1 dX12_wraps_46 rfl rfl ?_
      refine aw_icmp_lt hC 54 dX12_wraps_47 (by decide) (fun c1005 => ?_) (fun c1005 => ?_)
      · refine aw_iload_n hC 3 dX12_wraps_54 rfl rfl ?_
        refine aw_iconst (v := 3) hC dX12_wraps_55 (by decide) ?_
        refine aw_imul hC dX12_wraps_56 ?_
        refine aw_istore_n hC [(3, .int _), (0, .ref 64), (1, .int _), (2, .int _), (4, .int _)] dX12_wraps_57 rfl (by decide) rfl ?_
        generalize ex1006 : (v3 * (3 : Int32)) = x1006
        refine aw_iinc (v := (v4 + (1 : Int32))) hC 4 [(4, .int _), (3, .int _), (0, .ref 64), (1, .int _), (2, .int _)] dX12_wraps_58 rfl rfl (by decide) rfl ?_
        refine aw_goto hC 38 dX12_wraps_61 (by decide) ?_
        refine aw_sub [2, 3, 4, 1, 0] rfl ?_
        have hTn := (h0 c1004 c1005 x1006 ex1006)
        have hMn : MS S := hM
        have E : L_X12_wraps_38 (n + 1) S v1 v2 v3 v4 = _ := (if_neg c1004).trans ((if_pos c1005).trans ((bd_eq ex1006).trans (rfl)))
        rw [E] at hk hr
        exact ih _ _ _ _ _ hMn hTn hr hk
      · refine aw_iload hC 4 dX12_wraps_50 rfl ?_
        refine aw_i2l hC dX12_wraps_52 ?_
        refine aw_lret hC dX12_wraps_53 (Nat.le_refl _) (Nat.le_refl _) ?_
        have E : L_X12_wraps_38 (n + 1) S v1 v2 v3 v4 = _ := (if_neg c1004).trans ((if_neg c1005).trans (rfl))
        rw [E] at hr
        exact hr rfl
noncomputable def f_X12_wraps (S : HSt) (_o : Nat) (a1 : Int32) (a2 : Int32) : Int64 × HSt := bd ((sI S 64 0 (0 : Int32))) fun S1 => if (f_X12_in S1 a1.toInt64 (1 : Int64) (999999 : Int64)) = 0 then (pr ((-9000000000000000001 : Int64)) (S1)) else (if (f_X12_in S1 a2.toInt64 (1 : Int64) (99 : Int64)) = 0 then (pr ((-9000000000000000001 : Int64)) (S1)) else (bd (L_X12_wraps_38 1000 S1 a1 a2 a2 (0 : Int32)) fun r4 => if r4.1 = 1 then (pr (r4.2.1) (S1)) else (pr ((-1000000 : Int64)) (S1))))
def p_X12_wraps (S : HSt) (_o : Nat) (a1 : Int32) (a2 : Int32) : Prop := (∀ S1 : HSt, (sI S 64 0 (0 : Int32)) = S1 → (¬ (f_X12_in S1 a1.toInt64 (1 : Int64) (999999 : Int64)) = 0) → (¬ (f_X12_in S1 a2.toInt64 (1 : Int64) (99 : Int64)) = 0) → T_X12_wraps_38 1000 S1 a1 a2 a2 (0 : Int32))
set_option maxRecDepth 100000 in
theorem t_X12_wraps (G : GG) (l : Launch) {S : HSt} (hM : MS S) (a1 : Int32) (a2 : Int32) (hp : p_X12_wraps S 64 a1 a2) : AM G l yX12_wraps cX12_wraps 5 (some .long) (rmD 1 0 0) 0 0 [.ref 64, .int a1, .int a2] S (FP (some (.long (f_X12_wraps S 64 a1 a2).1)) ((f_X12_wraps S 64 a1 a2).2)) := by
  have h0 := hp
  unfold p_X12_wraps at h0
  refine AM.mk (by decide) (Nat.le_of_ble_eq_true rfl) ?_
  intro p e s m below meth c hC hSt _
  refine aw_aload_n hC 0 dX12_wraps_0 rfl rfl ?_
  refine aw_iconst (v := 0) hC dX12_wraps_1 (by decide) ?_
  refine aw_putI hC hSt 0 (ms_lt 64 (by decide) hM) (ms_k 64 12 0 (by decide) hM) rfl (by decide) w_955 rfl rfl rfl rfl dX12_wraps_2 ?_
  generalize eS1 : (sI S 64 0 (0 : Int32)) = S1
  have hM : MS S1 := MS.of (by rw [← eS1]; exact shp_sI _ _ _ _) hM
  refine aw_iload_n hC 1 dX12_wraps_5 rfl rfl ?_
  refine aw_i2l hC dX12_wraps_6 ?_
  refine aw_lconst (v := 1) hC dX12_wraps_7 (by decide) ?_
  refine aw_ldc2 (v := 999999) hC w_1180 dX12_wraps_8 ?_
  refine aw_cS3r hC hSt (t_X12_in G l  _ _ _) w_945 w_951 w_952 w_953 rfl rfl (by decide +kernel) ⟨Nat.le_of_ble_eq_true rfl, Nat.le_of_ble_eq_true rfl⟩ (Nat.le_of_ble_eq_true rfl) dX12_wraps_11 ⟨Nat.zero_le _, Nat.zero_le _⟩ ?_
  refine aw_if_eq hC 29 dX12_wraps_14 (by decide) (fun c2 => ?_) (fun c2 => ?_)
  · refine aw_ldc2 (v := -9000000000000000001) hC w_957 dX12_wraps_29 ?_
    refine aw_lret hC dX12_wraps_32 (Nat.le_refl _) (Nat.le_refl _) ?_
    exact FP.qJ ((bd_eq eS1).trans ((if_pos c2).trans (rfl)))
  · refine aw_iload_n hC 2 dX12_wraps_17 rfl rfl ?_
    refine aw_i2l hC dX12_wraps_18 ?_
    refine aw_lconst (v := 1) hC dX12_wraps_19 (by decide) ?_
    refine aw_ldc2 (v := 99) hC w_1181 dX12_wraps_20 ?_
    refine aw_cS3r hC hSt (t_X12_in G l  _ _ _) w_945 w_951 w_952 w_953 rfl rfl (by decide +kernel) ⟨Nat.le_of_ble_eq_true rfl, Nat.le_of_ble_eq_true rfl⟩ (Nat.le_of_ble_eq_true rfl) dX12_wraps_23 ⟨Nat.zero_le _, Nat.zero_le _⟩ ?_
    refine aw_if_ne hC 33 dX12_wraps_26 (by decide) (fun c3 => ?_) (fun c3 => ?_)
    · refine aw_iload_n hC 2 dX12_wraps_33 rfl rfl ?_
      refine aw_istore_n hC [(3, .int _), (0, .ref 64), (1, .int _), (2, .int _)] dX12_wraps_34 rfl (by decide) rfl ?_
      refine aw_iconst (v := 0) hC dX12_wraps_35 (by decide) ?_
      refine aw_istore hC [(4, .int _), (3, .int _), (0, .ref 64), (1, .int _), (2, .int _)] dX12_wraps_36 (by decide) rfl ?_
      refine aw_sub [2, 3, 4, 1, 0] rfl ?_
      refine l_X12_wraps_38 hC hSt 1000 _ _ _ _ _ hM (h0 S1 eS1 c2 c3) (fun c5 => ?_) (fun c5 => ?_)
      · revert c5
        generalize er4 : L_X12_wraps_38 1000 S1 a1 a2 a2 (0 : Int32) = r4
        intro c5
        exact FP.qJ ((bd_eq eS1).trans ((if_neg c2).trans ((if_neg c3).trans ((bd_eq er4).trans ((if_pos c5).trans (rfl))))))
      · revert c5
        generalize er4 : L_X12_wraps_38 1000 S1 a1 a2 a2 (0 : Int32) = r4
        intro c5
        refine aw_ldc2 (v := -1000000) hC w_1176 dX12_wraps_64 ?_
        refine aw_lret hC dX12_wraps_67 (Nat.le_refl _) (Nat.le_refl _) ?_
        exact FP.qJ ((bd_eq eS1).trans ((if_neg c2).trans ((if_neg c3).trans ((bd_eq er4).trans ((if_neg c5).trans (rfl))))))
    · refine aw_ldc2 (v := -9000000000000000001) hC w_957 dX12_wraps_29 ?_
      refine aw_lret hC dX12_wraps_32 (Nat.le_refl _) (Nat.le_refl _) ?_
      exact FP.qJ ((bd_eq eS1).trans ((if_neg c2).trans ((if_pos c3).trans (rfl))))
theorem q_X12_wraps (S : HSt) (_o : Nat) (a1 : Int32) (a2 : Int32) : shp ((f_X12_wraps S _o a1 a2).2) = shp S := by
  unfold f_X12_wraps
  repeat' (first | with_reducible refine shpr1 ?_ | with_reducible rfl | with_reducible refine (shp_sI _ _ _ _).trans ?_ | with_reducible refine (shp_sJ _ _ _ _).trans ?_ | with_reducible refine shi ?_ ?_ | with_reducible refine shb (fun _ _ => ?_) | with_reducible refine shiP (fun q : Int64 × HSt => q.2) ?_ ?_ | with_reducible refine shbP (fun q : Int64 × HSt => q.2) (fun _ _ => ?_) | (subst_vars; with_reducible rfl) | (subst_vars; with_reducible refine (shp_sI _ _ _ _).trans ?_) | (subst_vars; with_reducible refine (shp_sJ _ _ _ _).trans ?_) | (subst_vars; with_reducible refine shi ?_ ?_) | (subst_vars; with_reducible refine shb (fun _ _ => ?_)))
noncomputable def L_X12_doAct_89 : Nat → HSt → Int32 → Int32 → Int32 → Int32 × Int32 × Int32 × HSt
  | 0, S, v1, v2, v3 => (v1, v2, v3, S)
  | n + 1, S, v1, v2, v3 =>
    if (f_X12_deed S 64 v1 (1 : Int32)) ≤ v3 then ((pr (v1) (pr (v2) (pr (v3) (S))))) else (if (f_X12_isStill S 64) = 0 then (bd ((if v2 = (3 : Int32) then (1 : Int32) else (0 : Int32))) fun x1018 => bd (f_X12_doTick S 64 x1018 (f_X12_deed S 64 v1 (2 : Int32)) (f_X12_deed S 64 v1 (3 : Int32)) (f_X12_deed S 64 v1 (4 : Int32))) fun r1019 => bd ((sI r1019 64 30 (gI r1019 64 26))) fun S1020 => L_X12_doAct_89 n S1020 v1 v2 (v3 + (1 : Int32))) else ((pr (v1) (pr (v2) (pr (v3) (S))))))
def T_X12_doAct_89 : Nat → HSt → Int32 → Int32 → Int32 → Prop
  | 0, _, _, _, _ => False
  | n + 1, S, v1, v2, v3 => (p_X12_deed S 64 v1 (1 : Int32)) ∧ ((¬ (f_X12_deed S 64 v1 (1 : Int32)) ≤ v3) → ((f_X12_isStill S 64) = 0) → ∀ x1018 : Int32, (if v2 = (3 : Int32) then (1 : Int32) else (0 : Int32)) = x1018 → p_X12_deed S 64 v1 (2 : Int32)) ∧ ((¬ (f_X12_deed S 64 v1 (1 : Int32)) ≤ v3) → ((f_X12_isStill S 64) = 0) → ∀ x1018 : Int32, (if v2 = (3 : Int32) then (1 : Int32) else (0 : Int32)) = x1018 → p_X12_deed S 64 v1 (3 : Int32)) ∧ ((¬ (f_X12_deed S 64 v1 (1 : Int32)) ≤ v3) → ((f_X12_isStill S 64) = 0) → ∀ x1018 : Int32, (if v2 = (3 : Int32) then (1 : Int32) else (0 : Int32)) = x1018 → p_X12_deed S 64 v1 (4 : Int32)) ∧ ((¬ (f_X12_deed S 64 v1 (1 : Int32)) ≤ v3) → ((f_X12_isStill S 64) = 0) → ∀ x1018 : Int32, (if v2 = (3 : Int32) then (1 : Int32) else (0 : Int32)) = x1018 → p_X12_doTick S 64 x1018 (f_X12_deed S 64 v1 (2 : Int32)) (f_X12_deed S 64 v1 (3 : Int32)) (f_X12_deed S 64 v1 (4 : Int32))) ∧ ((¬ (f_X12_deed S 64 v1 (1 : Int32)) ≤ v3) → ((f_X12_isStill S 64) = 0) → ∀ x1018 : Int32, (if v2 = (3 : Int32) then (1 : Int32) else (0 : Int32)) = x1018 → ∀ r1019, f_X12_doTick S 64 x1018 (f_X12_deed S 64 v1 (2 : Int32)) (f_X12_deed S 64 v1 (3 : Int32)) (f_X12_deed S 64 v1 (4 : Int32)) = r1019 → ∀ S1020 : HSt, (sI r1019 64 30 (gI r1019 64 26)) = S1020 → T_X12_doAct_89 n S1020 v1 v2 (v3 + (1 : Int32)))
theorem qL_X12_doAct_89 : ∀ (n : Nat) (S : HSt) (v1 : Int32) (v2 : Int32) (v3 : Int32), shp (L_X12_doAct_89 n S v1 v2 v3).2.2.2 = shp S := by
  intro n
  induction n with
  | zero => intros; rfl
  | succ n ih =>
    intro S v1 v2 v3
    unfold L_X12_doAct_89
    repeat' (first | with_reducible refine shpr3 ?_ | with_reducible rfl | with_reducible refine (ih _ _ _ _).trans ?_ | with_reducible refine (q_X12_doClose _ _).trans ?_ | with_reducible refine (q_X12_doTick _ _ _ _ _ _).trans ?_ | with_reducible refine (q_X12_missBy _ _ _ _ _).trans ?_ | with_reducible refine (q_X12_shut _ _).trans ?_ | with_reducible refine (shp_sI _ _ _ _).trans ?_ | with_reducible refine (shp_sJ _ _ _ _).trans ?_ | with_reducible refine shi ?_ ?_ | with_reducible refine shb (fun _ _ => ?_) | with_reducible refine shiP (fun q : Int32 × Int32 × Int32 × HSt => q.2.2.2) ?_ ?_ | with_reducible refine shbP (fun q : Int32 × Int32 × Int32 × HSt => q.2.2.2) (fun _ _ => ?_) | (subst_vars; with_reducible rfl) | (subst_vars; with_reducible refine (ih _ _ _ _).trans ?_) | (subst_vars; with_reducible refine (q_X12_doClose _ _).trans ?_) | (subst_vars; with_reducible refine (q_X12_doTick _ _ _ _ _ _).trans ?_) | (subst_vars; with_reducible refine (q_X12_missBy _ _ _ _ _).trans ?_) | (subst_vars; with_reducible refine (q_X12_shut _ _).trans ?_) | (subst_vars; with_reducible refine (shp_sI _ _ _ _).trans ?_) | (subst_vars; with_reducible refine (shp_sJ _ _ _ _).trans ?_) | (subst_vars; with_reducible refine shi ?_ ?_) | (subst_vars; with_reducible refine shb (fun _ _ => ?_)))
set_option maxRecDepth 100000 in
theorem l_X12_doAct_89 {p : Program} {l : Launch} {e : Env} {s : State} {m : MethodId} {args : Array Value} {below : List Frame} {meth : Method} {c : Code} {G : GG} {Q : State → Prop} (hC : ACx p s m args meth c cX12_doAct RX12 4 none) (hSt : St G s)  : ∀ (n : Nat) (S : HSt) (v1 : Int32) (v2 : Int32) (v3 : Int32), MS S → T_X12_doAct_89 n S v1 v2 v3 → AW p l e (rmD 3 0 0) s m args below meth c G 4 Q (L_X12_doAct_89 n S v1 v2 v3).2.2.2 0 0 152 [(0, .ref 64), (1, .int (L_X12_doAct_89 n S v1 v2 v3).1), (2, .int (L_X12_doAct_89 n S v1 v2 v3).2.1), (3, .int (L_X12_doAct_89 n S v1 v2 v3).2.2.1)] [] → AW p l e (rmD 3 0 0) s m args below meth c G 4 Q S 0 0 89 [(0, .ref 64), (1, .int v1), (2, .int v2), (3, .int v3)] [] := by
  intro n
  induction n with
  | zero => intro S v1 v2 v3 _ hT; exact hT.elim
  | succ n ih =>
    intro S v1 v2 v3 hM hT hk
    unfold T_X12_doAct_89 at hT
    obtain ⟨h0, h1, h2, h3, h4, h5⟩ := hT
    refine aw_iload_n hC 3 dX12_doAct_89 rfl rfl ?_
    refine aw_aload_n hC 0 dX12_doAct_90 rfl rfl ?_
    refine aw_iload_n hC 1 dX12_doAct_91 rfl rfl ?_
    refine aw_iconst (v := 1) hC dX12_doAct_92 (by decide) ?_
    refine aw_cV2r hC hSt (t_X12_deed G l hM _ _ (h0)) w_1080 w_1088 w_1089 w_1090 w_953 rfl rfl (by decide +kernel) ⟨Nat.le_of_ble_eq_true rfl, Nat.le_of_ble_eq_true rfl⟩ (ms_lt 64 (by decide) hM) (ms_k 64 12 0 (by decide) hM) rfl (Nat.le_of_ble_eq_true rfl) dX12_doAct_93 ⟨Nat.zero_le _, Nat.zero_le _⟩ ?_
    refine aw_icmp_ge hC 152 dX12_doAct_96 (by decide) (fun c1015 => ?_) (fun c1015 => ?_)
    · refine aw_sub [0, 1, 2, 3] rfl ?_
      have E : L_X12_doAct_89 (n + 1) S v1 v2 v3 = _ := (if_pos c1015).trans (rfl)
      rw [E] at hk
      exact hk
    · refine aw_aload_n hC 0 dX12_doAct_99 rfl rfl ?_
      refine aw_cV0r hC hSt (t_X12_isStill G l hM ) w_1099 w_1118 w_1119 w_1120 w_953 rfl rfl (by decide +kernel) ⟨Nat.le_of_ble_eq_true rfl, Nat.le_of_ble_eq_true rfl⟩ (ms_lt 64 (by decide) hM) (ms_k 64 12 0 (by decide) hM) rfl (Nat.le_of_ble_eq_true rfl) dX12_doAct_100 ⟨Nat.zero_le _, Nat.zero_le _⟩ ?_
      refine aw_if_ne hC 152 dX12_doAct_103 (by decide) (fun c1016 => ?_) (fun c1016 => ?_)
      · refine aw_sub [0, 1, 2, 3] rfl ?_
        have E : L_X12_doAct_89 (n + 1) S v1 v2 v3 = _ := (if_neg c1015).trans ((if_neg c1016).trans (rfl))
        rw [E] at hk
        exact hk
      · refine aw_aload_n hC 0 dX12_doAct_106 rfl rfl ?_
        refine aw_iload_n hC 2 dX12_doAct_107 rfl rfl ?_
        refine aw_iconst (v := 3) hC dX12_doAct_108 (by decide) ?_
        refine aw_cut (S' := S) (pc' := 117) (lv' := [(0, .ref 64), (1, .int v1), (2, .int v2), (3, .int v3)]) (st' := [.int (if v2 = (3 : Int32) then (1 : Int32) else (0 : Int32)), .ref 64]) ?_ (fun Jc1017 => ?_)
        · generalize ex1018 : (if v2 = (3 : Int32) then (1 : Int32) else (0 : Int32)) = x1018
          refine aw_aload_n hC 0 dX12_doAct_117 rfl rfl ?_
          refine aw_iload_n hC 1 dX12_doAct_118 rfl rfl ?_
          refine aw_iconst (v := 2) hC dX12_doAct_119 (by decide) ?_
          refine aw_cV2r hC hSt (t_X12_deed G l hM _ _ (h1 c1015 c1016 x1018 ex1018)) w_1080 w_1088 w_1089 w_1090 w_953 rfl rfl (by decide +kernel) ⟨Nat.le_of_ble_eq_true rfl, Nat.le_of_ble_eq_true rfl⟩ (ms_lt 64 (by decide) hM) (ms_k 64 12 0 (by decide) hM) rfl (Nat.le_of_ble_eq_true rfl) dX12_doAct_120 ⟨Nat.zero_le _, Nat.zero_le _⟩ ?_
          refine aw_aload_n hC 0 dX12_doAct_123 rfl rfl ?_
          refine aw_iload_n hC 1 dX12_doAct_124 rfl rfl ?_
          refine aw_iconst (v := 3) hC dX12_doAct_125 (by decide) ?_
          refine aw_cV2r hC hSt (t_X12_deed G l hM _ _ (h2 c1015 c1016 x1018 ex1018)) w_1080 w_1088 w_1089 w_1090 w_953 rfl rfl (by decide +kernel) ⟨Nat.le_of_ble_eq_true rfl, Nat.le_of_ble_eq_true rfl⟩ (ms_lt 64 (by decide) hM) (ms_k 64 12 0 (by decide) hM) rfl (Nat.le_of_ble_eq_true rfl) dX12_doAct_126 ⟨Nat.zero_le _, Nat.zero_le _⟩ ?_
          refine aw_aload_n hC 0 dX12_doAct_129 rfl rfl ?_
          refine aw_iload_n hC 1 dX12_doAct_130 rfl rfl ?_
          refine aw_iconst (v := 4) hC dX12_doAct_131 (by decide) ?_
          refine aw_cV2r hC hSt (t_X12_deed G l hM _ _ (h3 c1015 c1016 x1018 ex1018)) w_1080 w_1088 w_1089 w_1090 w_953 rfl rfl (by decide +kernel) ⟨Nat.le_of_ble_eq_true rfl, Nat.le_of_ble_eq_true rfl⟩ (ms_lt 64 (by decide) hM) (ms_k 64 12 0 (by decide) hM) rfl (Nat.le_of_ble_eq_true rfl) dX12_doAct_132 ⟨Nat.zero_le _, Nat.zero_le _⟩ ?_
          refine aw_cV4v hC hSt (t_X12_doTick G l hM _ _ _ _ (h4 c1015 c1016 x1018 ex1018)) w_1110 w_1155 w_1156 w_1157 w_953 rfl rfl (by decide +kernel) ⟨Nat.le_of_ble_eq_true rfl, Nat.le_of_ble_eq_true rfl⟩ (ms_lt 64 (by decide) hM) (ms_k 64 12 0 (by decide) hM) rfl (Nat.le_of_ble_eq_true rfl) dX12_doAct_135 ⟨Nat.zero_le _, Nat.zero_le _⟩ ?_
          generalize er1019 : f_X12_doTick S 64 x1018 (f_X12_deed S 64 v1 (2 : Int32)) (f_X12_deed S 64 v1 (3 : Int32)) (f_X12_deed S 64 v1 (4 : Int32)) = r1019
          have hM : MS r1019 := MS.of (by rw [← er1019]; exact q_X12_doTick _ _ _ _ _ _) hM
          refine aw_aload_n hC 0 dX12_doAct_138 rfl rfl ?_
          refine aw_aload_n hC 0 dX12_doAct_139 rfl rfl ?_
          refine aw_getI hC hSt 26 (ms_lt 64 (by decide) hM) (ms_k 64 12 0 (by decide) hM) rfl (by decide) w_1038 rfl dX12_doAct_140 ?_
          refine aw_putI hC hSt 30 (ms_lt 64 (by decide) hM) (ms_k 64 12 0 (by decide) hM) rfl (by decide) w_1183 rfl rfl rfl rfl dX12_doAct_143 ?_
          generalize eS1020 : (sI r1019 64 30 (gI r1019 64 26)) = S1020
          have hM : MS S1020 := MS.of (by rw [← eS1020]; exact shp_sI _ _ _ _) hM
          refine aw_iinc (v := (v3 + (1 : Int32))) hC 3 [(3, .int _), (0, .ref 64), (1, .int _), (2, .int _)] dX12_doAct_146 rfl rfl (by decide) rfl ?_
          refine aw_goto hC 89 dX12_doAct_149 (by decide) ?_
          refine aw_sub [1, 2, 3, 0] rfl ?_
          have hTn := (h5 c1015 c1016 x1018 ex1018 r1019 er1019 S1020 eS1020)
          have hMn : MS S1020 := hM
          have E : L_X12_doAct_89 (n + 1) S v1 v2 v3 = _ := (if_neg c1015).trans ((if_pos c1016).trans ((bd_eq ex1018).trans ((bd_eq er1019).trans ((bd_eq eS1020).trans (rfl)))))
          rw [E] at hk
          exact ih _ _ _ _ hMn hTn hk
        · refine aw_icmp_ne hC 116 dX12_doAct_109 (by decide) (fun c1017 => ?_) (fun c1017 => ?_)
          · refine aw_iconst (v := 0) hC dX12_doAct_116 (by decide) ?_
            simp only [bd_def, if_neg c1017] at Jc1017 ⊢
            exact Jc1017
          · refine aw_iconst (v := 1) hC dX12_doAct_112 (by decide) ?_
            refine aw_goto hC 117 dX12_doAct_113 (by decide) ?_
            simp only [bd_def, if_pos c1017] at Jc1017 ⊢
            exact Jc1017
noncomputable def f_X12_doAct (S : HSt) (_o : Nat) (a1 : Int32) : HSt := bd ((f_X12_deed S 64 a1 (0 : Int32))) fun x1 => bd ((sI S 64 29 (-1000000 : Int32))) fun S2 => bd ((sI S2 64 30 (-1000000 : Int32))) fun S3 => bd ((if x1 = (6 : Int32) then (bd (f_X12_doClose S3 64) fun r24 => x1) else (if x1 = (4 : Int32) then (bd ((if x1 = (5 : Int32) then (1 : Int32) else (0 : Int32))) fun x7 => bd (f_X12_missBy S3 64 x7 (f_X12_deed S3 64 a1 (1 : Int32)) (gI S3 64 21)) fun r8 => bd (r8.1) fun x9 => bd ((if 0 ≤ x9 then x9 else (0 : Int32))) fun x11 => bd ((sI r8.2 64 29 x11)) fun S12 => bd (f_X12_shut S12 64) fun r13 => x1) else (if x1 = (5 : Int32) then (bd ((if x1 = (5 : Int32) then (1 : Int32) else (0 : Int32))) fun x17 => bd (f_X12_missBy S3 64 x17 (f_X12_deed S3 64 a1 (1 : Int32)) (gI S3 64 21)) fun r18 => bd (r18.1) fun x19 => bd ((if 0 ≤ x19 then x19 else (0 : Int32))) fun x21 => bd ((sI r18.2 64 29 x21)) fun S22 => bd (f_X12_shut S22 64) fun r23 => x1) else (bd (L_X12_doAct_89 1000 S3 a1 x1 (0 : Int32)) fun r15 => r15.2.1))))) fun x25 => bd ((if x1 = (6 : Int32) then (bd (f_X12_doClose S3 64) fun r24 => a1) else (if x1 = (4 : Int32) then (bd ((if x1 = (5 : Int32) then (1 : Int32) else (0 : Int32))) fun x7 => bd (f_X12_missBy S3 64 x7 (f_X12_deed S3 64 a1 (1 : Int32)) (gI S3 64 21)) fun r8 => bd (r8.1) fun x9 => bd ((if 0 ≤ x9 then x9 else (0 : Int32))) fun x11 => bd ((sI r8.2 64 29 x11)) fun S12 => bd (f_X12_shut S12 64) fun r13 => a1) else (if x1 = (5 : Int32) then (bd ((if x1 = (5 : Int32) then (1 : Int32) else (0 : Int32))) fun x17 => bd (f_X12_missBy S3 64 x17 (f_X12_deed S3 64 a1 (1 : Int32)) (gI S3 64 21)) fun r18 => bd (r18.1) fun x19 => bd ((if 0 ≤ x19 then x19 else (0 : Int32))) fun x21 => bd ((sI r18.2 64 29 x21)) fun S22 => bd (f_X12_shut S22 64) fun r23 => a1) else (bd (L_X12_doAct_89 1000 S3 a1 x1 (0 : Int32)) fun r15 => r15.1))))) fun x26 => bd ((if x1 = (6 : Int32) then (bd (f_X12_doClose S3 64) fun r24 => r24) else (if x1 = (4 : Int32) then (bd ((if x1 = (5 : Int32) then (1 : Int32) else (0 : Int32))) fun x7 => bd (f_X12_missBy S3 64 x7 (f_X12_deed S3 64 a1 (1 : Int32)) (gI S3 64 21)) fun r8 => bd (r8.1) fun x9 => bd ((if 0 ≤ x9 then x9 else (0 : Int32))) fun x11 => bd ((sI r8.2 64 29 x11)) fun S12 => bd (f_X12_shut S12 64) fun r13 => r13) else (if x1 = (5 : Int32) then (bd ((if x1 = (5 : Int32) then (1 : Int32) else (0 : Int32))) fun x17 => bd (f_X12_missBy S3 64 x17 (f_X12_deed S3 64 a1 (1 : Int32)) (gI S3 64 21)) fun r18 => bd (r18.1) fun x19 => bd ((if 0 ≤ x19 then x19 else (0 : Int32))) fun x21 => bd ((sI r18.2 64 29 x21)) fun S22 => bd (f_X12_shut S22 64) fun r23 => r23) else (bd (L_X12_doAct_89 1000 S3 a1 x1 (0 : Int32)) fun r15 => r15.2.2.2))))) fun S27 => S27
def p_X12_doAct (S : HSt) (_o : Nat) (a1 : Int32) : Prop := (p_X12_deed S 64 a1 (0 : Int32)) ∧ (∀ x1 : Int32, (f_X12_deed S 64 a1 (0 : Int32)) = x1 → ∀ S2 : HSt, (sI S 64 29 (-1000000 : Int32)) = S2 → ∀ S3 : HSt, (sI S2 64 30 (-1000000 : Int32)) = S3 → (¬ x1 = (6 : Int32)) → (x1 = (4 : Int32)) → ∀ x7 : Int32, (if x1 = (5 : Int32) then (1 : Int32) else (0 : Int32)) = x7 → p_X12_deed S3 64 a1 (1 : Int32)) ∧ (∀ x1 : Int32, (f_X12_deed S 64 a1 (0 : Int32)) = x1 → ∀ S2 : HSt, (sI S 64 29 (-1000000 : Int32)) = S2 → ∀ S3 : HSt, (sI S2 64 30 (-1000000 : Int32)) = S3 → (¬ x1 = (6 : Int32)) → (x1 = (4 : Int32)) → ∀ x7 : Int32, (if x1 = (5 : Int32) then (1 : Int32) else (0 : Int32)) = x7 → p_X12_missBy S3 64 x7 (f_X12_deed S3 64 a1 (1 : Int32)) (gI S3 64 21)) ∧ (∀ x1 : Int32, (f_X12_deed S 64 a1 (0 : Int32)) = x1 → ∀ S2 : HSt, (sI S 64 29 (-1000000 : Int32)) = S2 → ∀ S3 : HSt, (sI S2 64 30 (-1000000 : Int32)) = S3 → (¬ x1 = (6 : Int32)) → (¬ x1 = (4 : Int32)) → (¬ x1 = (5 : Int32)) → T_X12_doAct_89 1000 S3 a1 x1 (0 : Int32)) ∧ (∀ x1 : Int32, (f_X12_deed S 64 a1 (0 : Int32)) = x1 → ∀ S2 : HSt, (sI S 64 29 (-1000000 : Int32)) = S2 → ∀ S3 : HSt, (sI S2 64 30 (-1000000 : Int32)) = S3 → (¬ x1 = (6 : Int32)) → (¬ x1 = (4 : Int32)) → (x1 = (5 : Int32)) → ∀ x17 : Int32, (if x1 = (5 : Int32) then (1 : Int32) else (0 : Int32)) = x17 → p_X12_deed S3 64 a1 (1 : Int32)) ∧ (∀ x1 : Int32, (f_X12_deed S 64 a1 (0 : Int32)) = x1 → ∀ S2 : HSt, (sI S 64 29 (-1000000 : Int32)) = S2 → ∀ S3 : HSt, (sI S2 64 30 (-1000000 : Int32)) = S3 → (¬ x1 = (6 : Int32)) → (¬ x1 = (4 : Int32)) → (x1 = (5 : Int32)) → ∀ x17 : Int32, (if x1 = (5 : Int32) then (1 : Int32) else (0 : Int32)) = x17 → p_X12_missBy S3 64 x17 (f_X12_deed S3 64 a1 (1 : Int32)) (gI S3 64 21))
set_option maxRecDepth 100000 in
theorem t_X12_doAct (G : GG) (l : Launch) {S : HSt} (hM : MS S) (a1 : Int32) (hp : p_X12_doAct S 64 a1) : AM G l yX12_doAct cX12_doAct 4 none (rmD 3 0 0) 0 0 [.ref 64, .int a1] S (FP none (f_X12_doAct S 64 a1)) := by
  obtain ⟨h0, h1, h2, h3, h4, h5⟩ := hp
  refine AM.mk (by decide) (Nat.le_of_ble_eq_true rfl) ?_
  intro p e s m below meth c hC hSt _
  refine aw_aload_n hC 0 dX12_doAct_0 rfl rfl ?_
  refine aw_iload_n hC 1 dX12_doAct_1 rfl rfl ?_
  refine aw_iconst (v := 0) hC dX12_doAct_2 (by decide) ?_
  refine aw_cV2r hC hSt (t_X12_deed G l hM _ _ (h0)) w_1080 w_1088 w_1089 w_1090 w_953 rfl rfl (by decide +kernel) ⟨Nat.le_of_ble_eq_true rfl, Nat.le_of_ble_eq_true rfl⟩ (ms_lt 64 (by decide) hM) (ms_k 64 12 0 (by decide) hM) rfl (Nat.le_of_ble_eq_true rfl) dX12_doAct_3 ⟨Nat.zero_le _, Nat.zero_le _⟩ ?_
  refine aw_istore_n hC [(2, .int _), (0, .ref 64), (1, .int _)] dX12_doAct_6 rfl (by decide) rfl ?_
  generalize ex1 : (f_X12_deed S 64 a1 (0 : Int32)) = x1
  refine aw_aload_n hC 1 dX12_doAct_7 rfl rfl ?_
  refine aw_ldc (v := -1000000) hC w_923 dX12_doAct_8 ?_
  refine aw_putI hC hSt 29 (ms_lt 64 (by decide) hM) (ms_k 64 12 0 (by decide) hM) rfl (by decide) w_1182 rfl rfl rfl rfl dX12_doAct_10 ?_
  generalize eS2 : (sI S 64 29 (-1000000 : Int32)) = S2
  have hM : MS S2 := MS.of (by rw [← eS2]; exact shp_sI _ _ _ _) hM
  refine aw_aload_n hC 1 dX12_doAct_13 rfl rfl ?_
  refine aw_ldc (v := -1000000) hC w_923 dX12_doAct_14 ?_
  refine aw_putI hC hSt 30 (ms_lt 64 (by decide) hM) (ms_k 64 12 0 (by decide) hM) rfl (by decide) w_1183 rfl rfl rfl rfl dX12_doAct_16 ?_
  generalize eS3 : (sI S2 64 30 (-1000000 : Int32)) = S3
  have hM : MS S3 := MS.of (by rw [← eS3]; exact shp_sI _ _ _ _) hM
  refine aw_iload_n hC 0 dX12_doAct_19 rfl rfl ?_
  refine aw_bipush (v := 6) hC dX12_doAct_20 (by decide) ?_
  refine aw_cut (S' := (if x1 = (6 : Int32) then (bd (f_X12_doClose S3 64) fun r24 => r24) else (if x1 = (4 : Int32) then (bd ((if x1 = (5 : Int32) then (1 : Int32) else (0 : Int32))) fun x7 => bd (f_X12_missBy S3 64 x7 (f_X12_deed S3 64 a1 (1 : Int32)) (gI S3 64 21)) fun r8 => bd (r8.1) fun x9 => bd ((if 0 ≤ x9 then x9 else (0 : Int32))) fun x11 => bd ((sI r8.2 64 29 x11)) fun S12 => bd (f_X12_shut S12 64) fun r13 => r13) else (if x1 = (5 : Int32) then (bd ((if x1 = (5 : Int32) then (1 : Int32) else (0 : Int32))) fun x17 => bd (f_X12_missBy S3 64 x17 (f_X12_deed S3 64 a1 (1 : Int32)) (gI S3 64 21)) fun r18 => bd (r18.1) fun x19 => bd ((if 0 ≤ x19 then x19 else (0 : Int32))) fun x21 => bd ((sI r18.2 64 29 x21)) fun S22 => bd (f_X12_shut S22 64) fun r23 => r23) else (bd (L_X12_doAct_89 1000 S3 a1 x1 (0 : Int32)) fun r15 => r15.2.2.2))))) (pc' := 152) (lv' := [(2, .int (if x1 = (6 : Int32) then (bd (f_X12_doClose S3 64) fun r24 => x1) else (if x1 = (4 : Int32) then (bd ((if x1 = (5 : Int32) then (1 : Int32) else (0 : Int32))) fun x7 => bd (f_X12_missBy S3 64 x7 (f_X12_deed S3 64 a1 (1 : Int32)) (gI S3 64 21)) fun r8 => bd (r8.1) fun x9 => bd ((if 0 ≤ x9 then x9 else (0 : Int32))) fun x11 => bd ((sI r8.2 64 29 x11)) fun S12 => bd (f_X12_shut S12 64) fun r13 => x1) else (if x1 = (5 : Int32) then (bd ((if x1 = (5 : Int32) then (1 : Int32) else (0 : Int32))) fun x17 => bd (f_X12_missBy S3 64 x17 (f_X12_deed S3 64 a1 (1 : Int32)) (gI S3 64 21)) fun r18 => bd (r18.1) fun x19 => bd ((if 0 ≤ x19 then x19 else (0 : Int32))) fun x21 => bd ((sI r18.2 64 29 x21)) fun S22 => bd (f_X12_shut S22 64) fun r23 => x1) else (bd (L_X12_doAct_89 1000 S3 a1 x1 (0 : Int32)) fun r15 => r15.2.1))))), (0, .ref 64), (1, .int (if x1 = (6 : Int32) then (bd (f_X12_doClose S3 64) fun r24 => a1) else (if x1 = (4 : Int32) then (bd ((if x1 = (5 : Int32) then (1 : Int32) else (0 : Int32))) fun x7 => bd (f_X12_missBy S3 64 x7 (f_X12_deed S3 64 a1 (1 : Int32)) (gI S3 64 21)) fun r8 => bd (r8.1) fun x9 => bd ((if 0 ≤ x9 then x9 else (0 : Int32))) fun x11 => bd ((sI r8.2 64 29 x11)) fun S12 => bd (f_X12_shut S12 64) fun r13 => a1) else (if x1 = (5 : Int32) then (bd ((if x1 = (5 : Int32) then (1 : Int32) else (0 : Int32))) fun x17 => bd (f_X12_missBy S3 64 x17 (f_X12_deed S3 64 a1 (1 : Int32)) (gI S3 64 21)) fun r18 => bd (r18.1) fun x19 => bd ((if 0 ≤ x19 then x19 else (0 : Int32))) fun x21 => bd ((sI r18.2 64 29 x21)) fun S22 => bd (f_X12_shut S22 64) fun r23 => a1) else (bd (L_X12_doAct_89 1000 S3 a1 x1 (0 : Int32)) fun r15 => r15.1)))))]) (st' := []) ?_ (fun Jc4 => ?_)
  · generalize ex25 : (if x1 = (6 : Int32) then (bd (f_X12_doClose S3 64) fun r24 => x1) else (if x1 = (4 : Int32) then (bd ((if x1 = (5 : Int32) then (1 : Int32) else (0 : Int32))) fun x7 => bd (f_X12_missBy S3 64 x7 (f_X12_deed S3 64 a1 (1 : Int32)) (gI S3 64 21)) fun r8 => bd (r8.1) fun x9 => bd ((if 0 ≤ x9 then x9 else (0 : Int32))) fun x11 => bd ((sI r8.2 64 29 x11)) fun S12 => bd (f_X12_shut S12 64) fun r13 => x1) else (if x1 = (5 : Int32) then (bd ((if x1 = (5 : Int32) then (1 : Int32) else (0 : Int32))) fun x17 => bd (f_X12_missBy S3 64 x17 (f_X12_deed S3 64 a1 (1 : Int32)) (gI S3 64 21)) fun r18 => bd (r18.1) fun x19 => bd ((if 0 ≤ x19 then x19 else (0 : Int32))) fun x21 => bd ((sI r18.2 64 29 x21)) fun S22 => bd (f_X12_shut S22 64) fun r23 => x1) else (bd (L_X12_doAct_89 1000 S3 a1 x1 (0 : Int32)) fun r15 => r15.2.1)))) = x25
    generalize ex26 : (if x1 = (6 : Int32) then (bd (f_X12_doClose S3 64) fun r24 => a1) else (if x1 = (4 : Int32) then (bd ((if x1 = (5 : Int32) then (1 : Int32) else (0 : Int32))) fun x7 => bd (f_X12_missBy S3 64 x7 (f_X12_deed S3 64 a1 (1 : Int32)) (gI S3 64 21)) fun r8 => bd (r8.1) fun x9 => bd ((if 0 ≤ x9 then x9 else (0 : Int32))) fun x11 => bd ((sI r8.2 64 29 x11)) fun S12 => bd (f_X12_shut S12 64) fun r13 => a1) else (if x1 = (5 : Int32) then (bd ((if x1 = (5 : Int32) then (1 : Int32) else (0 : Int32))) fun x17 => bd (f_X12_missBy S3 64 x17 (f_X12_deed S3 64 a1 (1 : Int32)) (gI S3 64 21)) fun r18 => bd (r18.1) fun x19 => bd ((if 0 ≤ x19 then x19 else (0 : Int32))) fun x21 => bd ((sI r18.2 64 29 x21)) fun S22 => bd (f_X12_shut S22 64) fun r23 => a1) else (bd (L_X12_doAct_89 1000 S3 a1 x1 (0 : Int32)) fun r15 => r15.1)))) = x26
    generalize eS27 : (if x1 = (6 : Int32) then (bd (f_X12_doClose S3 64) fun r24 => r24) else (if x1 = (4 : Int32) then (bd ((if x1 = (5 : Int32) then (1 : Int32) else (0 : Int32))) fun x7 => bd (f_X12_missBy S3 64 x7 (f_X12_deed S3 64 a1 (1 : Int32)) (gI S3 64 21)) fun r8 => bd (r8.1) fun x9 => bd ((if 0 ≤ x9 then x9 else (0 : Int32))) fun x11 => bd ((sI r8.2 64 29 x11)) fun S12 => bd (f_X12_shut S12 64) fun r13 => r13) else (if x1 = (5 : Int32) then (bd ((if x1 = (5 : Int32) then (1 : Int32) else (0 : Int32))) fun x17 => bd (f_X12_missBy S3 64 x17 (f_X12_deed S3 64 a1 (1 : Int32)) (gI S3 64 21)) fun r18 => bd (r18.1) fun x19 => bd ((if 0 ≤ x19 then x19 else (0 : Int32))) fun x21 => bd ((sI r18.2 64 29 x21)) fun S22 => bd (f_X12_shut S22 64) fun r23 => r23) else (bd (L_X12_doAct_89 1000 S3 a1 x1 (0 : Int32)) fun r15 => r15.2.2.2)))) = S27
    have hM : MS S27 := MS.of (by rw [← eS27]; repeat' (first | with_reducible rfl | with_reducible refine (qL_X12_doAct_89 _ _ _ _ _).trans ?_ | with_reducible refine (q_X12_doClose _ _).trans ?_ | with_reducible refine (q_X12_missBy _ _ _ _ _).trans ?_ | with_reducible refine (q_X12_shut _ _).trans ?_ | with_reducible refine (shp_sI _ _ _ _).trans ?_ | with_reducible refine (shp_sJ _ _ _ _).trans ?_ | with_reducible refine shi ?_ ?_ | with_reducible refine shb (fun _ _ => ?_) | (subst_vars; with_reducible rfl) | (subst_vars; with_reducible refine (qL_X12_doAct_89 _ _ _ _ _).trans ?_) | (subst_vars; with_reducible refine (q_X12_doClose _ _).trans ?_) | (subst_vars; with_reducible refine (q_X12_missBy _ _ _ _ _).trans ?_) | (subst_vars; with_reducible refine (q_X12_shut _ _).trans ?_) | (subst_vars; with_reducible refine (shp_sI _ _ _ _).trans ?_) | (subst_vars; with_reducible refine (shp_sJ _ _ _ _).trans ?_) | (subst_vars; with_reducible refine shi ?_ ?_) | (subst_vars; with_reducible refine shb (fun _ _ => ?_)))) hM
    refine aw_vret hC dX12_doAct_152 (Nat.le_refl _) (Nat.le_refl _) ?_
    exact FP.qV ((bd_eq ex1).trans ((bd_eq eS2).trans ((bd_eq eS3).trans ((bd_eq ex25).trans ((bd_eq ex26).trans ((bd_eq eS27).trans (rfl)))))))
  · refine aw_icmp_ne hC 32 dX12_doAct_22 (by decide) (fun c4 => ?_) (fun c4 => ?_)
    · refine aw_iload_n hC 0 dX12_doAct_32 rfl rfl ?_
      refine aw_iconst (v := 4) hC dX12_doAct_33 (by decide) ?_
      refine aw_icmp_eq hC 42 dX12_doAct_34 (by decide) (fun c5 => ?_) (fun c5 => ?_)
      · refine aw_aload_n hC 1 dX12_doAct_42 rfl rfl ?_
        refine aw_iload_n hC 0 dX12_doAct_43 rfl rfl ?_
        refine aw_iconst (v := 5) hC dX12_doAct_44 (by decide) ?_
        refine aw_cut (S' := S3) (pc' := 53) (lv' := [(2, .int x1), (0, .ref 64), (1, .int a1)]) (st' := [.int (if x1 = (5 : Int32) then (1 : Int32) else (0 : Int32)), .ref 64]) ?_ (fun Jc6 => ?_)
        · generalize ex7 : (if x1 = (5 : Int32) then (1 : Int32) else (0 : Int32)) = x7
          refine aw_aload_n hC 1 dX12_doAct_53 rfl rfl ?_
          refine aw_iload_n hC 2 dX12_doAct_54 rfl rfl ?_
          refine aw_iconst (v := 1) hC dX12_doAct_55 (by decide) ?_
          refine aw_cV2r hC hSt (t_X12_deed G l hM _ _ (h1 x1 ex1 S2 eS2 S3 eS3 c4 c5 x7 ex7)) w_1080 w_1088 w_1089 w_1090 w_953 rfl rfl (by decide +kernel) ⟨Nat.le_of_ble_eq_true rfl, Nat.le_of_ble_eq_true rfl⟩ (ms_lt 64 (by decide) hM) (ms_k 64 12 0 (by decide) hM) rfl (Nat.le_of_ble_eq_true rfl) dX12_doAct_56 ⟨Nat.zero_le _, Nat.zero_le _⟩ ?_
          refine aw_aload_n hC 1 dX12_doAct_59 rfl rfl ?_
          refine aw_getI hC hSt 21 (ms_lt 64 (by decide) hM) (ms_k 64 12 0 (by decide) hM) rfl (by decide) w_1033 rfl dX12_doAct_60 ?_
          refine aw_cV3r hC hSt (t_X12_missBy G l hM _ _ _ (h2 x1 ex1 S2 eS2 S3 eS3 c4 c5 x7 ex7)) w_1116 w_1128 w_1129 w_1130 w_953 rfl rfl (by decide +kernel) ⟨Nat.le_of_ble_eq_true rfl, Nat.le_of_ble_eq_true rfl⟩ (ms_lt 64 (by decide) hM) (ms_k 64 12 0 (by decide) hM) rfl (Nat.le_of_ble_eq_true rfl) dX12_doAct_63 ⟨Nat.zero_le _, Nat.zero_le _⟩ ?_
          generalize er8 : f_X12_missBy S3 64 x7 (f_X12_deed S3 64 a1 (1 : Int32)) (gI S3 64 21) = r8
          have hM : MS r8.2 := MS.of (by rw [← er8]; exact q_X12_missBy _ _ _ _ _) hM
          refine aw_istore_n hC [(3, .int _), (2, .int _), (0, .ref 64), (1, .int _)] dX12_doAct_66 rfl (by decide) rfl ?_
          generalize ex9 : r8.1 = x9
          refine aw_aload_n hC 2 dX12_doAct_67 rfl rfl ?_
          refine aw_iload_n hC 0 dX12_doAct_68 rfl rfl ?_
          refine aw_cut (S' := r8.2) (pc' := 77) (lv' := [(3, .int x9), (2, .int x1), (0, .ref 64), (1, .int a1)]) (st' := [.int (if 0 ≤ x9 then x9 else (0 : Int32)), .ref 64]) ?_ (fun Jc10 => ?_)
          · generalize ex11 : (if 0 ≤ x9 then x9 else (0 : Int32)) = x11
            refine aw_putI hC hSt 29 (ms_lt 64 (by decide) hM) (ms_k 64 12 0 (by decide) hM) rfl (by decide) w_1182 rfl rfl rfl rfl dX12_doAct_77 ?_
            generalize eS12 : (sI r8.2 64 29 x11) = S12
            have hM : MS S12 := MS.of (by rw [← eS12]; exact shp_sI _ _ _ _) hM
            refine aw_aload_n hC 2 dX12_doAct_80 rfl rfl ?_
            refine aw_cV0v hC hSt (t_X12_shut G l hM ) w_1111 w_1113 w_1114 w_1115 w_953 rfl rfl (by decide +kernel) ⟨Nat.le_of_ble_eq_true rfl, Nat.le_of_ble_eq_true rfl⟩ (ms_lt 64 (by decide) hM) (ms_k 64 12 0 (by decide) hM) rfl (Nat.le_of_ble_eq_true rfl) dX12_doAct_81 ⟨Nat.zero_le _, Nat.zero_le _⟩ ?_
            generalize er13 : f_X12_shut S12 64 = r13
            have hM : MS r13 := MS.of (by rw [← er13]; exact q_X12_shut _ _) hM
            refine aw_goto hC 152 dX12_doAct_84 (by decide) ?_
            refine aw_sub [1, 2, 3] rfl ?_
            subst er13
            subst eS12
            subst ex11
            subst ex9
            subst er8
            subst ex7
            simp only [bd_def, if_neg c4, if_pos c5] at Jc4 ⊢
            exact Jc4
          · refine aw_if_ge hC 76 dX12_doAct_69 (by decide) (fun c10 => ?_) (fun c10 => ?_)
            · refine aw_iload_n hC 0 dX12_doAct_76 rfl rfl ?_
              simp only [bd_def, if_pos c10] at Jc10 ⊢
              exact Jc10
            · refine aw_iconst (v := 0) hC dX12_doAct_72 (by decide) ?_
              refine aw_goto hC 77 dX12_doAct_73 (by decide) ?_
              simp only [bd_def, if_neg c10] at Jc10 ⊢
              exact Jc10
        · refine aw_icmp_ne hC 52 dX12_doAct_45 (by decide) (fun c6 => ?_) (fun c6 => ?_)
          · refine aw_iconst (v := 0) hC dX12_doAct_52 (by decide) ?_
            simp only [bd_def, if_neg c6] at Jc6 ⊢
            exact Jc6
          · refine aw_iconst (v := 1) hC dX12_doAct_48 (by decide) ?_
            refine aw_goto hC 53 dX12_doAct_49 (by decide) ?_
            simp only [bd_def, if_pos c6] at Jc6 ⊢
            exact Jc6
      · refine aw_iload_n hC 0 dX12_doAct_37 rfl rfl ?_
        refine aw_iconst (v := 5) hC dX12_doAct_38 (by decide) ?_
        refine aw_icmp_ne hC 87 dX12_doAct_39 (by decide) (fun c14 => ?_) (fun c14 => ?_)
        · refine aw_iconst (v := 0) hC dX12_doAct_87 (by decide) ?_
          refine aw_istore_n hC [(3, .int _), (2, .int _), (0, .ref 64), (1, .int _)] dX12_doAct_88 rfl (by decide) rfl ?_
          refine aw_sub [2, 3, 1, 0] rfl ?_
          refine l_X12_doAct_89 hC hSt 1000 _ _ _ _ hM (h3 x1 ex1 S2 eS2 S3 eS3 c4 c5 c14) ?_
          generalize er15 : L_X12_doAct_89 1000 S3 a1 x1 (0 : Int32) = r15
          have hM : MS r15.2.2.2 := MS.of (by rw [← er15]; exact qL_X12_doAct_89 _ _ _ _ _) hM
          refine aw_sub [2, 0, 1] rfl ?_
          subst er15
          simp only [bd_def, if_neg c4, if_neg c5, if_neg c14] at Jc4 ⊢
          exact Jc4
        · refine aw_aload_n hC 1 dX12_doAct_42 rfl rfl ?_
          refine aw_iload_n hC 0 dX12_doAct_43 rfl rfl ?_
          refine aw_iconst (v := 5) hC dX12_doAct_44 (by decide) ?_
          refine aw_cut (S' := S3) (pc' := 53) (lv' := [(2, .int x1), (0, .ref 64), (1, .int a1)]) (st' := [.int (if x1 = (5 : Int32) then (1 : Int32) else (0 : Int32)), .ref 64]) ?_ (fun Jc16 => ?_)
          · generalize ex17 : (if x1 = (5 : Int32) then (1 : Int32) else (0 : Int32)) = x17
            refine aw_aload_n hC 1 dX12_doAct_53 rfl rfl ?_
            refine aw_iload_n hC 2 dX12_doAct_54 rfl rfl ?_
            refine aw_iconst (v := 1) hC dX12_doAct_55 (by decide) ?_
            refine aw_cV2r hC hSt (t_X12_deed G l hM _ _ (h4 x1 ex1 S2 eS2 S3 eS3 c4 c5 c14 x17 ex17)) w_1080 w_1088 w_1089 w_1090 w_953 rfl rfl (by decide +kernel) ⟨Nat.le_of_ble_eq_true rfl, Nat.le_of_ble_eq_true rfl⟩ (ms_lt 64 (by decide) hM) (ms_k 64 12 0 (by decide) hM) rfl (Nat.le_of_ble_eq_true rfl) dX12_doAct_56 ⟨Nat.zero_le _, Nat.zero_le _⟩ ?_
            refine aw_aload_n hC 1 dX12_doAct_59 rfl rfl ?_
            refine aw_getI hC hSt 21 (ms_lt 64 (by decide) hM) (ms_k 64 12 0 (by decide) hM) rfl (by decide) w_1033 rfl dX12_doAct_60 ?_
            refine aw_cV3r hC hSt (t_X12_missBy G l hM _ _ _ (h5 x1 ex1 S2 eS2 S3 eS3 c4 c5 c14 x17 ex17)) w_1116 w_1128 w_1129 w_1130 w_953 rfl rfl (by decide +kernel) ⟨Nat.le_of_ble_eq_true rfl, Nat.le_of_ble_eq_true rfl⟩ (ms_lt 64 (by decide) hM) (ms_k 64 12 0 (by decide) hM) rfl (Nat.le_of_ble_eq_true rfl) dX12_doAct_63 ⟨Nat.zero_le _, Nat.zero_le _⟩ ?_
            generalize er18 : f_X12_missBy S3 64 x17 (f_X12_deed S3 64 a1 (1 : Int32)) (gI S3 64 21) = r18
            have hM : MS r18.2 := MS.of (by rw [← er18]; exact q_X12_missBy _ _ _ _ _) hM
            refine aw_istore_n hC [(3, .int _), (2, .int _), (0, .ref 64), (1, .int _)] dX12_doAct_66 rfl (by decide) rfl ?_
            generalize ex19 : r18.1 = x19
            refine aw_aload_n hC 2 dX12_doAct_67 rfl rfl ?_
            refine aw_iload_n hC 0 dX12_doAct_68 rfl rfl ?_
            refine aw_cut (S' := r18.2) (pc' := 77) (lv' := [(3, .int x19), (2, .int x1), (0, .ref 64), (1, .int a1)]) (st' := [.int (if 0 ≤ x19 then x19 else (0 : Int32)), .ref 64]) ?_ (fun Jc20 => ?_)
            · generalize ex21 : (if 0 ≤ x19 then x19 else (0 : Int32)) = x21
              refine aw_putI hC hSt 29 (ms_lt 64 (by decide) hM) (ms_k 64 12 0 (by decide) hM) rfl (by decide) w_1182 rfl rfl rfl rfl dX12_doAct_77 ?_
              generalize eS22 : (sI r18.2 64 29 x21) = S22
              have hM : MS S22 := MS.of (by rw [← eS22]; exact shp_sI _ _ _ _) hM
              refine aw_aload_n hC 2 dX12_doAct_80 rfl rfl ?_
              refine aw_cV0v hC hSt (t_X12_shut G l hM ) w_1111 w_1113 w_1114 w_1115 w_953 rfl rfl (by decide +kernel) ⟨Nat.le_of_ble_eq_true rfl, Nat.le_of_ble_eq_true rfl⟩ (ms_lt 64 (by decide) hM) (ms_k 64 12 0 (by decide) hM) rfl (Nat.le_of_ble_eq_true rfl) dX12_doAct_81 ⟨Nat.zero_le _, Nat.zero_le _⟩ ?_
              generalize er23 : f_X12_shut S22 64 = r23
              have hM : MS r23 := MS.of (by rw [← er23]; exact q_X12_shut _ _) hM
              refine aw_goto hC 152 dX12_doAct_84 (by decide) ?_
              refine aw_sub [1, 2, 3] rfl ?_
              subst er23
              subst eS22
              subst ex21
              subst ex19
              subst er18
              subst ex17
              simp only [bd_def, if_neg c4, if_neg c5, if_pos c14] at Jc4 ⊢
              exact Jc4
            · refine aw_if_ge hC 76 dX12_doAct_69 (by decide) (fun c20 => ?_) (fun c20 => ?_)
              · refine aw_iload_n hC 0 dX12_doAct_76 rfl rfl ?_
                simp only [bd_def, if_pos c20] at Jc20 ⊢
                exact Jc20
              · refine aw_iconst (v := 0) hC dX12_doAct_72 (by decide) ?_
                refine aw_goto hC 77 dX12_doAct_73 (by decide) ?_
                simp only [bd_def, if_neg c20] at Jc20 ⊢
                exact Jc20
          · refine aw_icmp_ne hC 52 dX12_doAct_45 (by decide) (fun c16 => ?_) (fun c16 => ?_)
            · refine aw_iconst (v := 0) hC dX12_doAct_52 (by decide) ?_
              simp only [bd_def, if_neg c16] at Jc16 ⊢
              exact Jc16
            · refine aw_iconst (v := 1) hC dX12_doAct_48 (by decide) ?_
              refine aw_goto hC 53 dX12_doAct_49 (by decide) ?_
              simp only [bd_def, if_pos c16] at Jc16 ⊢
              exact Jc16
    · refine aw_aload_n hC 1 dX12_doAct_25 rfl rfl ?_
      refine aw_cV0v hC hSt (t_X12_doClose G l hM ) w_1112 w_1163 w_1164 w_1165 w_953 rfl rfl (by decide +kernel) ⟨Nat.le_of_ble_eq_true rfl, Nat.le_of_ble_eq_true rfl⟩ (ms_lt 64 (by decide) hM) (ms_k 64 12 0 (by decide) hM) rfl (Nat.le_of_ble_eq_true rfl) dX12_doAct_26 ⟨Nat.zero_le _, Nat.zero_le _⟩ ?_
      generalize er24 : f_X12_doClose S3 64 = r24
      have hM : MS r24 := MS.of (by rw [← er24]; exact q_X12_doClose _ _) hM
      refine aw_goto hC 152 dX12_doAct_29 (by decide) ?_
      subst er24
      simp only [bd_def, if_pos c4] at Jc4 ⊢
      exact Jc4
theorem q_X12_doAct (S : HSt) (_o : Nat) (a1 : Int32) : shp (f_X12_doAct S _o a1) = shp S := by
  unfold f_X12_doAct
  repeat' (first | with_reducible rfl | with_reducible refine (q_X12_doClose _ _).trans ?_ | with_reducible refine (q_X12_doTick _ _ _ _ _ _).trans ?_ | with_reducible refine (q_X12_missBy _ _ _ _ _).trans ?_ | with_reducible refine (q_X12_shut _ _).trans ?_ | with_reducible refine (qL_X12_doAct_89 _ _ _ _ _).trans ?_ | with_reducible refine (shp_sI _ _ _ _).trans ?_ | with_reducible refine (shp_sJ _ _ _ _).trans ?_ | with_reducible refine shi ?_ ?_ | with_reducible refine shb (fun _ _ => ?_) | (subst_vars; with_reducible rfl) | (subst_vars; with_reducible refine (q_X12_doClose _ _).trans ?_) | (subst_vars; with_reducible refine (q_X12_doTick _ _ _ _ _ _).trans ?_) | (subst_vars; with_reducible refine (q_X12_missBy _ _ _ _ _).trans ?_) | (subst_vars; with_reducible refine (q_X12_shut _ _).trans ?_) | (subst_vars; with_reducible refine (qL_X12_doAct_89 _ _ _ _ _).trans ?_) | (subst_vars; with_reducible refine (shp_sI _ _ _ _).trans ?_) | (subst_vars; with_reducible refine (shp_sJ _ _ _ _).trans ?_) | (subst_vars; with_reducible refine shi ?_ ?_) | (subst_vars; with_reducible refine shb (fun _ _ => ?_)))
noncomputable def L_X12_told_63 : Nat → HSt → Int32 → Int32 → Int32 → Int32 × Int32 × Int32 × HSt
  | 0, S, v1, v2, v3 => (v1, v2, v3, S)
  | n + 1, S, v1, v2, v3 =>
    if v1 < v3 then ((pr (v1) (pr (v2) (pr (v3) (S))))) else (bd (f_X12_doAct S 64 v3) fun r1009 => L_X12_told_63 n r1009 v1 v2 (v3 + (1 : Int32)))
def T_X12_told_63 : Nat → HSt → Int32 → Int32 → Int32 → Prop
  | 0, _, _, _, _ => False
  | n + 1, S, v1, v2, v3 => ((¬ v1 < v3) → p_X12_doAct S 64 v3) ∧ ((¬ v1 < v3) → ∀ r1009, f_X12_doAct S 64 v3 = r1009 → T_X12_told_63 n r1009 v1 v2 (v3 + (1 : Int32)))
theorem qL_X12_told_63 : ∀ (n : Nat) (S : HSt) (v1 : Int32) (v2 : Int32) (v3 : Int32), shp (L_X12_told_63 n S v1 v2 v3).2.2.2 = shp S := by
  intro n
  induction n with
  | zero => intros; rfl
  | succ n ih =>
    intro S v1 v2 v3
    unfold L_X12_told_63
    repeat' (first | with_reducible refine shpr3 ?_ | with_reducible rfl | with_reducible refine (ih _ _ _ _).trans ?_ | with_reducible refine (q_X12_doAct _ _ _).trans ?_ | with_reducible refine (q_X12_first _ _).trans ?_ | with_reducible refine (shp_sI _ _ _ _).trans ?_ | with_reducible refine (shp_sJ _ _ _ _).trans ?_ | with_reducible refine shi ?_ ?_ | with_reducible refine shb (fun _ _ => ?_) | with_reducible refine shiP (fun q : Int32 × Int32 × Int32 × HSt => q.2.2.2) ?_ ?_ | with_reducible refine shbP (fun q : Int32 × Int32 × Int32 × HSt => q.2.2.2) (fun _ _ => ?_) | (subst_vars; with_reducible rfl) | (subst_vars; with_reducible refine (ih _ _ _ _).trans ?_) | (subst_vars; with_reducible refine (q_X12_doAct _ _ _).trans ?_) | (subst_vars; with_reducible refine (q_X12_first _ _).trans ?_) | (subst_vars; with_reducible refine (shp_sI _ _ _ _).trans ?_) | (subst_vars; with_reducible refine (shp_sJ _ _ _ _).trans ?_) | (subst_vars; with_reducible refine shi ?_ ?_) | (subst_vars; with_reducible refine shb (fun _ _ => ?_)))
set_option maxRecDepth 100000 in
theorem l_X12_told_63 {p : Program} {l : Launch} {e : Env} {s : State} {m : MethodId} {args : Array Value} {below : List Frame} {meth : Method} {c : Code} {G : GG} {Q : State → Prop} (hC : ACx p s m args meth c cX12_told RX12 4 (some .long)) (hSt : St G s)  : ∀ (n : Nat) (S : HSt) (v1 : Int32) (v2 : Int32) (v3 : Int32), MS S → T_X12_told_63 n S v1 v2 v3 → AW p l e (rmD 4 0 0) s m args below meth c G 4 Q (L_X12_told_63 n S v1 v2 v3).2.2.2 0 0 79 [(0, .ref 64), (1, .int (L_X12_told_63 n S v1 v2 v3).1), (2, .int (L_X12_told_63 n S v1 v2 v3).2.1), (3, .int (L_X12_told_63 n S v1 v2 v3).2.2.1)] [] → AW p l e (rmD 4 0 0) s m args below meth c G 4 Q S 0 0 63 [(0, .ref 64), (1, .int v1), (2, .int v2), (3, .int v3)] [] := by
  intro n
  induction n with
  | zero => intro S v1 v2 v3 _ hT; exact hT.elim
  | succ n ih =>
    intro S v1 v2 v3 hM hT hk
    unfold T_X12_told_63 at hT
    obtain ⟨h0, h1⟩ := hT
    refine aw_iload_n hC 3 dX12_told_63 rfl rfl ?_
    refine aw_iload_n hC 1 dX12_told_64 rfl rfl ?_
    refine aw_icmp_gt hC 79 dX12_told_65 (by decide) (fun c1008 => ?_) (fun c1008 => ?_)
    · refine aw_sub [0, 1, 2, 3] rfl ?_
      have E : L_X12_told_63 (n + 1) S v1 v2 v3 = _ := (if_pos c1008).trans (rfl)
      rw [E] at hk
      exact hk
    · refine aw_aload_n hC 0 dX12_told_68 rfl rfl ?_
      refine aw_iload_n hC 3 dX12_told_69 rfl rfl ?_
      refine aw_cV1v hC hSt (t_X12_doAct G l hM _ (h0 c1008)) w_1184 w_1185 w_1186 w_1187 w_953 rfl rfl (by decide +kernel) ⟨Nat.le_of_ble_eq_true rfl, Nat.le_of_ble_eq_true rfl⟩ (ms_lt 64 (by decide) hM) (ms_k 64 12 0 (by decide) hM) rfl (Nat.le_of_ble_eq_true rfl) dX12_told_70 ⟨Nat.zero_le _, Nat.zero_le _⟩ ?_
      generalize er1009 : f_X12_doAct S 64 v3 = r1009
      have hM : MS r1009 := MS.of (by rw [← er1009]; exact q_X12_doAct _ _ _) hM
      refine aw_iinc (v := (v3 + (1 : Int32))) hC 3 [(3, .int _), (0, .ref 64), (1, .int _), (2, .int _)] dX12_told_73 rfl rfl (by decide) rfl ?_
      refine aw_goto hC 63 dX12_told_76 (by decide) ?_
      refine aw_sub [1, 2, 3, 0] rfl ?_
      have hTn := (h1 c1008 r1009 er1009)
      have hMn : MS r1009 := hM
      have E : L_X12_told_63 (n + 1) S v1 v2 v3 = _ := (if_neg c1008).trans ((bd_eq er1009).trans (rfl))
      rw [E] at hk
      exact ih _ _ _ _ hMn hTn hk
noncomputable def f_X12_told (S : HSt) (_o : Nat) (a1 : Int32) (a2 : Int32) : Int64 × HSt := bd ((sI S 64 0 (0 : Int32))) fun S1 => if (gI S1 64 7) = 0 then (pr ((-9000000000000000002 : Int64)) (S1)) else (if a1 = (-1 : Int32) then (if (f_X12_in S1 a2.toInt64 (0 : Int64) (7 : Int64)) = 0 then (pr ((-9000000000000000001 : Int64)) (S1)) else (bd (f_X12_first S1 64) fun r5 => bd ((sI r5 64 29 (-1000000 : Int32))) fun S6 => bd ((sI S6 64 30 (-1000000 : Int32))) fun S7 => bd (L_X12_told_63 1000 S7 a1 a2 (0 : Int32)) fun r8 => bd ((if (6 : Int32) ≤ r8.2.1 then (if r8.2.1 = (6 : Int32) then (gI r8.2.2.2 64 29).toInt64 else (gI r8.2.2.2 64 30).toInt64) else (f_X12_of r8.2.2.2 64 r8.2.1).toInt64)) fun x11 => pr (x11) (r8.2.2.2))) else (if (f_X12_isAct S1 64 a1) = 0 then (pr ((-9000000000000000001 : Int64)) (S1)) else (if (f_X12_in S1 a2.toInt64 (0 : Int64) (7 : Int64)) = 0 then (pr ((-9000000000000000001 : Int64)) (S1)) else (bd (f_X12_first S1 64) fun r14 => bd ((sI r14 64 29 (-1000000 : Int32))) fun S15 => bd ((sI S15 64 30 (-1000000 : Int32))) fun S16 => bd (L_X12_told_63 1000 S16 a1 a2 (0 : Int32)) fun r17 => bd ((if (6 : Int32) ≤ r17.2.1 then (if r17.2.1 = (6 : Int32) then (gI r17.2.2.2 64 29).toInt64 else (gI r17.2.2.2 64 30).toInt64) else (f_X12_of r17.2.2.2 64 r17.2.1).toInt64)) fun x20 => pr (x20) (r17.2.2.2)))))
def p_X12_told (S : HSt) (_o : Nat) (a1 : Int32) (a2 : Int32) : Prop := (∀ S1 : HSt, (sI S 64 0 (0 : Int32)) = S1 → (¬ (gI S1 64 7) = 0) → (a1 = (-1 : Int32)) → (¬ (f_X12_in S1 a2.toInt64 (0 : Int64) (7 : Int64)) = 0) → ∀ r5, f_X12_first S1 64 = r5 → ∀ S6 : HSt, (sI r5 64 29 (-1000000 : Int32)) = S6 → ∀ S7 : HSt, (sI S6 64 30 (-1000000 : Int32)) = S7 → T_X12_told_63 1000 S7 a1 a2 (0 : Int32)) ∧ (∀ S1 : HSt, (sI S 64 0 (0 : Int32)) = S1 → (¬ (gI S1 64 7) = 0) → (¬ a1 = (-1 : Int32)) → (¬ (f_X12_isAct S1 64 a1) = 0) → (¬ (f_X12_in S1 a2.toInt64 (0 : Int64) (7 : Int64)) = 0) → ∀ r14, f_X12_first S1 64 = r14 → ∀ S15 : HSt, (sI r14 64 29 (-1000000 : Int32)) = S15 → ∀ S16 : HSt, (sI S15 64 30 (-1000000 : Int32)) = S16 → T_X12_told_63 1000 S16 a1 a2 (0 : Int32))
set_option maxRecDepth 100000 in
theorem t_X12_told (G : GG) (l : Launch) {S : HSt} (hM : MS S) (a1 : Int32) (a2 : Int32) (hp : p_X12_told S 64 a1 a2) : AM G l yX12_told cX12_told 4 (some .long) (rmD 4 0 0) 0 0 [.ref 64, .int a1, .int a2] S (FP (some (.long (f_X12_told S 64 a1 a2).1)) ((f_X12_told S 64 a1 a2).2)) := by
  obtain ⟨h0, h1⟩ := hp
  refine AM.mk (by decide) (Nat.le_of_ble_eq_true rfl) ?_
  intro p e s m below meth c hC hSt _
  refine aw_aload_n hC 0 dX12_told_0 rfl rfl ?_
  refine aw_iconst (v := 0) hC dX12_told_1 (by decide) ?_
  refine aw_putI hC hSt 0 (ms_lt 64 (by decide) hM) (ms_k 64 12 0 (by decide) hM) rfl (by decide) w_955 rfl rfl rfl rfl dX12_told_2 ?_
  generalize eS1 : (sI S 64 0 (0 : Int32)) = S1
  have hM : MS S1 := MS.of (by rw [← eS1]; exact shp_sI _ _ _ _) hM
  refine aw_aload_n hC 0 dX12_told_5 rfl rfl ?_
  refine aw_getI hC hSt 7 (ms_lt 64 (by decide) hM) (ms_k 64 12 0 (by decide) hM) rfl (by decide) w_1051 rfl dX12_told_6 ?_
  refine aw_if_ne hC 16 dX12_told_9 (by decide) (fun c2 => ?_) (fun c2 => ?_)
  · refine aw_iload_n hC 1 dX12_told_16 rfl rfl ?_
    refine aw_iconst (v := -1) hC dX12_told_17 (by decide) ?_
    refine aw_icmp_eq hC 29 dX12_told_18 (by decide) (fun c3 => ?_) (fun c3 => ?_)
    · refine aw_iload_n hC 2 dX12_told_29 rfl rfl ?_
      refine aw_i2l hC dX12_told_30 ?_
      refine aw_lconst (v := 0) hC dX12_told_31 (by decide) ?_
      refine aw_ldc2 (v := 7) hC w_950 dX12_told_32 ?_
      refine aw_cS3r hC hSt (t_X12_in G l  _ _ _) w_945 w_951 w_952 w_953 rfl rfl (by decide +kernel) ⟨Nat.le_of_ble_eq_true rfl, Nat.le_of_ble_eq_true rfl⟩ (Nat.le_of_ble_eq_true rfl) dX12_told_35 ⟨Nat.zero_le _, Nat.zero_le _⟩ ?_
      refine aw_if_ne hC 45 dX12_told_38 (by decide) (fun c4 => ?_) (fun c4 => ?_)
      · refine aw_aload_n hC 0 dX12_told_45 rfl rfl ?_
        refine aw_cV0v hC hSt (t_X12_first G l hM ) w_1031 w_1071 w_1072 w_1073 w_953 rfl rfl (by decide +kernel) ⟨Nat.le_of_ble_eq_true rfl, Nat.le_of_ble_eq_true rfl⟩ (ms_lt 64 (by decide) hM) (ms_k 64 12 0 (by decide) hM) rfl (Nat.le_of_ble_eq_true rfl) dX12_told_46 ⟨Nat.zero_le _, Nat.zero_le _⟩ ?_
        generalize er5 : f_X12_first S1 64 = r5
        have hM : MS r5 := MS.of (by rw [← er5]; exact q_X12_first _ _) hM
        refine aw_aload_n hC 0 dX12_told_49 rfl rfl ?_
        refine aw_ldc (v := -1000000) hC w_923 dX12_told_50 ?_
        refine aw_putI hC hSt 29 (ms_lt 64 (by decide) hM) (ms_k 64 12 0 (by decide) hM) rfl (by decide) w_1182 rfl rfl rfl rfl dX12_told_52 ?_
        generalize eS6 : (sI r5 64 29 (-1000000 : Int32)) = S6
        have hM : MS S6 := MS.of (by rw [← eS6]; exact shp_sI _ _ _ _) hM
        refine aw_aload_n hC 0 dX12_told_55 rfl rfl ?_
        refine aw_ldc (v := -1000000) hC w_923 dX12_told_56 ?_
        refine aw_putI hC hSt 30 (ms_lt 64 (by decide) hM) (ms_k 64 12 0 (by decide) hM) rfl (by decide) w_1183 rfl rfl rfl rfl dX12_told_58 ?_
        generalize eS7 : (sI S6 64 30 (-1000000 : Int32)) = S7
        have hM : MS S7 := MS.of (by rw [← eS7]; exact shp_sI _ _ _ _) hM
        refine aw_iconst (v := 0) hC dX12_told_61 (by decide) ?_
        refine aw_istore_n hC [(3, .int _), (0, .ref 64), (1, .int _), (2, .int _)] dX12_told_62 rfl (by decide) rfl ?_
        refine aw_sub [1, 2, 3, 0] rfl ?_
        refine l_X12_told_63 hC hSt 1000 _ _ _ _ hM (h0 S1 eS1 c2 c3 c4 r5 er5 S6 eS6 S7 eS7) ?_
        generalize er8 : L_X12_told_63 1000 S7 a1 a2 (0 : Int32) = r8
        have hM : MS r8.2.2.2 := MS.of (by rw [← er8]; exact qL_X12_told_63 _ _ _ _ _) hM
        refine aw_iload_n hC 2 dX12_told_79 rfl rfl ?_
        refine aw_bipush (v := 6) hC dX12_told_80 (by decide) ?_
        refine aw_cut (S' := r8.2.2.2) (pc' := 113) (lv' := [(0, .ref 64), (1, .int r8.1), (2, .int r8.2.1), (3, .int r8.2.2.1)]) (st' := [.long (if (6 : Int32) ≤ r8.2.1 then (if r8.2.1 = (6 : Int32) then (gI r8.2.2.2 64 29).toInt64 else (gI r8.2.2.2 64 30).toInt64) else (f_X12_of r8.2.2.2 64 r8.2.1).toInt64)]) ?_ (fun Jc9 => ?_)
        · generalize ex11 : (if (6 : Int32) ≤ r8.2.1 then (if r8.2.1 = (6 : Int32) then (gI r8.2.2.2 64 29).toInt64 else (gI r8.2.2.2 64 30).toInt64) else (f_X12_of r8.2.2.2 64 r8.2.1).toInt64) = x11
          refine aw_lret hC dX12_told_113 (Nat.le_refl _) (Nat.le_refl _) ?_
          exact FP.qJ ((bd_eq eS1).trans ((if_neg c2).trans ((if_pos c3).trans ((if_neg c4).trans ((bd_eq er5).trans ((bd_eq eS6).trans ((bd_eq eS7).trans ((bd_eq er8).trans ((bd_eq ex11).trans (rfl))))))))))
        · refine aw_icmp_ge hC 94 dX12_told_82 (by decide) (fun c9 => ?_) (fun c9 => ?_)
          · refine aw_iload_n hC 2 dX12_told_94 rfl rfl ?_
            refine aw_bipush (v := 6) hC dX12_told_95 (by decide) ?_
            refine aw_icmp_ne hC 108 dX12_told_97 (by decide) (fun c10 => ?_) (fun c10 => ?_)
            · refine aw_aload_n hC 0 dX12_told_108 rfl rfl ?_
              refine aw_getI hC hSt 30 (ms_lt 64 (by decide) hM) (ms_k 64 12 0 (by decide) hM) rfl (by decide) w_1183 rfl dX12_told_109 ?_
              refine aw_i2l hC dX12_told_112 ?_
              simp only [bd_def, if_pos c9, if_neg c10] at Jc9 ⊢
              exact Jc9
            · refine aw_aload_n hC 0 dX12_told_100 rfl rfl ?_
              refine aw_getI hC hSt 29 (ms_lt 64 (by decide) hM) (ms_k 64 12 0 (by decide) hM) rfl (by decide) w_1182 rfl dX12_told_101 ?_
              refine aw_i2l hC dX12_told_104 ?_
              refine aw_goto hC 113 dX12_told_105 (by decide) ?_
              simp only [bd_def, if_pos c9, if_pos c10] at Jc9 ⊢
              exact Jc9
          · refine aw_aload_n hC 0 dX12_told_85 rfl rfl ?_
            refine aw_iload_n hC 2 dX12_told_86 rfl rfl ?_
            refine aw_cV1r hC hSt (t_X12_of G l hM _) w_1039 w_1041 w_1042 w_1043 w_953 rfl rfl (by decide +kernel) ⟨Nat.le_of_ble_eq_true rfl, Nat.le_of_ble_eq_true rfl⟩ (ms_lt 64 (by decide) hM) (ms_k 64 12 0 (by decide) hM) rfl (Nat.le_of_ble_eq_true rfl) dX12_told_87 ⟨Nat.zero_le _, Nat.zero_le _⟩ ?_
            refine aw_i2l hC dX12_told_90 ?_
            refine aw_goto hC 113 dX12_told_91 (by decide) ?_
            simp only [bd_def, if_neg c9] at Jc9 ⊢
            exact Jc9
      · refine aw_ldc2 (v := -9000000000000000001) hC w_957 dX12_told_41 ?_
        refine aw_lret hC dX12_told_44 (Nat.le_refl _) (Nat.le_refl _) ?_
        exact FP.qJ ((bd_eq eS1).trans ((if_neg c2).trans ((if_pos c3).trans ((if_pos c4).trans (rfl)))))
    · refine aw_aload_n hC 0 dX12_told_21 rfl rfl ?_
      refine aw_iload_n hC 1 dX12_told_22 rfl rfl ?_
      refine aw_cV1r hC hSt (t_X12_isAct G l hM _) w_1079 w_1085 w_1086 w_1087 w_953 rfl rfl (by decide +kernel) ⟨Nat.le_of_ble_eq_true rfl, Nat.le_of_ble_eq_true rfl⟩ (ms_lt 64 (by decide) hM) (ms_k 64 12 0 (by decide) hM) rfl (Nat.le_of_ble_eq_true rfl) dX12_told_23 ⟨Nat.zero_le _, Nat.zero_le _⟩ ?_
      refine aw_if_eq hC 41 dX12_told_26 (by decide) (fun c12 => ?_) (fun c12 => ?_)
      · refine aw_ldc2 (v := -9000000000000000001) hC w_957 dX12_told_41 ?_
        refine aw_lret hC dX12_told_44 (Nat.le_refl _) (Nat.le_refl _) ?_
        exact FP.qJ ((bd_eq eS1).trans ((if_neg c2).trans ((if_neg c3).trans ((if_pos c12).trans (rfl)))))
      · refine aw_iload_n hC 2 dX12_told_29 rfl rfl ?_
        refine aw_i2l hC dX12_told_30 ?_
        refine aw_lconst (v := 0) hC dX12_told_31 (by decide) ?_
        refine aw_ldc2 (v := 7) hC w_950 dX12_told_32 ?_
        refine aw_cS3r hC hSt (t_X12_in G l  _ _ _) w_945 w_951 w_952 w_953 rfl rfl (by decide +kernel) ⟨Nat.le_of_ble_eq_true rfl, Nat.le_of_ble_eq_true rfl⟩ (Nat.le_of_ble_eq_true rfl) dX12_told_35 ⟨Nat.zero_le _, Nat.zero_le _⟩ ?_
        refine aw_if_ne hC 45 dX12_told_38 (by decide) (fun c13 => ?_) (fun c13 => ?_)
        · refine aw_aload_n hC 0 dX12_told_45 rfl rfl ?_
          refine aw_cV0v hC hSt (t_X12_first G l hM ) w_1031 w_1071 w_1072 w_1073 w_953 rfl rfl (by decide +kernel) ⟨Nat.le_of_ble_eq_true rfl, Nat.le_of_ble_eq_true rfl⟩ (ms_lt 64 (by decide) hM) (ms_k 64 12 0 (by decide) hM) rfl (Nat.le_of_ble_eq_true rfl) dX12_told_46 ⟨Nat.zero_le _, Nat.zero_le _⟩ ?_
          generalize er14 : f_X12_first S1 64 = r14
          have hM : MS r14 := MS.of (by rw [← er14]; exact q_X12_first _ _) hM
          refine aw_aload_n hC 0 dX12_told_49 rfl rfl ?_
          refine aw_ldc (v := -1000000) hC w_923 dX12_told_50 ?_
          refine aw_putI hC hSt 29 (ms_lt 64 (by decide) hM) (ms_k 64 12 0 (by decide) hM) rfl (by decide) w_1182 rfl rfl rfl rfl dX12_told_52 ?_
          generalize eS15 : (sI r14 64 29 (-1000000 : Int32)) = S15
          have hM : MS S15 := MS.of (by rw [← eS15]; exact shp_sI _ _ _ _) hM
          refine aw_aload_n hC 0 dX12_told_55 rfl rfl ?_
          refine aw_ldc (v := -1000000) hC w_923 dX12_told_56 ?_
          refine aw_putI hC hSt 30 (ms_lt 64 (by decide) hM) (ms_k 64 12 0 (by decide) hM) rfl (by decide) w_1183 rfl rfl rfl rfl dX12_told_58 ?_
          generalize eS16 : (sI S15 64 30 (-1000000 : Int32)) = S16
          have hM : MS S16 := MS.of (by rw [← eS16]; exact shp_sI _ _ _ _) hM
          refine aw_iconst (v := 0) hC dX12_told_61 (by decide) ?_
          refine aw_istore_n hC [(3, .int _), (0, .ref 64), (1, .int _), (2, .int _)] dX12_told_62 rfl (by decide) rfl ?_
          refine aw_sub [1, 2, 3, 0] rfl ?_
          refine l_X12_told_63 hC hSt 1000 _ _ _ _ hM (h1 S1 eS1 c2 c3 c12 c13 r14 er14 S15 eS15 S16 eS16) ?_
          generalize er17 : L_X12_told_63 1000 S16 a1 a2 (0 : Int32) = r17
          have hM : MS r17.2.2.2 := MS.of (by rw [← er17]; exact qL_X12_told_63 _ _ _ _ _) hM
          refine aw_iload_n hC 2 dX12_told_79 rfl rfl ?_
          refine aw_bipush (v := 6) hC dX12_told_80 (by decide) ?_
          refine aw_cut (S' := r17.2.2.2) (pc' := 113) (lv' := [(0, .ref 64), (1, .int r17.1), (2, .int r17.2.1), (3, .int r17.2.2.1)]) (st' := [.long (if (6 : Int32) ≤ r17.2.1 then (if r17.2.1 = (6 : Int32) then (gI r17.2.2.2 64 29).toInt64 else (gI r17.2.2.2 64 30).toInt64) else (f_X12_of r17.2.2.2 64 r17.2.1).toInt64)]) ?_ (fun Jc18 => ?_)
          · generalize ex20 : (if (6 : Int32) ≤ r17.2.1 then (if r17.2.1 = (6 : Int32) then (gI r17.2.2.2 64 29).toInt64 else (gI r17.2.2.2 64 30).toInt64) else (f_X12_of r17.2.2.2 64 r17.2.1).toInt64) = x20
            refine aw_lret hC dX12_told_113 (Nat.le_refl _) (Nat.le_refl _) ?_
            exact FP.qJ ((bd_eq eS1).trans ((if_neg c2).trans ((if_neg c3).trans ((if_neg c12).trans ((if_neg c13).trans ((bd_eq er14).trans ((bd_eq eS15).trans ((bd_eq eS16).trans ((bd_eq er17).trans ((bd_eq ex20).trans (rfl)))))))))))
          · refine aw_icmp_ge hC 94 dX12_told_82 (by decide) (fun c18 => ?_) (fun c18 => ?_)
            · refine aw_iload_n hC 2 dX12_told_94 rfl rfl ?_
              refine aw_bipush (v := 6) hC dX12_told_95 (by decide) ?_
              refine aw_icmp_ne hC 108 dX12_told_97 (by decide) (fun c19 => ?_) (fun c19 => ?_)
              · refine aw_aload_n hC 0 dX12_told_108 rfl rfl ?_
                refine aw_getI hC hSt 30 (ms_lt 64 (by decide) hM) (ms_k 64 12 0 (by decide) hM) rfl (by decide) w_1183 rfl dX12_told_109 ?_
                refine aw_i2l hC dX12_told_112 ?_
                simp only [bd_def, if_pos c18, if_neg c19] at Jc18 ⊢
                exact Jc18
              · refine aw_aload_n hC 0 dX12_told_100 rfl rfl ?_
                refine aw_getI hC hSt 29 (ms_lt 64 (by decide) hM) (ms_k 64 12 0 (by decide) hM) rfl (by decide) w_1182 rfl dX12_told_101 ?_
                refine aw_i2l hC dX12_told_104 ?_
                refine aw_goto hC 113 dX12_told_105 (by decide) ?_
                simp only [bd_def, if_pos c18, if_pos c19] at Jc18 ⊢
                exact Jc18
            · refine aw_aload_n hC 0 dX12_told_85 rfl rfl ?_
              refine aw_iload_n hC 2 dX12_told_86 rfl rfl ?_
              refine aw_cV1r hC hSt (t_X12_of G l hM _) w_1039 w_1041 w_1042 w_1043 w_953 rfl rfl (by decide +kernel) ⟨Nat.le_of_ble_eq_true rfl, Nat.le_of_ble_eq_true rfl⟩ (ms_lt 64 (by decide) hM) (ms_k 64 12 0 (by decide) hM) rfl (Nat.le_of_ble_eq_true rfl) dX12_told_87 ⟨Nat.zero_le _, Nat.zero_le _⟩ ?_
              refine aw_i2l hC dX12_told_90 ?_
              refine aw_goto hC 113 dX12_told_91 (by decide) ?_
              simp only [bd_def, if_neg c18] at Jc18 ⊢
              exact Jc18
        · refine aw_ldc2 (v := -9000000000000000001) hC w_957 dX12_told_41 ?_
          refine aw_lret hC dX12_told_44 (Nat.le_refl _) (Nat.le_refl _) ?_
          exact FP.qJ ((bd_eq eS1).trans ((if_neg c2).trans ((if_neg c3).trans ((if_neg c12).trans ((if_pos c13).trans (rfl))))))
  · refine aw_ldc2 (v := -9000000000000000002) hC w_1151 dX12_told_12 ?_
    refine aw_lret hC dX12_told_15 (Nat.le_refl _) (Nat.le_refl _) ?_
    exact FP.qJ ((bd_eq eS1).trans ((if_pos c2).trans (rfl)))
theorem q_X12_told (S : HSt) (_o : Nat) (a1 : Int32) (a2 : Int32) : shp ((f_X12_told S _o a1 a2).2) = shp S := by
  unfold f_X12_told
  repeat' (first | with_reducible refine shpr1 ?_ | with_reducible rfl | with_reducible refine (q_X12_doAct _ _ _).trans ?_ | with_reducible refine (q_X12_first _ _).trans ?_ | with_reducible refine (qL_X12_told_63 _ _ _ _ _).trans ?_ | with_reducible refine (shp_sI _ _ _ _).trans ?_ | with_reducible refine (shp_sJ _ _ _ _).trans ?_ | with_reducible refine shi ?_ ?_ | with_reducible refine shb (fun _ _ => ?_) | with_reducible refine shiP (fun q : Int64 × HSt => q.2) ?_ ?_ | with_reducible refine shbP (fun q : Int64 × HSt => q.2) (fun _ _ => ?_) | (subst_vars; with_reducible rfl) | (subst_vars; with_reducible refine (q_X12_doAct _ _ _).trans ?_) | (subst_vars; with_reducible refine (q_X12_first _ _).trans ?_) | (subst_vars; with_reducible refine (qL_X12_told_63 _ _ _ _ _).trans ?_) | (subst_vars; with_reducible refine (shp_sI _ _ _ _).trans ?_) | (subst_vars; with_reducible refine (shp_sJ _ _ _ _).trans ?_) | (subst_vars; with_reducible refine shi ?_ ?_) | (subst_vars; with_reducible refine shb (fun _ _ => ?_)))
noncomputable def F_X12_isThrow (S : HSt) (_o : Nat) (a1 : Int32) : Int32 × HSt := bd ((if (f_X12_deed S 64 a1 (0 : Int32)) = (4 : Int32) then (1 : Int32) else (if (f_X12_deed S 64 a1 (0 : Int32)) = (5 : Int32) then (1 : Int32) else (0 : Int32)))) fun x3 => pr (x3) (S)
noncomputable def f_X12_isThrow (S : HSt) (_o : Nat) (a1 : Int32) : Int32 := (F_X12_isThrow S _o a1).1
def p_X12_isThrow (S : HSt) (_o : Nat) (a1 : Int32) : Prop := (p_X12_deed S 64 a1 (0 : Int32)) ∧ ((¬ (f_X12_deed S 64 a1 (0 : Int32)) = (4 : Int32)) → p_X12_deed S 64 a1 (0 : Int32))
set_option maxRecDepth 100000 in
theorem t_X12_isThrow (G : GG) (l : Launch) {S : HSt} (hM : MS S) (a1 : Int32) (hp : p_X12_isThrow S 64 a1) : AM G l yX12_isThrow cX12_isThrow 2 (some .boolean) (rmD 1 0 0) 0 0 [.ref 64, .int a1] S (FP (some (.int (f_X12_isThrow S 64 a1))) (S)) := by
  obtain ⟨h0, h1⟩ := hp
  refine AM.mk (by decide) (Nat.le_of_ble_eq_true rfl) ?_
  intro p e s m below meth c hC hSt _
  refine aw_aload_n hC 0 dX12_isThrow_0 rfl rfl ?_
  refine aw_iload_n hC 1 dX12_isThrow_1 rfl rfl ?_
  refine aw_iconst (v := 0) hC dX12_isThrow_2 (by decide) ?_
  refine aw_cV2r hC hSt (t_X12_deed G l hM _ _ (h0)) w_1080 w_1088 w_1089 w_1090 w_953 rfl rfl (by decide +kernel) ⟨Nat.le_of_ble_eq_true rfl, Nat.le_of_ble_eq_true rfl⟩ (ms_lt 64 (by decide) hM) (ms_k 64 12 0 (by decide) hM) rfl (Nat.le_of_ble_eq_true rfl) dX12_isThrow_3 ⟨Nat.zero_le _, Nat.zero_le _⟩ ?_
  refine aw_iconst (v := 4) hC dX12_isThrow_6 (by decide) ?_
  refine aw_cut (S' := S) (pc' := 25) (lv' := [(0, .ref 64), (1, .int a1)]) (st' := [.int (if (f_X12_deed S 64 a1 (0 : Int32)) = (4 : Int32) then (1 : Int32) else (if (f_X12_deed S 64 a1 (0 : Int32)) = (5 : Int32) then (1 : Int32) else (0 : Int32)))]) ?_ (fun Jc1 => ?_)
  · generalize ex3 : (if (f_X12_deed S 64 a1 (0 : Int32)) = (4 : Int32) then (1 : Int32) else (if (f_X12_deed S 64 a1 (0 : Int32)) = (5 : Int32) then (1 : Int32) else (0 : Int32))) = x3
    refine aw_zret hC dX12_isThrow_25 (Nat.le_refl _) (Nat.le_refl _) (Bz.n (ex3 ▸ (Bz.ite (Or.inr rfl) (Bz.ite (Or.inr rfl) (Or.inl rfl))))) ?_
    exact FP.pI ((bd_eq ex3).trans (rfl))
  · refine aw_icmp_eq hC 20 dX12_isThrow_7 (by decide) (fun c1 => ?_) (fun c1 => ?_)
    · refine aw_iconst (v := 1) hC dX12_isThrow_20 (by decide) ?_
      refine aw_goto hC 25 dX12_isThrow_21 (by decide) ?_
      simp only [bd_def, if_pos c1] at Jc1 ⊢
      exact Jc1
    · refine aw_aload_n hC 0 dX12_isThrow_10 rfl rfl ?_
      refine aw_iload_n hC 1 dX12_isThrow_11 rfl rfl ?_
      refine aw_iconst (v := 0) hC dX12_isThrow_12 (by decide) ?_
      refine aw_cV2r hC hSt (t_X12_deed G l hM _ _ (h1 c1)) w_1080 w_1088 w_1089 w_1090 w_953 rfl rfl (by decide +kernel) ⟨Nat.le_of_ble_eq_true rfl, Nat.le_of_ble_eq_true rfl⟩ (ms_lt 64 (by decide) hM) (ms_k 64 12 0 (by decide) hM) rfl (Nat.le_of_ble_eq_true rfl) dX12_isThrow_13 ⟨Nat.zero_le _, Nat.zero_le _⟩ ?_
      refine aw_iconst (v := 5) hC dX12_isThrow_16 (by decide) ?_
      refine aw_icmp_ne hC 24 dX12_isThrow_17 (by decide) (fun c2 => ?_) (fun c2 => ?_)
      · refine aw_iconst (v := 0) hC dX12_isThrow_24 (by decide) ?_
        simp only [bd_def, if_neg c1, if_neg c2] at Jc1 ⊢
        exact Jc1
      · refine aw_iconst (v := 1) hC dX12_isThrow_20 (by decide) ?_
        refine aw_goto hC 25 dX12_isThrow_21 (by decide) ?_
        simp only [bd_def, if_neg c1, if_pos c2] at Jc1 ⊢
        exact Jc1
theorem b_X12_isThrow (S : HSt) (_o : Nat) (a1 : Int32) : Bz (f_X12_isThrow S _o a1) := by
  unfold f_X12_isThrow F_X12_isThrow
  (try dsimp only [bd])
  (repeat' split) <;> first | exact Or.inl rfl | exact Or.inr rfl
noncomputable def L_X12_all_42 : Nat → HSt → Int32 → Int64 → Int64 → Int32 → Int32 × Int64 × Int32 × Int64 × Int64 × Int32 × HSt
  | 0, S, v1, v2, v4, v6 => ((1 : Int32), 0, v1, v2, v4, v6, S)
  | n + 1, S, v1, v2, v4, v6 =>
    if (gI S 68 (5 : Int32).toNatClampNeg) ≤ v6 then ((pr ((0 : Int32)) (pr (0) (pr (v1) (pr (v2) (pr (v4) (pr (v6) (S)))))))) else (if (f_X12_isThrow S 64 v6) = 0 then (bd (f_X12_doAct S 64 v6) fun r1007 => L_X12_all_42 n r1007 v1 v2 v4 (v6 + (1 : Int32))) else (bd ((if (f_X12_deed S 64 v6 (0 : Int32)) = (5 : Int32) then (1 : Int32) else (0 : Int32))) fun x1009 => bd (f_X12_oddsOf S 64 x1009 (f_X12_deed S 64 v6 (1 : Int32))) fun r1010 => bd ((v2 * r1010.1.toInt64)) fun x1011 => bd ((v4 * (f_X12_allOdds r1010.2 64).toInt64)) fun x1012 => bd ((f_X12_partOf r1010.2 x1011 x1012 (0 : Int32))) fun x1013 => bd ((f_X12_partOf r1010.2 x1011 x1012 (1 : Int32))) fun x1014 => if (lg_cmp x1014 (1000000000000 : Int64)) ≤ 0 then (bd (f_X12_doAct r1010.2 64 v6) fun r1016 => L_X12_all_42 n r1016 v1 x1013 x1014 (v6 + (1 : Int32))) else ((pr ((1 : Int32)) (pr ((-1000000 : Int64)) (pr (v1) (pr (x1013) (pr (x1014) (pr (v6) (r1010.2))))))))))
def T_X12_all_42 : Nat → HSt → Int32 → Int64 → Int64 → Int32 → Prop
  | 0, _, _, _, _, _ => False
  | n + 1, S, v1, v2, v4, v6 => ((¬ (gI S 68 (5 : Int32).toNatClampNeg) ≤ v6) → p_X12_isThrow S 64 v6) ∧ ((¬ (gI S 68 (5 : Int32).toNatClampNeg) ≤ v6) → ((f_X12_isThrow S 64 v6) = 0) → p_X12_doAct S 64 v6) ∧ ((¬ (gI S 68 (5 : Int32).toNatClampNeg) ≤ v6) → ((f_X12_isThrow S 64 v6) = 0) → ∀ r1007, f_X12_doAct S 64 v6 = r1007 → T_X12_all_42 n r1007 v1 v2 v4 (v6 + (1 : Int32))) ∧ ((¬ (gI S 68 (5 : Int32).toNatClampNeg) ≤ v6) → (¬ (f_X12_isThrow S 64 v6) = 0) → p_X12_deed S 64 v6 (0 : Int32)) ∧ ((¬ (gI S 68 (5 : Int32).toNatClampNeg) ≤ v6) → (¬ (f_X12_isThrow S 64 v6) = 0) → ∀ x1009 : Int32, (if (f_X12_deed S 64 v6 (0 : Int32)) = (5 : Int32) then (1 : Int32) else (0 : Int32)) = x1009 → p_X12_deed S 64 v6 (1 : Int32)) ∧ ((¬ (gI S 68 (5 : Int32).toNatClampNeg) ≤ v6) → (¬ (f_X12_isThrow S 64 v6) = 0) → ∀ x1009 : Int32, (if (f_X12_deed S 64 v6 (0 : Int32)) = (5 : Int32) then (1 : Int32) else (0 : Int32)) = x1009 → p_X12_oddsOf S 64 x1009 (f_X12_deed S 64 v6 (1 : Int32))) ∧ ((¬ (gI S 68 (5 : Int32).toNatClampNeg) ≤ v6) → (¬ (f_X12_isThrow S 64 v6) = 0) → ∀ x1009 : Int32, (if (f_X12_deed S 64 v6 (0 : Int32)) = (5 : Int32) then (1 : Int32) else (0 : Int32)) = x1009 → ∀ r1010, f_X12_oddsOf S 64 x1009 (f_X12_deed S 64 v6 (1 : Int32)) = r1010 → ∀ x1011 : Int64, (v2 * r1010.1.toInt64) = x1011 → p_X12_allOdds r1010.2 64) ∧ ((¬ (gI S 68 (5 : Int32).toNatClampNeg) ≤ v6) → (¬ (f_X12_isThrow S 64 v6) = 0) → ∀ x1009 : Int32, (if (f_X12_deed S 64 v6 (0 : Int32)) = (5 : Int32) then (1 : Int32) else (0 : Int32)) = x1009 → ∀ r1010, f_X12_oddsOf S 64 x1009 (f_X12_deed S 64 v6 (1 : Int32)) = r1010 → ∀ x1011 : Int64, (v2 * r1010.1.toInt64) = x1011 → ∀ x1012 : Int64, (v4 * (f_X12_allOdds r1010.2 64).toInt64) = x1012 → p_X12_partOf r1010.2 x1011 x1012 (0 : Int32)) ∧ ((¬ (gI S 68 (5 : Int32).toNatClampNeg) ≤ v6) → (¬ (f_X12_isThrow S 64 v6) = 0) → ∀ x1009 : Int32, (if (f_X12_deed S 64 v6 (0 : Int32)) = (5 : Int32) then (1 : Int32) else (0 : Int32)) = x1009 → ∀ r1010, f_X12_oddsOf S 64 x1009 (f_X12_deed S 64 v6 (1 : Int32)) = r1010 → ∀ x1011 : Int64, (v2 * r1010.1.toInt64) = x1011 → ∀ x1012 : Int64, (v4 * (f_X12_allOdds r1010.2 64).toInt64) = x1012 → ∀ x1013 : Int64, (f_X12_partOf r1010.2 x1011 x1012 (0 : Int32)) = x1013 → p_X12_partOf r1010.2 x1011 x1012 (1 : Int32)) ∧ ((¬ (gI S 68 (5 : Int32).toNatClampNeg) ≤ v6) → (¬ (f_X12_isThrow S 64 v6) = 0) → ∀ x1009 : Int32, (if (f_X12_deed S 64 v6 (0 : Int32)) = (5 : Int32) then (1 : Int32) else (0 : Int32)) = x1009 → ∀ r1010, f_X12_oddsOf S 64 x1009 (f_X12_deed S 64 v6 (1 : Int32)) = r1010 → ∀ x1011 : Int64, (v2 * r1010.1.toInt64) = x1011 → ∀ x1012 : Int64, (v4 * (f_X12_allOdds r1010.2 64).toInt64) = x1012 → ∀ x1013 : Int64, (f_X12_partOf r1010.2 x1011 x1012 (0 : Int32)) = x1013 → ∀ x1014 : Int64, (f_X12_partOf r1010.2 x1011 x1012 (1 : Int32)) = x1014 → ((lg_cmp x1014 (1000000000000 : Int64)) ≤ 0) → p_X12_doAct r1010.2 64 v6) ∧ ((¬ (gI S 68 (5 : Int32).toNatClampNeg) ≤ v6) → (¬ (f_X12_isThrow S 64 v6) = 0) → ∀ x1009 : Int32, (if (f_X12_deed S 64 v6 (0 : Int32)) = (5 : Int32) then (1 : Int32) else (0 : Int32)) = x1009 → ∀ r1010, f_X12_oddsOf S 64 x1009 (f_X12_deed S 64 v6 (1 : Int32)) = r1010 → ∀ x1011 : Int64, (v2 * r1010.1.toInt64) = x1011 → ∀ x1012 : Int64, (v4 * (f_X12_allOdds r1010.2 64).toInt64) = x1012 → ∀ x1013 : Int64, (f_X12_partOf r1010.2 x1011 x1012 (0 : Int32)) = x1013 → ∀ x1014 : Int64, (f_X12_partOf r1010.2 x1011 x1012 (1 : Int32)) = x1014 → ((lg_cmp x1014 (1000000000000 : Int64)) ≤ 0) → ∀ r1016, f_X12_doAct r1010.2 64 v6 = r1016 → T_X12_all_42 n r1016 v1 x1013 x1014 (v6 + (1 : Int32)))
theorem qL_X12_all_42 : ∀ (n : Nat) (S : HSt) (v1 : Int32) (v2 : Int64) (v4 : Int64) (v6 : Int32), shp (L_X12_all_42 n S v1 v2 v4 v6).2.2.2.2.2.2 = shp S := by
  intro n
  induction n with
  | zero => intros; rfl
  | succ n ih =>
    intro S v1 v2 v4 v6
    unfold L_X12_all_42
    repeat' (first | with_reducible refine shpr6 ?_ | with_reducible rfl | with_reducible refine (ih _ _ _ _ _).trans ?_ | with_reducible refine (q_X12_doAct _ _ _).trans ?_ | with_reducible refine (q_X12_first _ _).trans ?_ | with_reducible refine (q_X12_oddsOf _ _ _ _).trans ?_ | with_reducible refine (shp_sI _ _ _ _).trans ?_ | with_reducible refine (shp_sJ _ _ _ _).trans ?_ | with_reducible refine shi ?_ ?_ | with_reducible refine shb (fun _ _ => ?_) | with_reducible refine shiP (fun q : Int32 × Int64 × Int32 × Int64 × Int64 × Int32 × HSt => q.2.2.2.2.2.2) ?_ ?_ | with_reducible refine shbP (fun q : Int32 × Int64 × Int32 × Int64 × Int64 × Int32 × HSt => q.2.2.2.2.2.2) (fun _ _ => ?_) | (subst_vars; with_reducible rfl) | (subst_vars; with_reducible refine (ih _ _ _ _ _).trans ?_) | (subst_vars; with_reducible refine (q_X12_doAct _ _ _).trans ?_) | (subst_vars; with_reducible refine (q_X12_first _ _).trans ?_) | (subst_vars; with_reducible refine (q_X12_oddsOf _ _ _ _).trans ?_) | (subst_vars; with_reducible refine (shp_sI _ _ _ _).trans ?_) | (subst_vars; with_reducible refine (shp_sJ _ _ _ _).trans ?_) | (subst_vars; with_reducible refine shi ?_ ?_) | (subst_vars; with_reducible refine shb (fun _ _ => ?_)))
set_option maxRecDepth 100000 in
theorem l_X12_all_42 {p : Program} {l : Launch} {e : Env} {s : State} {m : MethodId} {args : Array Value} {below : List Frame} {meth : Method} {c : Code} {G : GG} {Post : Option Value → HSt → Prop} (hC : ACx p s m args meth c cX12_all RX12 11 (some .long)) (hSt : St G s)  : ∀ (n : Nat) (S : HSt) (v1 : Int32) (v2 : Int64) (v4 : Int64) (v6 : Int32), MS S → T_X12_all_42 n S v1 v2 v4 v6 → ((L_X12_all_42 n S v1 v2 v4 v6).1 = 1 → Post (some (.long (L_X12_all_42 n S v1 v2 v4 v6).2.1)) (L_X12_all_42 n S v1 v2 v4 v6).2.2.2.2.2.2) → ((L_X12_all_42 n S v1 v2 v4 v6).1 ≠ 1 → AW p l e (rmD 4 0 0) s m args below meth c G 11 (AQ G below args s 0 0 Post) (L_X12_all_42 n S v1 v2 v4 v6).2.2.2.2.2.2 0 0 148 [(0, .ref 64), (1, .int (L_X12_all_42 n S v1 v2 v4 v6).2.2.1), (2, .long (L_X12_all_42 n S v1 v2 v4 v6).2.2.2.1), (4, .long (L_X12_all_42 n S v1 v2 v4 v6).2.2.2.2.1), (6, .int (L_X12_all_42 n S v1 v2 v4 v6).2.2.2.2.2.1)] []) → AW p l e (rmD 4 0 0) s m args below meth c G 11 (AQ G below args s 0 0 Post) S 0 0 42 [(0, .ref 64), (1, .int v1), (2, .long v2), (4, .long v4), (6, .int v6)] [] := by
  intro n
  induction n with
  | zero => intro S v1 v2 v4 v6 _ hT; exact hT.elim
  | succ n ih =>
    intro S v1 v2 v4 v6 hM hT hr hk
    unfold T_X12_all_42 at hT
    obtain ⟨h0, h1, h2, h3, h4, h5, h6, h7, h8, h9, h10⟩ := hT
    refine aw_iload hC 4 dX12_all_42 rfl ?_
    refine aw_aload_n hC 0 dX12_all_44 rfl rfl ?_
    refine aw_getP (b := 68) hC hSt 5 (ms_lt 64 (by decide) hM) (ms_k 64 12 0 (by decide) hM) rfl (by decide) w_920 rfl (ms_p 5 68 (by decide) hM) dX12_all_45 ?_
    refine aw_iconst (v := 5) hC dX12_all_48 (by decide) ?_
    refine aw_iald hC hSt (ms_lt 68 (by decide) hM) (ms_k 68 14 172 (by decide) hM) (vp_len (n := 172) (ms_l 68 14 172 (by decide) hM) (by unfold vp_in; decide)) dX12_all_49 ?_
    refine aw_icmp_ge hC 148 dX12_all_50 (by decide) (fun c1005 => ?_) (fun c1005 => ?_)
    · refine aw_sub [0, 1, 2, 3, 4] rfl ?_
      have E : L_X12_all_42 (n + 1) S v1 v2 v4 v6 = _ := (if_pos c1005).trans (rfl)
      rw [E] at hk hr
      exact hk (by show ¬ (0 : Int32) = 1; decide)
    · refine aw_aload_n hC 0 dX12_all_53 rfl rfl ?_
      refine aw_iload hC 4 dX12_all_54 rfl ?_
      refine aw_cV1r hC hSt (t_X12_isThrow G l hM _ (h0 c1005)) w_1189 w_1191 w_1192 w_1193 w_953 rfl rfl (by decide +kernel) ⟨Nat.le_of_ble_eq_true rfl, Nat.le_of_ble_eq_true rfl⟩ (ms_lt 64 (by decide) hM) (ms_k 64 12 0 (by decide) hM) rfl (Nat.le_of_ble_eq_true rfl) dX12_all_56 ⟨Nat.zero_le _, Nat.zero_le _⟩ ?_
      refine aw_if_eq hC 136 dX12_all_59 (by decide) (fun c1006 => ?_) (fun c1006 => ?_)
      · refine aw_aload_n hC 0 dX12_all_136 rfl rfl ?_
        refine aw_iload hC 4 dX12_all_137 rfl ?_
        refine aw_cV1v hC hSt (t_X12_doAct G l hM _ (h1 c1005 c1006)) w_1184 w_1185 w_1186 w_1187 w_953 rfl rfl (by decide +kernel) ⟨Nat.le_of_ble_eq_true rfl, Nat.le_of_ble_eq_true rfl⟩ (ms_lt 64 (by decide) hM) (ms_k 64 12 0 (by decide) hM) rfl (Nat.le_of_ble_eq_true rfl) dX12_all_139 ⟨Nat.zero_le _, Nat.zero_le _⟩ ?_
        generalize er1007 : f_X12_doAct S 64 v6 = r1007
        have hM : MS r1007 := MS.of (by rw [← er1007]; exact q_X12_doAct _ _ _) hM
        refine aw_iinc (v := (v6 + (1 : Int32))) hC 4 [(6, .int _), (0, .ref 64), (1, .int _), (2, .long _), (4, .long _)] dX12_all_142 rfl rfl (by decide) rfl ?_
        refine aw_goto hC 42 dX12_all_145 (by decide) ?_
        refine aw_sub [1, 2, 3, 4, 0] rfl ?_
        have hTn := (h2 c1005 c1006 r1007 er1007)
        have hMn : MS r1007 := hM
        have E : L_X12_all_42 (n + 1) S v1 v2 v4 v6 = _ := (if_neg c1005).trans ((if_pos c1006).trans ((bd_eq er1007).trans (rfl)))
        rw [E] at hk hr
        exact ih _ _ _ _ _ hMn hTn hr hk
      · refine aw_lload_n hC 2 dX12_all_62 rfl rfl ?_
        refine aw_aload_n hC 0 dX12_all_63 rfl rfl ?_
        refine aw_aload_n hC 0 dX12_all_64 rfl rfl ?_
        refine aw_iload hC 4 dX12_all_65 rfl ?_
        refine aw_iconst (v := 0) hC dX12_all_67 (by decide) ?_
        refine aw_cV2r hC hSt (t_X12_deed G l hM _ _ (h3 c1005 c1006)) w_1080 w_1088 w_1089 w_1090 w_953 rfl rfl (by decide +kernel) ⟨Nat.le_of_ble_eq_true rfl, Nat.le_of_ble_eq_true rfl⟩ (ms_lt 64 (by decide) hM) (ms_k 64 12 0 (by decide) hM) rfl (Nat.le_of_ble_eq_true rfl) dX12_all_68 ⟨Nat.zero_le _, Nat.zero_le _⟩ ?_
        refine aw_iconst (v := 5) hC dX12_all_71 (by decide) ?_
        refine aw_cut (S' := S) (pc' := 80) (lv' := [(0, .ref 64), (1, .int v1), (2, .long v2), (4, .long v4), (6, .int v6)]) (st' := [.int (if (f_X12_deed S 64 v6 (0 : Int32)) = (5 : Int32) then (1 : Int32) else (0 : Int32)), .ref 64, .long v2]) ?_ (fun Jc1008 => ?_)
        · generalize ex1009 : (if (f_X12_deed S 64 v6 (0 : Int32)) = (5 : Int32) then (1 : Int32) else (0 : Int32)) = x1009
          refine aw_aload_n hC 0 dX12_all_80 rfl rfl ?_
          refine aw_iload hC 4 dX12_all_81 rfl ?_
          refine aw_iconst (v := 1) hC dX12_all_83 (by decide) ?_
          refine aw_cV2r hC hSt (t_X12_deed G l hM _ _ (h4 c1005 c1006 x1009 ex1009)) w_1080 w_1088 w_1089 w_1090 w_953 rfl rfl (by decide +kernel) ⟨Nat.le_of_ble_eq_true rfl, Nat.le_of_ble_eq_true rfl⟩ (ms_lt 64 (by decide) hM) (ms_k 64 12 0 (by decide) hM) rfl (Nat.le_of_ble_eq_true rfl) dX12_all_84 ⟨Nat.zero_le _, Nat.zero_le _⟩ ?_
          refine aw_cV2r hC hSt (t_X12_oddsOf G l hM _ _ (h5 c1005 c1006 x1009 ex1009)) w_1134 w_1140 w_1141 w_1142 w_953 rfl rfl (by decide +kernel) ⟨Nat.le_of_ble_eq_true rfl, Nat.le_of_ble_eq_true rfl⟩ (ms_lt 64 (by decide) hM) (ms_k 64 12 0 (by decide) hM) rfl (Nat.le_of_ble_eq_true rfl) dX12_all_87 ⟨Nat.zero_le _, Nat.zero_le _⟩ ?_
          generalize er1010 : f_X12_oddsOf S 64 x1009 (f_X12_deed S 64 v6 (1 : Int32)) = r1010
          have hM : MS r1010.2 := MS.of (by rw [← er1010]; exact q_X12_oddsOf _ _ _ _) hM
          refine aw_i2l hC dX12_all_90 ?_
          refine aw_lmul hC dX12_all_91 ?_
          refine aw_lstore hC [(7, .long _), (0, .ref 64), (1, .int _), (2, .long _), (4, .long _), (6, .int _)] dX12_all_92 (by decide) rfl ?_
          generalize ex1011 : (v2 * r1010.1.toInt64) = x1011
          refine aw_lload hC 4 dX12_all_94 rfl ?_
          refine aw_aload_n hC 1 dX12_all_96 rfl rfl ?_
          refine aw_cV0r hC hSt (t_X12_allOdds G l hM  (h6 c1005 c1006 x1009 ex1009 r1010 er1010 x1011 ex1011)) w_1135 w_1143 w_1144 w_1145 w_953 rfl rfl (by decide +kernel) ⟨Nat.le_of_ble_eq_true rfl, Nat.le_of_ble_eq_true rfl⟩ (ms_lt 64 (by decide) hM) (ms_k 64 12 0 (by decide) hM) rfl (Nat.le_of_ble_eq_true rfl) dX12_all_97 ⟨Nat.zero_le _, Nat.zero_le _⟩ ?_
          refine aw_i2l hC dX12_all_100 ?_
          refine aw_lmul hC dX12_all_101 ?_
          refine aw_lstore hC [(9, .long _), (7, .long _), (0, .ref 64), (1, .int _), (2, .long _), (4, .long _), (6, .int _)] dX12_all_102 (by decide) rfl ?_
          generalize ex1012 : (v4 * (f_X12_allOdds r1010.2 64).toInt64) = x1012
          refine aw_lload hC 1 dX12_all_104 rfl ?_
          refine aw_lload hC 0 dX12_all_106 rfl ?_
          refine aw_iconst (v := 0) hC dX12_all_108 (by decide) ?_
          refine aw_cS3r hC hSt (t_X12_partOf G l  _ _ _ (h7 c1005 c1006 x1009 ex1009 r1010 er1010 x1011 ex1011 x1012 ex1012)) w_1137 w_1170 w_1171 w_953 rfl rfl (by decide +kernel) ⟨Nat.le_of_ble_eq_true rfl, Nat.le_of_ble_eq_true rfl⟩ (Nat.le_of_ble_eq_true rfl) dX12_all_109 ⟨Nat.zero_le _, Nat.zero_le _⟩ ?_
          refine aw_lstore_n hC [(2, .long _), (9, .long _), (7, .long _), (0, .ref 64), (1, .int _), (4, .long _), (6, .int _)] dX12_all_112 rfl (by decide) rfl ?_
          generalize ex1013 : (f_X12_partOf r1010.2 x1011 x1012 (0 : Int32)) = x1013
          refine aw_lload hC 2 dX12_all_113 rfl ?_
          refine aw_lload hC 1 dX12_all_115 rfl ?_
          refine aw_iconst (v := 1) hC dX12_all_117 (by decide) ?_
          refine aw_cS3r hC hSt (t_X12_partOf G l  _ _ _ (h8 c1005 c1006 x1009 ex1009 r1010 er1010 x1011 ex1011 x1012 ex1012 x1013 ex1013)) w_1137 w_1170 w_1171 w_953 rfl rfl (by decide +kernel) ⟨Nat.le_of_ble_eq_true rfl, Nat.le_of_ble_eq_true rfl⟩ (Nat.le_of_ble_eq_true rfl) dX12_all_118 ⟨Nat.zero_le _, Nat.zero_le _⟩ ?_
          refine aw_lstore hC [(4, .long _), (2, .long _), (9, .long _), (7, .long _), (0, .ref 64), (1, .int _), (6, .int _)] dX12_all_121 (by decide) rfl ?_
          generalize ex1014 : (f_X12_partOf r1010.2 x1011 x1012 (1 : Int32)) = x1014
          refine aw_lload hC 0 dX12_all_123 rfl ?_
          refine aw_ldc2 (v := 1000000000000) hC w_1190 dX12_all_125 ?_
          refine aw_lcmp hC dX12_all_128 ?_
          refine aw_if_le hC 136 dX12_all_129 (by decide) (fun c1015 => ?_) (fun c1015 => ?_)
          · refine aw_aload_n hC 4 dX12_all_136 rfl rfl ?_
            refine aw_iload hC 6 dX12_all_137 rfl ?_
            refine aw_cV1v hC hSt (t_X12_doAct G l hM _ (h9 c1005 c1006 x1009 ex1009 r1010 er1010 x1011 ex1011 x1012 ex1012 x1013 ex1013 x1014 ex1014 c1015)) w_1184 w_1185 w_1186 w_1187 w_953 rfl rfl (by decide +kernel) ⟨Nat.le_of_ble_eq_true rfl, Nat.le_of_ble_eq_true rfl⟩ (ms_lt 64 (by decide) hM) (ms_k 64 12 0 (by decide) hM) rfl (Nat.le_of_ble_eq_true rfl) dX12_all_139 ⟨Nat.zero_le _, Nat.zero_le _⟩ ?_
            generalize er1016 : f_X12_doAct r1010.2 64 v6 = r1016
            have hM : MS r1016 := MS.of (by rw [← er1016]; exact q_X12_doAct _ _ _) hM
            refine aw_iinc (v := (v6 + (1 : Int32))) hC 6 [(6, .int _), (4, .long _), (2, .long _), (9, .long _), (7, .long _), (0, .ref 64), (1, .int _)] dX12_all_142 rfl rfl (by decide) rfl ?_
            refine aw_goto hC 42 dX12_all_145 (by decide) ?_
            refine aw_sub [5, 6, 2, 1, 0] rfl ?_
            have hTn := (h10 c1005 c1006 x1009 ex1009 r1010 er1010 x1011 ex1011 x1012 ex1012 x1013 ex1013 x1014 ex1014 c1015 r1016 er1016)
            have hMn : MS r1016 := hM
            have E : L_X12_all_42 (n + 1) S v1 v2 v4 v6 = _ := (if_neg c1005).trans ((if_neg c1006).trans ((bd_eq ex1009).trans ((bd_eq er1010).trans ((bd_eq ex1011).trans ((bd_eq ex1012).trans ((bd_eq ex1013).trans ((bd_eq ex1014).trans ((if_pos c1015).trans ((bd_eq er1016).trans (rfl))))))))))
            rw [E] at hk hr
            exact ih _ _ _ _ _ hMn hTn hr hk
          · refine aw_ldc2 (v := -1000000) hC w_1176 dX12_all_132 ?_
            refine aw_lret hC dX12_all_135 (Nat.le_refl _) (Nat.le_refl _) ?_
            have E : L_X12_all_42 (n + 1) S v1 v2 v4 v6 = _ := (if_neg c1005).trans ((if_neg c1006).trans ((bd_eq ex1009).trans ((bd_eq er1010).trans ((bd_eq ex1011).trans ((bd_eq ex1012).trans ((bd_eq ex1013).trans ((bd_eq ex1014).trans ((if_neg c1015).trans (rfl)))))))))
            rw [E] at hr
            exact hr rfl
        · refine aw_icmp_ne hC 79 dX12_all_72 (by decide) (fun c1008 => ?_) (fun c1008 => ?_)
          · refine aw_iconst (v := 0) hC dX12_all_79 (by decide) ?_
            simp only [bd_def, if_neg c1008] at Jc1008 ⊢
            exact Jc1008
          · refine aw_iconst (v := 1) hC dX12_all_75 (by decide) ?_
            refine aw_goto hC 80 dX12_all_76 (by decide) ?_
            simp only [bd_def, if_pos c1008] at Jc1008 ⊢
            exact Jc1008
noncomputable def f_X12_all (S : HSt) (_o : Nat) (a1 : Int32) : Int64 × HSt := bd ((sI S 64 0 (0 : Int32))) fun S1 => if (f_X12_in S1 a1.toInt64 (0 : Int64) (1 : Int64)) = 0 then (pr ((-9000000000000000001 : Int64)) (S1)) else (if (gI S1 64 7) = 0 then (pr ((-9000000000000000002 : Int64)) (S1)) else (bd (f_X12_first S1 64) fun r4 => bd (L_X12_all_42 1000 r4 a1 (1 : Int64) (1 : Int64) (0 : Int32)) fun r5 => if r5.1 = 1 then (pr (r5.2.1) (r5.2.2.2.2.2.2)) else (bd ((if r5.2.2.1 = 0 then r5.2.2.2.1 else r5.2.2.2.2.1)) fun x8 => pr (x8) (r5.2.2.2.2.2.2))))
def p_X12_all (S : HSt) (_o : Nat) (a1 : Int32) : Prop := (∀ S1 : HSt, (sI S 64 0 (0 : Int32)) = S1 → (¬ (f_X12_in S1 a1.toInt64 (0 : Int64) (1 : Int64)) = 0) → (¬ (gI S1 64 7) = 0) → ∀ r4, f_X12_first S1 64 = r4 → T_X12_all_42 1000 r4 a1 (1 : Int64) (1 : Int64) (0 : Int32))
set_option maxRecDepth 100000 in
theorem t_X12_all (G : GG) (l : Launch) {S : HSt} (hM : MS S) (a1 : Int32) (hp : p_X12_all S 64 a1) : AM G l yX12_all cX12_all 11 (some .long) (rmD 4 0 0) 0 0 [.ref 64, .int a1] S (FP (some (.long (f_X12_all S 64 a1).1)) ((f_X12_all S 64 a1).2)) := by
  have h0 := hp
  unfold p_X12_all at h0
  refine AM.mk (by decide) (Nat.le_of_ble_eq_true rfl) ?_
  intro p e s m below meth c hC hSt _
  refine aw_aload_n hC 0 dX12_all_0 rfl rfl ?_
  refine aw_iconst (v := 0) hC dX12_all_1 (by decide) ?_
  refine aw_putI hC hSt 0 (ms_lt 64 (by decide) hM) (ms_k 64 12 0 (by decide) hM) rfl (by decide) w_955 rfl rfl rfl rfl dX12_all_2 ?_
  generalize eS1 : (sI S 64 0 (0 : Int32)) = S1
  have hM : MS S1 := MS.of (by rw [← eS1]; exact shp_sI _ _ _ _) hM
  refine aw_iload_n hC 1 dX12_all_5 rfl rfl ?_
  refine aw_i2l hC dX12_all_6 ?_
  refine aw_lconst (v := 0) hC dX12_all_7 (by decide) ?_
  refine aw_lconst (v := 1) hC dX12_all_8 (by decide) ?_
  refine aw_cS3r hC hSt (t_X12_in G l  _ _ _) w_945 w_951 w_952 w_953 rfl rfl (by decide +kernel) ⟨Nat.le_of_ble_eq_true rfl, Nat.le_of_ble_eq_true rfl⟩ (Nat.le_of_ble_eq_true rfl) dX12_all_9 ⟨Nat.zero_le _, Nat.zero_le _⟩ ?_
  refine aw_if_ne hC 19 dX12_all_12 (by decide) (fun c2 => ?_) (fun c2 => ?_)
  · refine aw_aload_n hC 0 dX12_all_19 rfl rfl ?_
    refine aw_getI hC hSt 7 (ms_lt 64 (by decide) hM) (ms_k 64 12 0 (by decide) hM) rfl (by decide) w_1051 rfl dX12_all_20 ?_
    refine aw_if_ne hC 30 dX12_all_23 (by decide) (fun c3 => ?_) (fun c3 => ?_)
    · refine aw_aload_n hC 0 dX12_all_30 rfl rfl ?_
      refine aw_cV0v hC hSt (t_X12_first G l hM ) w_1031 w_1071 w_1072 w_1073 w_953 rfl rfl (by decide +kernel) ⟨Nat.le_of_ble_eq_true rfl, Nat.le_of_ble_eq_true rfl⟩ (ms_lt 64 (by decide) hM) (ms_k 64 12 0 (by decide) hM) rfl (Nat.le_of_ble_eq_true rfl) dX12_all_31 ⟨Nat.zero_le _, Nat.zero_le _⟩ ?_
      generalize er4 : f_X12_first S1 64 = r4
      have hM : MS r4 := MS.of (by rw [← er4]; exact q_X12_first _ _) hM
      refine aw_lconst (v := 1) hC dX12_all_34 (by decide) ?_
      refine aw_lstore_n hC [(2, .long _), (0, .ref 64), (1, .int _)] dX12_all_35 rfl (by decide) rfl ?_
      refine aw_lconst (v := 1) hC dX12_all_36 (by decide) ?_
      refine aw_lstore hC [(4, .long _), (2, .long _), (0, .ref 64), (1, .int _)] dX12_all_37 (by decide) rfl ?_
      refine aw_iconst (v := 0) hC dX12_all_39 (by decide) ?_
      refine aw_istore hC [(6, .int _), (4, .long _), (2, .long _), (0, .ref 64), (1, .int _)] dX12_all_40 (by decide) rfl ?_
      refine aw_sub [3, 4, 2, 1, 0] rfl ?_
      refine l_X12_all_42 hC hSt 1000 _ _ _ _ _ hM (h0 S1 eS1 c2 c3 r4 er4) (fun c6 => ?_) (fun c6 => ?_)
      · revert c6
        generalize er5 : L_X12_all_42 1000 r4 a1 (1 : Int64) (1 : Int64) (0 : Int32) = r5
        intro c6
        exact FP.qJ ((bd_eq eS1).trans ((if_neg c2).trans ((if_neg c3).trans ((bd_eq er4).trans ((bd_eq er5).trans ((if_pos c6).trans (rfl)))))))
      · revert c6
        generalize er5 : L_X12_all_42 1000 r4 a1 (1 : Int64) (1 : Int64) (0 : Int32) = r5
        have hM : MS r5.2.2.2.2.2.2 := MS.of (by rw [← er5]; exact qL_X12_all_42 _ _ _ _ _ _) hM
        intro c6
        refine aw_iload_n hC 1 dX12_all_148 rfl rfl ?_
        refine aw_cut (S' := r5.2.2.2.2.2.2) (pc' := 158) (lv' := [(0, .ref 64), (1, .int r5.2.2.1), (2, .long r5.2.2.2.1), (4, .long r5.2.2.2.2.1), (6, .int r5.2.2.2.2.2.1)]) (st' := [.long (if r5.2.2.1 = 0 then r5.2.2.2.1 else r5.2.2.2.2.1)]) ?_ (fun Jc7 => ?_)
        · generalize ex8 : (if r5.2.2.1 = 0 then r5.2.2.2.1 else r5.2.2.2.2.1) = x8
          refine aw_lret hC dX12_all_158 (Nat.le_refl _) (Nat.le_refl _) ?_
          exact FP.qJ ((bd_eq eS1).trans ((if_neg c2).trans ((if_neg c3).trans ((bd_eq er4).trans ((bd_eq er5).trans ((if_neg c6).trans ((bd_eq ex8).trans (rfl))))))))
        · refine aw_if_ne hC 156 dX12_all_149 (by decide) (fun c7 => ?_) (fun c7 => ?_)
          · refine aw_lload hC 3 dX12_all_156 rfl ?_
            simp only [bd_def, if_neg c7] at Jc7 ⊢
            exact Jc7
          · refine aw_lload_n hC 2 dX12_all_152 rfl rfl ?_
            refine aw_goto hC 158 dX12_all_153 (by decide) ?_
            simp only [bd_def, if_pos c7] at Jc7 ⊢
            exact Jc7
    · refine aw_ldc2 (v := -9000000000000000002) hC w_1151 dX12_all_26 ?_
      refine aw_lret hC dX12_all_29 (Nat.le_refl _) (Nat.le_refl _) ?_
      exact FP.qJ ((bd_eq eS1).trans ((if_neg c2).trans ((if_pos c3).trans (rfl))))
  · refine aw_ldc2 (v := -9000000000000000001) hC w_957 dX12_all_15 ?_
    refine aw_lret hC dX12_all_18 (Nat.le_refl _) (Nat.le_refl _) ?_
    exact FP.qJ ((bd_eq eS1).trans ((if_pos c2).trans (rfl)))
theorem q_X12_all (S : HSt) (_o : Nat) (a1 : Int32) : shp ((f_X12_all S _o a1).2) = shp S := by
  unfold f_X12_all
  repeat' (first | with_reducible refine shpr1 ?_ | with_reducible rfl | with_reducible refine (q_X12_doAct _ _ _).trans ?_ | with_reducible refine (q_X12_first _ _).trans ?_ | with_reducible refine (q_X12_oddsOf _ _ _ _).trans ?_ | with_reducible refine (qL_X12_all_42 _ _ _ _ _ _).trans ?_ | with_reducible refine (shp_sI _ _ _ _).trans ?_ | with_reducible refine (shp_sJ _ _ _ _).trans ?_ | with_reducible refine shi ?_ ?_ | with_reducible refine shb (fun _ _ => ?_) | with_reducible refine shiP (fun q : Int64 × HSt => q.2) ?_ ?_ | with_reducible refine shbP (fun q : Int64 × HSt => q.2) (fun _ _ => ?_) | (subst_vars; with_reducible rfl) | (subst_vars; with_reducible refine (q_X12_doAct _ _ _).trans ?_) | (subst_vars; with_reducible refine (q_X12_first _ _).trans ?_) | (subst_vars; with_reducible refine (q_X12_oddsOf _ _ _ _).trans ?_) | (subst_vars; with_reducible refine (qL_X12_all_42 _ _ _ _ _ _).trans ?_) | (subst_vars; with_reducible refine (shp_sI _ _ _ _).trans ?_) | (subst_vars; with_reducible refine (shp_sJ _ _ _ _).trans ?_) | (subst_vars; with_reducible refine shi ?_ ?_) | (subst_vars; with_reducible refine shb (fun _ _ => ?_)))