noncomputable def f_X5_remove (S : HSt) (_o0 : Nat) (a1 : Int32) : Int32 × HSt := if (f_X5_isMissing S 1 a1) = 0 then (bd ((gI S 12 a1.toNatClampNeg)) fun x2 => bd ((sI S 12 a1.toNatClampNeg (-1 : Int32))) fun S3 => pr (x2) (S3)) else (pr ((0 : Int32)) (S))
def p_X5_remove (S : HSt) (_o0 : Nat) (a1 : Int32) : Prop := (p_X5_isMissing S 1 a1) ∧ (((f_X5_isMissing S 1 a1) = 0) → vp_in a1 8) ∧ (((f_X5_isMissing S 1 a1) = 0) → ∀ x2 : Int32, (gI S 12 a1.toNatClampNeg) = x2 → vp_in a1 8)
set_option maxRecDepth 100000 in
theorem t_X5_remove (G : GG) (l : Launch) {S : HSt} (hM : CS S) (a1 : Int32)  (hp : p_X5_remove S 1 a1) : AM G l yX5_remove cX5_remove 3 (some .int) (rmD 2 0 0) 0 0 [.ref 1, .int a1] S (FP (some (.int (f_X5_remove S 1 a1).1)) ((f_X5_remove S 1 a1).2)) := by
  obtain ⟨h0, h1, h2⟩ := hp
  refine AM.mk (by decide) (Nat.le_of_ble_eq_true rfl) ?_
  intro p e s m below meth c hC hSt _
  refine aw_aload_n hC 0 dX5_remove_0 rfl rfl ?_
  refine aw_iload_n hC 1 dX5_remove_1 rfl rfl ?_
  refine aw_cV1r hC hSt (t_X5_isMissing G l hM _ (h0)) w_470 w_477 w_478 w_479 w_473 rfl rfl (by decide +kernel) ⟨Nat.le_of_ble_eq_true rfl, Nat.le_of_ble_eq_true rfl⟩ (cs_lt 1 5 0 (by decide) hM) (cs_k 1 5 0 (by decide) hM) rfl (Nat.le_of_ble_eq_true rfl) dX5_remove_2 ⟨Nat.zero_le _, Nat.zero_le _⟩ ?_
  refine aw_if_eq hC 10 dX5_remove_5 (by decide) (fun c1 => ?_) (fun c1 => ?_)
  · refine aw_aload_n hC 0 dX5_remove_10 rfl rfl ?_
    refine aw_getP (b := 12) hC hSt 2 (cs_lt 1 5 0 (by decide) hM) (cs_k 1 5 0 (by decide) hM) rfl (by decide) w_467 rfl (cs_p 1 2 12 (by decide) hM) dX5_remove_11 ?_
    refine aw_iload_n hC 1 dX5_remove_14 rfl rfl ?_
    refine aw_iald hC hSt (cs_lt 12 14 8 (by decide) hM) (cs_k 12 14 8 (by decide) hM) (vp_len (n := 8) (cs_l 12 14 8 (by decide) hM) (h1 c1)) dX5_remove_15 ?_
    refine aw_istore_n hC [(2, .int _), (0, .ref 1), (1, .int _)] dX5_remove_16 rfl (by decide) rfl ?_
    generalize ex2 : (gI S 12 a1.toNatClampNeg) = x2
    refine aw_aload_n hC 1 dX5_remove_17 rfl rfl ?_
    refine aw_getP (b := 12) hC hSt 2 (cs_lt 1 5 0 (by decide) hM) (cs_k 1 5 0 (by decide) hM) rfl (by decide) w_467 rfl (cs_p 1 2 12 (by decide) hM) dX5_remove_18 ?_
    refine aw_iload_n hC 2 dX5_remove_21 rfl rfl ?_
    refine aw_iconst (v := -1) hC dX5_remove_22 (by decide) ?_
    refine aw_iast hC hSt (cs_lt 12 14 8 (by decide) hM) (cs_k 12 14 8 (by decide) hM) (vp_len (n := 8) (cs_l 12 14 8 (by decide) hM) (h2 c1 x2 ex2)) dX5_remove_23 ?_
    generalize eS3 : (sI S 12 a1.toNatClampNeg (-1 : Int32)) = S3
    have hM : CS S3 := CS.of (by rw [← eS3]; exact shp_sI _ _ _ _) hM
    refine aw_iload_n hC 0 dX5_remove_24 rfl rfl ?_
    refine aw_iret hC dX5_remove_25 (Nat.le_refl _) (Nat.le_refl _) ?_
    exact FP.qI ((if_pos c1).trans ((bd_eq ex2).trans ((bd_eq eS3).trans (rfl))))
  · refine aw_iconst (v := 0) hC dX5_remove_8 (by decide) ?_
    refine aw_iret hC dX5_remove_9 (Nat.le_refl _) (Nat.le_refl _) ?_
    exact FP.qI ((if_neg c1).trans (rfl))
theorem q_X5_remove (S : HSt) (_o0 : Nat) (a1 : Int32) : shp ((f_X5_remove S _o0 a1).2) = shp S := by
  unfold f_X5_remove
  repeat' (first | with_reducible refine shpr1 ?_ | with_reducible rfl | with_reducible refine (shp_sI _ _ _ _).trans ?_ | with_reducible refine (shp_sJ _ _ _ _).trans ?_ | with_reducible refine (shp_rI _ _ _).trans ?_ | with_reducible refine shi ?_ ?_ | with_reducible refine shb (fun _ _ => ?_) | with_reducible refine shiP (fun q : Int32 × HSt => q.2) ?_ ?_ | with_reducible refine shbP (fun q : Int32 × HSt => q.2) (fun _ _ => ?_) | (subst_vars; with_reducible rfl) | (subst_vars; with_reducible refine (shp_sI _ _ _ _).trans ?_) | (subst_vars; with_reducible refine (shp_sJ _ _ _ _).trans ?_) | (subst_vars; with_reducible refine (shp_rI _ _ _).trans ?_) | (subst_vars; with_reducible refine shi ?_ ?_) | (subst_vars; with_reducible refine shb (fun _ _ => ?_)))
theorem v_X5_remove (S : HSt) (_o0 : Nat) (a1 : Int32) : Fr [(12, 1000)] S ((f_X5_remove S _o0 a1).2) := by
  unfold f_X5_remove
  repeat' (first | with_reducible refine frpr1 ?_ | with_reducible exact Fr.refl _ _ | with_reducible refine Fr.lP (fun q : Int32 × HSt => q.2) (fun _ _ => ?_) | with_reducible refine Fr.iteP (fun q : Int32 × HSt => q.2) ?_ ?_ | with_reducible refine Fr.l1 (fun _ _ => ?_) | with_reducible refine Fr.ite ?_ ?_ | with_reducible refine Fr.sE (by assumption) (by first | decide | simp only [List.mem_cons, List.not_mem_nil, or_false, true_or, or_true, eq_self_iff_true]) ?_ | with_reducible refine Fr.jE (by assumption) ?_ | with_reducible refine Fr.rE (by assumption) (by first | decide | simp only [List.mem_cons, List.not_mem_nil, or_false, true_or, or_true, eq_self_iff_true]) ?_ | with_reducible refine Fr.iE (by assumption) ?_ ?_)
theorem w_X5_remove (S : HSt) (_o0 : Nat) (a1 : Int32) (r : Int32 × HSt) (e : f_X5_remove S _o0 a1 = r) : Fr [(12, 1000)] S r.2 := by
  rw [← e]
  exact v_X5_remove S _o0 a1
noncomputable def L_X5_howMany_4 : Nat → HSt → Int32 → Int32 → Int32 × Int32
  | 0, S, v1, v2 => (v1, v2)
  | n + 1, S, v1, v2 =>
    if (8 : Int32) ≤ v2 then ((pr (v1) (v2))) else (bd ((if (gI S 12 v2.toNatClampNeg) = (-1 : Int32) then v1 else (v1 + (1 : Int32)))) fun x1003 => L_X5_howMany_4 n S x1003 (v2 + (1 : Int32)))
def T_X5_howMany_4 : Nat → HSt → Int32 → Int32 → Prop
  | 0, _, _, _ => False
  | n + 1, S, v1, v2 => ((¬ (8 : Int32) ≤ v2) → vp_in v2 8) ∧ ((¬ (8 : Int32) ≤ v2) → ∀ x1003 : Int32, (if (gI S 12 v2.toNatClampNeg) = (-1 : Int32) then v1 else (v1 + (1 : Int32))) = x1003 → T_X5_howMany_4 n S x1003 (v2 + (1 : Int32)))
set_option maxRecDepth 100000 in
theorem l_X5_howMany_4 {p : Program} {l : Launch} {e : Env} {s : State} {m : MethodId} {args : Array Value} {below : List Frame} {meth : Method} {c : Code} {G : GG} {Q : State → Prop} (hC : ACx p s m args meth c cX5_howMany RX5 3 (some .int)) (hSt : St G s)   : ∀ (n : Nat) (S : HSt) (v1 : Int32) (v2 : Int32), CS S → T_X5_howMany_4 n S v1 v2 → AW p l e (rmD 0 0 0) s m args below meth c G 3 Q S 0 0 29 [(0, .ref 1), (1, .int (L_X5_howMany_4 n S v1 v2).1), (2, .int (L_X5_howMany_4 n S v1 v2).2)] [] → AW p l e (rmD 0 0 0) s m args below meth c G 3 Q S 0 0 4 [(0, .ref 1), (1, .int v1), (2, .int v2)] [] := by
  intro n
  induction n with
  | zero => intro S v1 v2 _ hT; exact hT.elim
  | succ n ih =>
    intro S v1 v2 hM hT hk
    unfold T_X5_howMany_4 at hT
    obtain ⟨h0, h1⟩ := hT
    refine aw_iload_n hC 2 dX5_howMany_4 rfl rfl ?_
    refine aw_bipush (v := 8) hC dX5_howMany_5 (by decide) ?_
    refine aw_icmp_ge hC 29 dX5_howMany_7 (by decide) (fun c1001 => ?_) (fun c1001 => ?_)
    · refine aw_sub [0, 1, 2] rfl ?_
      have E : L_X5_howMany_4 (n + 1) S v1 v2 = _ := (if_pos c1001).trans (rfl)
      rw [E] at hk
      exact hk
    · refine aw_aload_n hC 0 dX5_howMany_10 rfl rfl ?_
      refine aw_getP (b := 12) hC hSt 2 (cs_lt 1 5 0 (by decide) hM) (cs_k 1 5 0 (by decide) hM) rfl (by decide) w_467 rfl (cs_p 1 2 12 (by decide) hM) dX5_howMany_11 ?_
      refine aw_iload_n hC 2 dX5_howMany_14 rfl rfl ?_
      refine aw_iald hC hSt (cs_lt 12 14 8 (by decide) hM) (cs_k 12 14 8 (by decide) hM) (vp_len (n := 8) (cs_l 12 14 8 (by decide) hM) (h0 c1001)) dX5_howMany_15 ?_
      refine aw_iconst (v := -1) hC dX5_howMany_16 (by decide) ?_
      refine aw_cut (S' := S) (pc' := 23) (lv' := [(0, .ref 1), (1, .int (if (gI S 12 v2.toNatClampNeg) = (-1 : Int32) then v1 else (v1 + (1 : Int32)))), (2, .int v2)]) (st' := []) ?_ (fun Jc1002 => ?_)
      · generalize ex1003 : (if (gI S 12 v2.toNatClampNeg) = (-1 : Int32) then v1 else (v1 + (1 : Int32))) = x1003
        refine aw_iinc (v := (v2 + (1 : Int32))) hC 2 [(2, .int _), (0, .ref 1), (1, .int _)] dX5_howMany_23 rfl rfl (by decide) rfl ?_
        refine aw_goto hC 4 dX5_howMany_26 (by decide) ?_
        refine aw_sub [1, 2, 0] rfl ?_
        have hTn := (h1 c1001 x1003 ex1003)
        have hMn : CS S := hM
        have E : L_X5_howMany_4 (n + 1) S v1 v2 = _ := (if_neg c1001).trans ((bd_eq ex1003).trans (rfl))
        rw [E] at hk
        exact ih _ _ _ hMn hTn hk
      · refine aw_icmp_eq hC 23 dX5_howMany_17 (by decide) (fun c1002 => ?_) (fun c1002 => ?_)
        · simp only [bd_def, if_pos c1002] at Jc1002 ⊢
          exact Jc1002
        · refine aw_iinc (v := (v1 + (1 : Int32))) hC 1 [(1, .int _), (0, .ref 1), (2, .int _)] dX5_howMany_20 rfl rfl (by decide) rfl ?_
          refine aw_sub [1, 0, 2] rfl ?_
          simp only [bd_def, if_neg c1002] at Jc1002 ⊢
          exact Jc1002
noncomputable def F_X5_howMany (S : HSt) (_o0 : Nat) : Int32 × HSt := bd (L_X5_howMany_4 1000 S (0 : Int32) (0 : Int32)) fun r1 => pr (r1.1) (S)
noncomputable def f_X5_howMany (S : HSt) (_o0 : Nat) : Int32 := (F_X5_howMany S _o0).1
def p_X5_howMany (S : HSt) (_o0 : Nat) : Prop := (T_X5_howMany_4 1000 S (0 : Int32) (0 : Int32))
set_option maxRecDepth 100000 in
theorem t_X5_howMany (G : GG) (l : Launch) {S : HSt} (hM : CS S)   (hp : p_X5_howMany S 1) : AM G l yX5_howMany cX5_howMany 3 (some .int) (rmD 0 0 0) 0 0 [.ref 1] S (FP (some (.int (f_X5_howMany S 1))) (S)) := by
  have h0 := hp
  unfold p_X5_howMany at h0
  refine AM.mk (by decide) (Nat.le_of_ble_eq_true rfl) ?_
  intro p e s m below meth c hC hSt _
  refine aw_iconst (v := 0) hC dX5_howMany_0 (by decide) ?_
  refine aw_istore_n hC [(1, .int _), (0, .ref 1)] dX5_howMany_1 rfl (by decide) rfl ?_
  refine aw_iconst (v := 0) hC dX5_howMany_2 (by decide) ?_
  refine aw_istore_n hC [(2, .int _), (1, .int _), (0, .ref 1)] dX5_howMany_3 rfl (by decide) rfl ?_
  refine aw_sub [2, 1, 0] rfl ?_
  refine l_X5_howMany_4 hC hSt 1000 _ _ _ hM (h0) ?_
  generalize er1 : L_X5_howMany_4 1000 S (0 : Int32) (0 : Int32) = r1
  refine aw_iload_n hC 1 dX5_howMany_29 rfl rfl ?_
  refine aw_iret hC dX5_howMany_30 (Nat.le_refl _) (Nat.le_refl _) ?_
  exact FP.pI ((bd_eq er1).trans (rfl))
noncomputable def L_X11_commonDivisor_9 : Nat → HSt → Int64 → Int64 → Int64 → Int64 → Int32 → Int64 × Int64 × Int64 × Int64 × Int32
  | 0, S, v0, v2, v4, v6, v8 => (v0, v2, v4, v6, v8)
  | n + 1, S, v0, v2, v4, v6, v8 =>
    if (lg_cmp v6 (0 : Int64)) = 0 then ((pr (v0) (pr (v2) (pr (v4) (pr (v6) (v8)))))) else (if (100 : Int32) ≤ v8 then ((pr (v0) (pr (v2) (pr (v4) (pr (v6) (v8)))))) else (bd ((v4 - v4 / v6 * v6)) fun x1003 => L_X11_commonDivisor_9 n S v0 v2 v6 x1003 (v8 + (1 : Int32))))
def T_X11_commonDivisor_9 : Nat → HSt → Int64 → Int64 → Int64 → Int64 → Int32 → Prop
  | 0, _, _, _, _, _, _ => False
  | n + 1, S, v0, v2, v4, v6, v8 => ((¬ (lg_cmp v6 (0 : Int64)) = 0) → (¬ (100 : Int32) ≤ v8) → ¬ v6 = 0) ∧ ((¬ (lg_cmp v6 (0 : Int64)) = 0) → (¬ (100 : Int32) ≤ v8) → ∀ x1003 : Int64, (v4 - v4 / v6 * v6) = x1003 → T_X11_commonDivisor_9 n S v0 v2 v6 x1003 (v8 + (1 : Int32)))
set_option maxRecDepth 100000 in
theorem l_X11_commonDivisor_9 {p : Program} {l : Launch} {e : Env} {s : State} {m : MethodId} {args : Array Value} {below : List Frame} {meth : Method} {c : Code} {G : GG} {Q : State → Prop} (hC : ACx p s m args meth c cX11_commonDivisor RX11 11 (some .long)) (hSt : St G s)   : ∀ (n : Nat) (S : HSt) (v0 : Int64) (v2 : Int64) (v4 : Int64) (v6 : Int64) (v8 : Int32), T_X11_commonDivisor_9 n S v0 v2 v4 v6 v8 → AW p l e (rmD 0 0 0) s m args below meth c G 11 Q S 0 0 44 [(0, .long (L_X11_commonDivisor_9 n S v0 v2 v4 v6 v8).1), (2, .long (L_X11_commonDivisor_9 n S v0 v2 v4 v6 v8).2.1), (4, .long (L_X11_commonDivisor_9 n S v0 v2 v4 v6 v8).2.2.1), (6, .long (L_X11_commonDivisor_9 n S v0 v2 v4 v6 v8).2.2.2.1), (8, .int (L_X11_commonDivisor_9 n S v0 v2 v4 v6 v8).2.2.2.2)] [] → AW p l e (rmD 0 0 0) s m args below meth c G 11 Q S 0 0 9 [(0, .long v0), (2, .long v2), (4, .long v4), (6, .long v6), (8, .int v8)] [] := by
  intro n
  induction n with
  | zero => intro S v0 v2 v4 v6 v8 hT; exact hT.elim
  | succ n ih =>
    intro S v0 v2 v4 v6 v8 hT hk
    unfold T_X11_commonDivisor_9 at hT
    obtain ⟨h0, h1⟩ := hT
    refine aw_lload hC 3 dX11_commonDivisor_9 rfl ?_
    refine aw_lconst (v := 0) hC dX11_commonDivisor_11 (by decide) ?_
    refine aw_lcmp hC dX11_commonDivisor_12 ?_
    refine aw_if_eq hC 44 dX11_commonDivisor_13 (by decide) (fun c1001 => ?_) (fun c1001 => ?_)
    · refine aw_sub [0, 1, 2, 3, 4] rfl ?_
      have E : L_X11_commonDivisor_9 (n + 1) S v0 v2 v4 v6 v8 = _ := (if_pos c1001).trans (rfl)
      rw [E] at hk
      exact hk
    · refine aw_iload hC 4 dX11_commonDivisor_16 rfl ?_
      refine aw_bipush (v := 100) hC dX11_commonDivisor_18 (by decide) ?_
      refine aw_icmp_ge hC 44 dX11_commonDivisor_20 (by decide) (fun c1002 => ?_) (fun c1002 => ?_)
      · refine aw_sub [0, 1, 2, 3, 4] rfl ?_
        have E : L_X11_commonDivisor_9 (n + 1) S v0 v2 v4 v6 v8 = _ := (if_neg c1001).trans ((if_pos c1002).trans (rfl))
        rw [E] at hk
        exact hk
      · refine aw_lload hC 2 dX11_commonDivisor_23 rfl ?_
        refine aw_lload hC 3 dX11_commonDivisor_25 rfl ?_
        refine aw_lrem hC dX11_commonDivisor_27 ((h0 c1001 c1002)) ?_
        refine aw_lstore hC [(9, .long _), (0, .long _), (2, .long _), (4, .long _), (6, .long _), (8, .int _)] dX11_commonDivisor_28 (by decide) rfl ?_
        generalize ex1003 : (v4 - v4 / v6 * v6) = x1003
        refine aw_lload hC 4 dX11_commonDivisor_30 rfl ?_
        refine aw_lstore hC [(4, .long _), (9, .long _), (0, .long _), (2, .long _), (6, .long _), (8, .int _)] dX11_commonDivisor_32 (by decide) rfl ?_
        refine aw_lload hC 1 dX11_commonDivisor_34 rfl ?_
        refine aw_lstore hC [(6, .long _), (4, .long _), (9, .long _), (0, .long _), (2, .long _), (8, .int _)] dX11_commonDivisor_36 (by decide) rfl ?_
        refine aw_iinc (v := (v8 + (1 : Int32))) hC 5 [(8, .int _), (6, .long _), (4, .long _), (9, .long _), (0, .long _), (2, .long _)] dX11_commonDivisor_38 rfl rfl (by decide) rfl ?_
        refine aw_goto hC 9 dX11_commonDivisor_41 (by decide) ?_
        refine aw_sub [4, 5, 2, 1, 0] rfl ?_
        have hTn := (h1 c1001 c1002 x1003 ex1003)
        have E : L_X11_commonDivisor_9 (n + 1) S v0 v2 v4 v6 v8 = _ := (if_neg c1001).trans ((if_neg c1002).trans ((bd_eq ex1003).trans (rfl)))
        rw [E] at hk
        exact ih _ _ _ _ _ _ hTn hk
noncomputable def F_X11_commonDivisor (S : HSt) (a1 : Int64) (a2 : Int64) : Int64 × HSt := bd (L_X11_commonDivisor_9 1000 S a1 a2 a1 a2 (0 : Int32)) fun r1 => pr (r1.2.2.1) (S)
noncomputable def f_X11_commonDivisor (S : HSt) (a1 : Int64) (a2 : Int64) : Int64 := (F_X11_commonDivisor S a1 a2).1
def p_X11_commonDivisor (S : HSt) (a1 : Int64) (a2 : Int64) : Prop := (T_X11_commonDivisor_9 1000 S a1 a2 a1 a2 (0 : Int32))
set_option maxRecDepth 100000 in
theorem t_X11_commonDivisor (G : GG) (l : Launch) {S : HSt} (a1 : Int64) (a2 : Int64)  (hp : p_X11_commonDivisor S a1 a2) : AM G l yX11_commonDivisor cX11_commonDivisor 11 (some .long) (rmD 0 0 0) 0 0 [.long a1, .long a2] S (FP (some (.long (f_X11_commonDivisor S a1 a2))) (S)) := by
  have h0 := hp
  unfold p_X11_commonDivisor at h0
  refine AM.mk (by decide) (Nat.le_of_ble_eq_true rfl) ?_
  intro p e s m below meth c hC hSt _
  refine aw_lload_n hC 0 dX11_commonDivisor_0 rfl rfl ?_
  refine aw_lstore hC [(4, .long _), (0, .long _), (2, .long _)] dX11_commonDivisor_1 (by decide) rfl ?_
  refine aw_lload_n hC 2 dX11_commonDivisor_3 rfl rfl ?_
  refine aw_lstore hC [(6, .long _), (4, .long _), (0, .long _), (2, .long _)] dX11_commonDivisor_4 (by decide) rfl ?_
  refine aw_iconst (v := 0) hC dX11_commonDivisor_6 (by decide) ?_
  refine aw_istore hC [(8, .int _), (6, .long _), (4, .long _), (0, .long _), (2, .long _)] dX11_commonDivisor_7 (by decide) rfl ?_
  refine aw_sub [3, 4, 2, 1, 0] rfl ?_
  refine l_X11_commonDivisor_9 hC hSt 1000 _ _ _ _ _ _  (h0) ?_
  generalize er1 : L_X11_commonDivisor_9 1000 S a1 a2 a1 a2 (0 : Int32) = r1
  refine aw_lload hC 2 dX11_commonDivisor_44 rfl ?_
  refine aw_lret hC dX11_commonDivisor_46 (Nat.le_refl _) (Nat.le_refl _) ?_
  exact FP.pJ ((bd_eq er1).trans (rfl))
noncomputable def F_X11_lowest (S : HSt) (a1 : Int64) (a2 : Int64) (a3 : Int32) : Int64 × HSt := bd ((f_X11_commonDivisor S a1 a2)) fun x1 => if (lg_cmp x1 (0 : Int64)) = 0 then (pr ((0 : Int64)) (S)) else (bd ((if a3 = 0 then a1 else a2)) fun x4 => pr ((x4 / x1)) (S))
noncomputable def f_X11_lowest (S : HSt) (a1 : Int64) (a2 : Int64) (a3 : Int32) : Int64 := (F_X11_lowest S a1 a2 a3).1
def p_X11_lowest (S : HSt) (a1 : Int64) (a2 : Int64) (a3 : Int32) : Prop := (p_X11_commonDivisor S a1 a2) ∧ (∀ x1 : Int64, (f_X11_commonDivisor S a1 a2) = x1 → (¬ (lg_cmp x1 (0 : Int64)) = 0) → ∀ x4 : Int64, (if a3 = 0 then a1 else a2) = x4 → ¬ x1 = 0)
set_option maxRecDepth 100000 in
theorem t_X11_lowest (G : GG) (l : Launch) {S : HSt} (a1 : Int64) (a2 : Int64) (a3 : Int32)  (hp : p_X11_lowest S a1 a2 a3) : AM G l yX11_lowest cX11_lowest 7 (some .long) (rmD 1 0 0) 0 0 [.long a1, .long a2, .int a3] S (FP (some (.long (f_X11_lowest S a1 a2 a3))) (S)) := by
  obtain ⟨h0, h1⟩ := hp
  refine AM.mk (by decide) (Nat.le_of_ble_eq_true rfl) ?_
  intro p e s m below meth c hC hSt _
  refine aw_lload_n hC 0 dX11_lowest_0 rfl rfl ?_
  refine aw_lload_n hC 1 dX11_lowest_1 rfl rfl ?_
  refine aw_cS2r hC hSt (t_X11_commonDivisor G l  _ _ (h0)) w_513 w_515 w_516 w_517 rfl rfl (by decide +kernel) ⟨Nat.le_of_ble_eq_true rfl, Nat.le_of_ble_eq_true rfl⟩ (Nat.le_of_ble_eq_true rfl) dX11_lowest_2 ⟨Nat.zero_le _, Nat.zero_le _⟩ ?_
  refine aw_lstore hC [(5, .long _), (0, .long _), (2, .long _), (4, .int _)] dX11_lowest_5 (by decide) rfl ?_
  generalize ex1 : (f_X11_commonDivisor S a1 a2) = x1
  refine aw_lload hC 0 dX11_lowest_7 rfl ?_
  refine aw_lconst (v := 0) hC dX11_lowest_9 (by decide) ?_
  refine aw_lcmp hC dX11_lowest_10 ?_
  refine aw_if_ne hC 16 dX11_lowest_11 (by decide) (fun c2 => ?_) (fun c2 => ?_)
  · refine aw_iload hC 3 dX11_lowest_16 rfl ?_
    refine aw_cut (S' := S) (pc' := 26) (lv' := [(5, .long x1), (0, .long a1), (2, .long a2), (4, .int a3)]) (st' := [.long (if a3 = 0 then a1 else a2)]) ?_ (fun Jc3 => ?_)
    · generalize ex4 : (if a3 = 0 then a1 else a2) = x4
      refine aw_lload hC 0 dX11_lowest_26 rfl ?_
      refine aw_ldiv hC dX11_lowest_28 ((h1 x1 ex1 c2 x4 ex4)) ?_
      refine aw_lret hC dX11_lowest_29 (Nat.le_refl _) (Nat.le_refl _) ?_
      exact FP.pJ ((bd_eq ex1).trans ((if_neg c2).trans ((bd_eq ex4).trans (rfl))))
    · refine aw_if_ne hC 25 dX11_lowest_18 (by decide) (fun c3 => ?_) (fun c3 => ?_)
      · refine aw_lload_n hC 2 dX11_lowest_25 rfl rfl ?_
        simp only [bd_def, if_neg c3] at Jc3 ⊢
        exact Jc3
      · refine aw_lload_n hC 1 dX11_lowest_21 rfl rfl ?_
        refine aw_goto hC 26 dX11_lowest_22 (by decide) ?_
        simp only [bd_def, if_pos c3] at Jc3 ⊢
        exact Jc3
  · refine aw_lconst (v := 0) hC dX11_lowest_14 (by decide) ?_
    refine aw_lret hC dX11_lowest_15 (Nat.le_refl _) (Nat.le_refl _) ?_
    exact FP.pJ ((bd_eq ex1).trans ((if_pos c2).trans (rfl)))
noncomputable def F_X11_within (S : HSt) (a1 : Int32) (a2 : Int32) (a3 : Int32) : Int32 × HSt := bd ((if a1 < a2 then (0 : Int32) else (if a3 < a1 then (0 : Int32) else (1 : Int32)))) fun x3 => pr (x3) (S)
noncomputable def f_X11_within (S : HSt) (a1 : Int32) (a2 : Int32) (a3 : Int32) : Int32 := (F_X11_within S a1 a2 a3).1
set_option maxRecDepth 100000 in
theorem t_X11_within (G : GG) (l : Launch) {S : HSt} (a1 : Int32) (a2 : Int32) (a3 : Int32)   : AM G l yX11_within cX11_within 3 (some .boolean) (rmD 0 0 0) 0 0 [.int a1, .int a2, .int a3] S (FP (some (.int (f_X11_within S a1 a2 a3))) (S)) := by
  refine AM.mk (by decide) (Nat.le_of_ble_eq_true rfl) ?_
  intro p e s m below meth c hC hSt _
  refine aw_iload_n hC 0 dX11_within_0 rfl rfl ?_
  refine aw_iload_n hC 1 dX11_within_1 rfl rfl ?_
  refine aw_cut (S' := S) (pc' := 15) (lv' := [(0, .int a1), (1, .int a2), (2, .int a3)]) (st' := [.int (if a1 < a2 then (0 : Int32) else (if a3 < a1 then (0 : Int32) else (1 : Int32)))]) ?_ (fun Jc1 => ?_)
  · generalize ex3 : (if a1 < a2 then (0 : Int32) else (if a3 < a1 then (0 : Int32) else (1 : Int32))) = x3
    refine aw_zret hC dX11_within_15 (Nat.le_refl _) (Nat.le_refl _) (Bz.n (ex3 ▸ (Bz.ite (Or.inl rfl) (Bz.ite (Or.inl rfl) (Or.inr rfl))))) ?_
    exact FP.pI ((bd_eq ex3).trans (rfl))
  · refine aw_icmp_lt hC 14 dX11_within_2 (by decide) (fun c1 => ?_) (fun c1 => ?_)
    · refine aw_iconst (v := 0) hC dX11_within_14 (by decide) ?_
      simp only [bd_def, if_pos c1] at Jc1 ⊢
      exact Jc1
    · refine aw_iload_n hC 0 dX11_within_5 rfl rfl ?_
      refine aw_iload_n hC 2 dX11_within_6 rfl rfl ?_
      refine aw_icmp_gt hC 14 dX11_within_7 (by decide) (fun c2 => ?_) (fun c2 => ?_)
      · refine aw_iconst (v := 0) hC dX11_within_14 (by decide) ?_
        simp only [bd_def, if_neg c1, if_pos c2] at Jc1 ⊢
        exact Jc1
      · refine aw_iconst (v := 1) hC dX11_within_10 (by decide) ?_
        refine aw_goto hC 15 dX11_within_11 (by decide) ?_
        simp only [bd_def, if_neg c1, if_neg c2] at Jc1 ⊢
        exact Jc1
theorem b_X11_within (S : HSt) (a1 : Int32) (a2 : Int32) (a3 : Int32) : Bz (f_X11_within S a1 a2 a3) := by
  unfold f_X11_within F_X11_within
  (try dsimp only [bd])
  (repeat' split) <;> first | exact Or.inl rfl | exact Or.inr rfl
noncomputable def f_X6_advance (S : HSt) (_o0 : Nat) (sc1 : Nat) (a2 : Int32) : HSt := bd ((if (f_X10_kindOf S (sc1 + 1) a2) = (3 : Int32) then (1 : Int32) else (0 : Int32))) fun x2 => bd ((f_X10_value S (sc1 + 1) (5 : Int32) a2 (2 : Int32))) fun x3 => bd ((f_X10_value S (sc1 + 1) (5 : Int32) a2 (3 : Int32))) fun x4 => bd ((f_X10_value S (sc1 + 1) (5 : Int32) a2 (4 : Int32))) fun x5 => bd (f_X1_advance S 36 sc1 x2 x3 x4 x5) fun r6 => r6
def p_X6_advance (S : HSt) (_o0 : Nat) (sc1 : Nat) (a2 : Int32) : Prop := (p_X10_kindOf S (sc1 + 1) a2) ∧ (∀ x2 : Int32, (if (f_X10_kindOf S (sc1 + 1) a2) = (3 : Int32) then (1 : Int32) else (0 : Int32)) = x2 → p_X10_value S (sc1 + 1) (5 : Int32) a2 (2 : Int32)) ∧ (∀ x2 : Int32, (if (f_X10_kindOf S (sc1 + 1) a2) = (3 : Int32) then (1 : Int32) else (0 : Int32)) = x2 → ∀ x3 : Int32, (f_X10_value S (sc1 + 1) (5 : Int32) a2 (2 : Int32)) = x3 → p_X10_value S (sc1 + 1) (5 : Int32) a2 (3 : Int32)) ∧ (∀ x2 : Int32, (if (f_X10_kindOf S (sc1 + 1) a2) = (3 : Int32) then (1 : Int32) else (0 : Int32)) = x2 → ∀ x3 : Int32, (f_X10_value S (sc1 + 1) (5 : Int32) a2 (2 : Int32)) = x3 → ∀ x4 : Int32, (f_X10_value S (sc1 + 1) (5 : Int32) a2 (3 : Int32)) = x4 → p_X10_value S (sc1 + 1) (5 : Int32) a2 (4 : Int32))
set_option maxRecDepth 100000 in
theorem t_X6_advance (G : GG) (l : Launch) {S : HSt} (hM : CS S) (sc1 : Nat) (a2 : Int32) (hsc1 : (sc1, 7, 0) ∈ cKT) (hp : p_X6_advance S 35 sc1 a2) : AM G l yX6_advance cX6_advance 8 none (rmD 3 0 0) 0 0 [.ref 35, .ref sc1, .int a2] S (FP none (f_X6_advance S 35 sc1 a2)) := by
  obtain ⟨h0, h1, h2, h3⟩ := hp
  refine AM.mk (by decide) (Nat.le_of_ble_eq_true rfl) ?_
  intro p e s m below meth c hC hSt _
  refine aw_aload_n hC 1 dX6_advance_0 rfl rfl ?_
  refine aw_getP (b := (sc1 + 1)) hC hSt 0 (cs_lt sc1 7 0 hsc1 hM) (cs_k sc1 7 0 hsc1 hM) rfl (by decide) w_499 rfl (cs_p sc1 0 (sc1 + 1) (sc_pway hsc1) hM) dX6_advance_1 ?_
  refine aw_astore_n hC [(3, .ref (sc1 + 1)), (0, .ref 35), (1, .ref sc1), (2, .int _)] dX6_advance_4 rfl (by decide) rfl ?_
  refine aw_aload_n hC 0 dX6_advance_5 rfl rfl ?_
  refine aw_iload_n hC 3 dX6_advance_6 rfl rfl ?_
  refine aw_cV1r hC hSt (t_X10_kindOf G l hM _ _ (sc_way hsc1) (h0)) w_14 w_500 w_47 w_48 w_18 rfl rfl (by decide +kernel) ⟨Nat.le_of_ble_eq_true rfl, Nat.le_of_ble_eq_true rfl⟩ (cs_lt (sc1 + 1) 10 0 (sc_way hsc1) hM) (cs_k (sc1 + 1) 10 0 (sc_way hsc1) hM) rfl (Nat.le_of_ble_eq_true rfl) dX6_advance_7 ⟨Nat.zero_le _, Nat.zero_le _⟩ ?_
  refine aw_iconst (v := 3) hC dX6_advance_10 (by decide) ?_
  refine aw_cut (S' := S) (pc' := 19) (lv' := [(3, .ref (sc1 + 1)), (0, .ref 35), (1, .ref sc1), (2, .int a2)]) (st' := [.int (if (f_X10_kindOf S (sc1 + 1) a2) = (3 : Int32) then (1 : Int32) else (0 : Int32))]) ?_ (fun Jc1 => ?_)
  · generalize ex2 : (if (f_X10_kindOf S (sc1 + 1) a2) = (3 : Int32) then (1 : Int32) else (0 : Int32)) = x2
    refine aw_istore hC [(4, .int _), (3, .ref (sc1 + 1)), (0, .ref 35), (1, .ref sc1), (2, .int _)] dX6_advance_19 (by decide) rfl ?_
    refine aw_aload_n hC 1 dX6_advance_21 rfl rfl ?_
    refine aw_iconst (v := 5) hC dX6_advance_22 (by decide) ?_
    refine aw_iload_n hC 4 dX6_advance_23 rfl rfl ?_
    refine aw_iconst (v := 2) hC dX6_advance_24 (by decide) ?_
    refine aw_cV3r hC hSt (t_X10_value G l hM _ _ _ _ (sc_way hsc1) (h1 x2 ex2)) w_10 w_501 w_16 w_17 w_18 rfl rfl (by decide +kernel) ⟨Nat.le_of_ble_eq_true rfl, Nat.le_of_ble_eq_true rfl⟩ (cs_lt (sc1 + 1) 10 0 (sc_way hsc1) hM) (cs_k (sc1 + 1) 10 0 (sc_way hsc1) hM) rfl (Nat.le_of_ble_eq_true rfl) dX6_advance_25 ⟨Nat.zero_le _, Nat.zero_le _⟩ ?_
    refine aw_istore hC [(5, .int _), (4, .int _), (3, .ref (sc1 + 1)), (0, .ref 35), (1, .ref sc1), (2, .int _)] dX6_advance_28 (by decide) rfl ?_
    generalize ex3 : (f_X10_value S (sc1 + 1) (5 : Int32) a2 (2 : Int32)) = x3
    refine aw_aload_n hC 2 dX6_advance_30 rfl rfl ?_
    refine aw_iconst (v := 5) hC dX6_advance_31 (by decide) ?_
    refine aw_iload_n hC 5 dX6_advance_32 rfl rfl ?_
    refine aw_iconst (v := 3) hC dX6_advance_33 (by decide) ?_
    refine aw_cV3r hC hSt (t_X10_value G l hM _ _ _ _ (sc_way hsc1) (h2 x2 ex2 x3 ex3)) w_10 w_501 w_16 w_17 w_18 rfl rfl (by decide +kernel) ⟨Nat.le_of_ble_eq_true rfl, Nat.le_of_ble_eq_true rfl⟩ (cs_lt (sc1 + 1) 10 0 (sc_way hsc1) hM) (cs_k (sc1 + 1) 10 0 (sc_way hsc1) hM) rfl (Nat.le_of_ble_eq_true rfl) dX6_advance_34 ⟨Nat.zero_le _, Nat.zero_le _⟩ ?_
    refine aw_istore hC [(6, .int _), (5, .int _), (4, .int _), (3, .ref (sc1 + 1)), (0, .ref 35), (1, .ref sc1), (2, .int _)] dX6_advance_37 (by decide) rfl ?_
    generalize ex4 : (f_X10_value S (sc1 + 1) (5 : Int32) a2 (3 : Int32)) = x4
    refine aw_aload_n hC 3 dX6_advance_39 rfl rfl ?_
    refine aw_iconst (v := 5) hC dX6_advance_40 (by decide) ?_
    refine aw_iload_n hC 6 dX6_advance_41 rfl rfl ?_
    refine aw_iconst (v := 4) hC dX6_advance_42 (by decide) ?_
    refine aw_cV3r hC hSt (t_X10_value G l hM _ _ _ _ (sc_way hsc1) (h3 x2 ex2 x3 ex3 x4 ex4)) w_10 w_501 w_16 w_17 w_18 rfl rfl (by decide +kernel) ⟨Nat.le_of_ble_eq_true rfl, Nat.le_of_ble_eq_true rfl⟩ (cs_lt (sc1 + 1) 10 0 (sc_way hsc1) hM) (cs_k (sc1 + 1) 10 0 (sc_way hsc1) hM) rfl (Nat.le_of_ble_eq_true rfl) dX6_advance_43 ⟨Nat.zero_le _, Nat.zero_le _⟩ ?_
    refine aw_istore hC [(7, .int _), (6, .int _), (5, .int _), (4, .int _), (3, .ref (sc1 + 1)), (0, .ref 35), (1, .ref sc1), (2, .int _)] dX6_advance_46 (by decide) rfl ?_
    generalize ex5 : (f_X10_value S (sc1 + 1) (5 : Int32) a2 (4 : Int32)) = x5
    refine aw_aload_n hC 5 dX6_advance_48 rfl rfl ?_
    refine aw_getP (b := 36) hC hSt 0 (cs_lt 35 6 0 (by decide) hM) (cs_k 35 6 0 (by decide) hM) rfl (by decide) w_493 rfl (cs_p 35 0 36 (by decide) hM) dX6_advance_49 ?_
    refine aw_aload_n hC 6 dX6_advance_52 rfl rfl ?_
    refine aw_iload hC 3 dX6_advance_53 rfl ?_
    refine aw_iload hC 2 dX6_advance_55 rfl ?_
    refine aw_iload hC 1 dX6_advance_57 rfl ?_
    refine aw_iload hC 0 dX6_advance_59 rfl ?_
    refine aw_cV5v hC hSt (t_X1_advance G l hM _ _ _ _ _ _ (by decide) hsc1) w_124 w_502 w_229 w_230 w_84 rfl rfl (by decide +kernel) ⟨Nat.le_of_ble_eq_true rfl, Nat.le_of_ble_eq_true rfl⟩ (cs_lt 36 1 0 (by decide) hM) (cs_k 36 1 0 (by decide) hM) rfl (Nat.le_of_ble_eq_true rfl) dX6_advance_61 ⟨Nat.zero_le _, Nat.zero_le _⟩ ?_
    generalize er6 : f_X1_advance S 36 sc1 x2 x3 x4 x5 = r6
    have hM : CS r6 := CS.of (by rw [← er6]; exact q_X1_advance _ _ _ _ _ _ _) hM
    refine aw_vret hC dX6_advance_64 (Nat.le_refl _) (Nat.le_refl _) ?_
    exact FP.qV ((bd_eq ex2).trans ((bd_eq ex3).trans ((bd_eq ex4).trans ((bd_eq ex5).trans ((bd_eq er6).trans (rfl))))))
  · refine aw_icmp_ne hC 18 dX6_advance_11 (by decide) (fun c1 => ?_) (fun c1 => ?_)
    · refine aw_iconst (v := 0) hC dX6_advance_18 (by decide) ?_
      simp only [bd_def, if_neg c1] at Jc1 ⊢
      exact Jc1
    · refine aw_iconst (v := 1) hC dX6_advance_14 (by decide) ?_
      refine aw_goto hC 19 dX6_advance_15 (by decide) ?_
      simp only [bd_def, if_pos c1] at Jc1 ⊢
      exact Jc1
theorem q_X6_advance (S : HSt) (_o0 : Nat) (sc1 : Nat) (a2 : Int32) : shp (f_X6_advance S _o0 sc1 a2) = shp S := by
  unfold f_X6_advance
  repeat' (first | with_reducible rfl | with_reducible refine (q_X1_advance _ _ _ _ _ _ _).trans ?_ | with_reducible refine (shp_sI _ _ _ _).trans ?_ | with_reducible refine (shp_sJ _ _ _ _).trans ?_ | with_reducible refine (shp_rI _ _ _).trans ?_ | with_reducible refine shi ?_ ?_ | with_reducible refine shb (fun _ _ => ?_) | (subst_vars; with_reducible rfl) | (subst_vars; with_reducible refine (q_X1_advance _ _ _ _ _ _ _).trans ?_) | (subst_vars; with_reducible refine (shp_sI _ _ _ _).trans ?_) | (subst_vars; with_reducible refine (shp_sJ _ _ _ _).trans ?_) | (subst_vars; with_reducible refine (shp_rI _ _ _).trans ?_) | (subst_vars; with_reducible refine shi ?_ ?_) | (subst_vars; with_reducible refine shb (fun _ _ => ?_)))
theorem v_X6_advance (S : HSt) (_o0 : Nat) (sc1 : Nat) (a2 : Int32) : Fr [(36, 0), (36, 1), (36, 2), (36, 3), (36, 4), (36, 5), (36, 6)] S (f_X6_advance S _o0 sc1 a2) := by
  unfold f_X6_advance
  repeat' (first | with_reducible exact Fr.refl _ _ | with_reducible refine Fr.l1 (fun _ _ => ?_) | with_reducible refine Fr.ite ?_ ?_ | with_reducible refine Fr.sE (by assumption) (by first | decide | simp only [List.mem_cons, List.not_mem_nil, or_false, true_or, or_true, eq_self_iff_true]) ?_ | with_reducible refine Fr.jE (by assumption) ?_ | with_reducible refine Fr.rE (by assumption) (by first | decide | simp only [List.mem_cons, List.not_mem_nil, or_false, true_or, or_true, eq_self_iff_true]) ?_ | with_reducible refine Fr.iE (by assumption) ?_ ?_ | with_reducible refine Fr.tr (w_X1_advance _ _ _ _ _ _ _ _ (by assumption)) (by first | decide | simp only [List.mem_cons, List.not_mem_nil, or_false, forall_eq_or_imp, forall_eq, true_or, or_true, and_self, eq_self_iff_true]) ?_)
theorem w_X6_advance (S : HSt) (_o0 : Nat) (sc1 : Nat) (a2 : Int32) (r : HSt) (e : f_X6_advance S _o0 sc1 a2 = r) : Fr [(36, 0), (36, 1), (36, 2), (36, 3), (36, 4), (36, 5), (36, 6)] S r := by
  rw [← e]
  exact v_X6_advance S _o0 sc1 a2
noncomputable def L_X6_weighBoth_2 (sc1 : Nat) : Nat → HSt → Int32 → Int32 → Int32 × Int32 × HSt
  | 0, S, v2, v3 => (v2, v3, S)
  | n + 1, S, v2, v3 =>
    if (1 : Int32) < v3 then ((pr (v2) (pr (v3) (S)))) else (bd (f_X9_aim S 37 sc1 36 v3 v2) fun r1002 => bd ((if (gI r1002 37 2) ≤ (gI r1002 35 9) then r1002 else (bd ((sI r1002 35 8 (((2 : Int32) * (gI r1002 36 4)) + v3))) fun S1004 => bd ((sI S1004 35 9 (gI S1004 37 2))) fun S1005 => bd ((sI S1005 35 10 (gI S1005 37 3))) fun S1006 => S1006))) fun S1007 => L_X6_weighBoth_2 sc1 n S1007 v2 (v3 + (1 : Int32)))
def T_X6_weighBoth_2 (sc1 : Nat) : Nat → HSt → Int32 → Int32 → Prop
  | 0, _, _, _ => False
  | n + 1, S, v2, v3 => ((¬ (1 : Int32) < v3) → p_X9_aim S 37 sc1 36 v3 v2) ∧ ((¬ (1 : Int32) < v3) → ∀ r1002, f_X9_aim S 37 sc1 36 v3 v2 = r1002 → ∀ S1007 : HSt, (if (gI r1002 37 2) ≤ (gI r1002 35 9) then r1002 else (bd ((sI r1002 35 8 (((2 : Int32) * (gI r1002 36 4)) + v3))) fun S1004 => bd ((sI S1004 35 9 (gI S1004 37 2))) fun S1005 => bd ((sI S1005 35 10 (gI S1005 37 3))) fun S1006 => S1006)) = S1007 → T_X6_weighBoth_2 sc1 n S1007 v2 (v3 + (1 : Int32)))
theorem qL_X6_weighBoth_2 (sc1 : Nat) : ∀ (n : Nat) (S : HSt) (v2 : Int32) (v3 : Int32), shp (L_X6_weighBoth_2 sc1 n S v2 v3).2.2 = shp S := by
  intro n
  induction n with
  | zero => intros; rfl
  | succ n ih =>
    intro S v2 v3
    unfold L_X6_weighBoth_2
    repeat' (first | with_reducible refine shpr2 ?_ | with_reducible rfl | with_reducible refine (ih _ _ _).trans ?_ | with_reducible refine (q_X9_aim _ _ _ _ _ _).trans ?_ | with_reducible refine (shp_sI _ _ _ _).trans ?_ | with_reducible refine (shp_sJ _ _ _ _).trans ?_ | with_reducible refine (shp_rI _ _ _).trans ?_ | with_reducible refine shi ?_ ?_ | with_reducible refine shb (fun _ _ => ?_) | with_reducible refine shiP (fun q : Int32 × Int32 × HSt => q.2.2) ?_ ?_ | with_reducible refine shbP (fun q : Int32 × Int32 × HSt => q.2.2) (fun _ _ => ?_) | (subst_vars; with_reducible rfl) | (subst_vars; with_reducible refine (ih _ _ _).trans ?_) | (subst_vars; with_reducible refine (q_X9_aim _ _ _ _ _ _).trans ?_) | (subst_vars; with_reducible refine (shp_sI _ _ _ _).trans ?_) | (subst_vars; with_reducible refine (shp_sJ _ _ _ _).trans ?_) | (subst_vars; with_reducible refine (shp_rI _ _ _).trans ?_) | (subst_vars; with_reducible refine shi ?_ ?_) | (subst_vars; with_reducible refine shb (fun _ _ => ?_)))
theorem vL_X6_weighBoth_2 (sc1 : Nat) : ∀ (n : Nat) (S : HSt) (v2 : Int32) (v3 : Int32), Fr [(35, 10), (35, 8), (35, 9), (37, 0), (37, 1), (37, 10), (37, 2), (37, 3), (37, 4), (37, 5), (37, 6), (37, 7), (37, 8), (37, 9)] S (L_X6_weighBoth_2 sc1 n S v2 v3).2.2 := by
  intro n
  induction n with
  | zero => intros; exact Fr.refl _ _
  | succ n ih =>
    intro S v2 v3
    unfold L_X6_weighBoth_2
    repeat' (first | with_reducible refine frpr2 ?_ | with_reducible exact Fr.refl _ _ | with_reducible refine Fr.lP (fun q : Int32 × Int32 × HSt => q.2.2) (fun _ _ => ?_) | with_reducible refine Fr.iteP (fun q : Int32 × Int32 × HSt => q.2.2) ?_ ?_ | with_reducible refine Fr.l1 (fun _ _ => ?_) | with_reducible refine Fr.ite ?_ ?_ | with_reducible refine Fr.sE (by assumption) (by first | decide | simp only [List.mem_cons, List.not_mem_nil, or_false, true_or, or_true, eq_self_iff_true]) ?_ | with_reducible refine Fr.jE (by assumption) ?_ | with_reducible refine Fr.rE (by assumption) (by first | decide | simp only [List.mem_cons, List.not_mem_nil, or_false, true_or, or_true, eq_self_iff_true]) ?_ | with_reducible refine Fr.iE (by assumption) ?_ ?_ | with_reducible refine Fr.tr (ih _ _ _) (by first | decide | simp only [List.mem_cons, List.not_mem_nil, or_false, forall_eq_or_imp, forall_eq, true_or, or_true, and_self, eq_self_iff_true]) ?_ | with_reducible refine Fr.tr (w_X9_aim _ _ _ _ _ _ _ (by assumption)) (by first | decide | simp only [List.mem_cons, List.not_mem_nil, or_false, forall_eq_or_imp, forall_eq, true_or, or_true, and_self, eq_self_iff_true]) ?_)
theorem wL_X6_weighBoth_2 (sc1 : Nat) (n : Nat) (S : HSt) (v2 : Int32) (v3 : Int32) (r : Int32 × Int32 × HSt) (e : L_X6_weighBoth_2 sc1 n S v2 v3 = r) : Fr [(35, 10), (35, 8), (35, 9), (37, 0), (37, 1), (37, 10), (37, 2), (37, 3), (37, 4), (37, 5), (37, 6), (37, 7), (37, 8), (37, 9)] S r.2.2 := by
  rw [← e]
  exact vL_X6_weighBoth_2 sc1 n S v2 v3
set_option maxRecDepth 100000 in
theorem l_X6_weighBoth_2 {p : Program} {l : Launch} {e : Env} {s : State} {m : MethodId} {args : Array Value} {below : List Frame} {meth : Method} {c : Code} {G : GG} {Q : State → Prop} (hC : ACx p s m args meth c cX6_weighBoth RX6 4 none) (hSt : St G s) {sc1 : Nat} (hsc1 : (sc1, 7, 0) ∈ cKT) : ∀ (n : Nat) (S : HSt) (v2 : Int32) (v3 : Int32), CS S → T_X6_weighBoth_2 sc1 n S v2 v3 → AW p l e (rmD 4 0 0) s m args below meth c G 4 Q (L_X6_weighBoth_2 sc1 n S v2 v3).2.2 0 0 78 [(0, .ref 35), (1, .ref sc1), (2, .int (L_X6_weighBoth_2 sc1 n S v2 v3).1), (3, .int (L_X6_weighBoth_2 sc1 n S v2 v3).2.1)] [] → AW p l e (rmD 4 0 0) s m args below meth c G 4 Q S 0 0 2 [(0, .ref 35), (1, .ref sc1), (2, .int v2), (3, .int v3)] [] := by
  intro n
  induction n with
  | zero => intro S v2 v3 _ hT; exact hT.elim
  | succ n ih =>
    intro S v2 v3 hM hT hk
    unfold T_X6_weighBoth_2 at hT
    obtain ⟨h0, h1⟩ := hT
    refine aw_iload_n hC 3 dX6_weighBoth_2 rfl rfl ?_
    refine aw_iconst (v := 1) hC dX6_weighBoth_3 (by decide) ?_
    refine aw_icmp_gt hC 78 dX6_weighBoth_4 (by decide) (fun c1001 => ?_) (fun c1001 => ?_)
    · refine aw_sub [0, 1, 2, 3] rfl ?_
      have E : L_X6_weighBoth_2 sc1 (n + 1) S v2 v3 = _ := (if_pos c1001).trans (rfl)
      rw [E] at hk
      exact hk
    · refine aw_aload_n hC 0 dX6_weighBoth_7 rfl rfl ?_
      refine aw_getP (b := 37) hC hSt 1 (cs_lt 35 6 0 (by decide) hM) (cs_k 35 6 0 (by decide) hM) rfl (by decide) w_495 rfl (cs_p 35 1 37 (by decide) hM) dX6_weighBoth_8 ?_
      refine aw_aload_n hC 1 dX6_weighBoth_11 rfl rfl ?_
      refine aw_aload_n hC 0 dX6_weighBoth_12 rfl rfl ?_
      refine aw_getP (b := 36) hC hSt 0 (cs_lt 35 6 0 (by decide) hM) (cs_k 35 6 0 (by decide) hM) rfl (by decide) w_493 rfl (cs_p 35 0 36 (by decide) hM) dX6_weighBoth_13 ?_
      refine aw_iload_n hC 3 dX6_weighBoth_16 rfl rfl ?_
      refine aw_iload_n hC 2 dX6_weighBoth_17 rfl rfl ?_
      refine aw_cV4v hC hSt (t_X9_aim G l hM _ _ _ _ _ (by decide) hsc1 (by decide) (h0 c1001)) w_511 w_530 w_531 w_532 w_140 rfl rfl (by decide +kernel) ⟨Nat.le_of_ble_eq_true rfl, Nat.le_of_ble_eq_true rfl⟩ (cs_lt 37 9 0 (by decide) hM) (cs_k 37 9 0 (by decide) hM) rfl (Nat.le_of_ble_eq_true rfl) dX6_weighBoth_18 ⟨Nat.zero_le _, Nat.zero_le _⟩ ?_
      generalize er1002 : f_X9_aim S 37 sc1 36 v3 v2 = r1002
      have hM : CS r1002 := CS.of (by rw [← er1002]; exact q_X9_aim _ _ _ _ _ _) hM
      refine aw_aload_n hC 0 dX6_weighBoth_21 rfl rfl ?_
      refine aw_getP (b := 37) hC hSt 1 (cs_lt 35 6 0 (by decide) hM) (cs_k 35 6 0 (by decide) hM) rfl (by decide) w_495 rfl (cs_p 35 1 37 (by decide) hM) dX6_weighBoth_22 ?_
      refine aw_getI hC hSt 2 (cs_lt 37 9 0 (by decide) hM) (cs_k 37 9 0 (by decide) hM) rfl (by decide) w_528 rfl dX6_weighBoth_25 ?_
      refine aw_aload_n hC 0 dX6_weighBoth_28 rfl rfl ?_
      refine aw_getI hC hSt 9 (cs_lt 35 6 0 (by decide) hM) (cs_k 35 6 0 (by decide) hM) rfl (by decide) w_569 rfl dX6_weighBoth_29 ?_
      refine aw_cut (S' := (if (gI r1002 37 2) ≤ (gI r1002 35 9) then r1002 else (bd ((sI r1002 35 8 (((2 : Int32) * (gI r1002 36 4)) + v3))) fun S1004 => bd ((sI S1004 35 9 (gI S1004 37 2))) fun S1005 => bd ((sI S1005 35 10 (gI S1005 37 3))) fun S1006 => S1006))) (pc' := 72) (lv' := [(0, .ref 35), (1, .ref sc1), (2, .int v2), (3, .int v3)]) (st' := []) ?_ (fun Jc1003 => ?_)
      · generalize eS1007 : (if (gI r1002 37 2) ≤ (gI r1002 35 9) then r1002 else (bd ((sI r1002 35 8 (((2 : Int32) * (gI r1002 36 4)) + v3))) fun S1004 => bd ((sI S1004 35 9 (gI S1004 37 2))) fun S1005 => bd ((sI S1005 35 10 (gI S1005 37 3))) fun S1006 => S1006)) = S1007
        have hM : CS S1007 := CS.of (by rw [← eS1007]; repeat' (first | with_reducible rfl | with_reducible refine (q_X9_aim _ _ _ _ _ _).trans ?_ | with_reducible refine (shp_sI _ _ _ _).trans ?_ | with_reducible refine (shp_sJ _ _ _ _).trans ?_ | with_reducible refine (shp_rI _ _ _).trans ?_ | with_reducible refine shi ?_ ?_ | with_reducible refine shb (fun _ _ => ?_) | (subst_vars; with_reducible rfl) | (subst_vars; with_reducible refine (q_X9_aim _ _ _ _ _ _).trans ?_) | (subst_vars; with_reducible refine (shp_sI _ _ _ _).trans ?_) | (subst_vars; with_reducible refine (shp_sJ _ _ _ _).trans ?_) | (subst_vars; with_reducible refine (shp_rI _ _ _).trans ?_) | (subst_vars; with_reducible refine shi ?_ ?_) | (subst_vars; with_reducible refine shb (fun _ _ => ?_)))) hM
        refine aw_iinc (v := (v3 + (1 : Int32))) hC 3 [(3, .int _), (0, .ref 35), (1, .ref sc1), (2, .int _)] dX6_weighBoth_72 rfl rfl (by decide) rfl ?_
        refine aw_goto hC 2 dX6_weighBoth_75 (by decide) ?_
        refine aw_sub [1, 2, 3, 0] rfl ?_
        have hTn := (h1 c1001 r1002 er1002 S1007 eS1007)
        have hMn : CS S1007 := hM
        have E : L_X6_weighBoth_2 sc1 (n + 1) S v2 v3 = _ := (if_neg c1001).trans ((bd_eq er1002).trans ((bd_eq eS1007).trans (rfl)))
        rw [E] at hk
        exact ih _ _ _ hMn hTn hk
      · refine aw_icmp_le hC 72 dX6_weighBoth_32 (by decide) (fun c1003 => ?_) (fun c1003 => ?_)
        · simp only [bd_def, if_pos c1003] at Jc1003 ⊢
          exact Jc1003
        · refine aw_aload_n hC 0 dX6_weighBoth_35 rfl rfl ?_
          refine aw_iconst (v := 2) hC dX6_weighBoth_36 (by decide) ?_
          refine aw_aload_n hC 0 dX6_weighBoth_37 rfl rfl ?_
          refine aw_getP (b := 36) hC hSt 0 (cs_lt 35 6 0 (by decide) hM) (cs_k 35 6 0 (by decide) hM) rfl (by decide) w_493 rfl (cs_p 35 0 36 (by decide) hM) dX6_weighBoth_38 ?_
          refine aw_getI hC hSt 4 (cs_lt 36 1 0 (by decide) hM) (cs_k 36 1 0 (by decide) hM) rfl (by decide) w_527 rfl dX6_weighBoth_41 ?_
          refine aw_imul hC dX6_weighBoth_44 ?_
          refine aw_iload_n hC 3 dX6_weighBoth_45 rfl rfl ?_
          refine aw_iadd hC dX6_weighBoth_46 ?_
          refine aw_putI hC hSt 8 (cs_lt 35 6 0 (by decide) hM) (cs_k 35 6 0 (by decide) hM) rfl (by decide) w_570 rfl rfl rfl rfl dX6_weighBoth_47 ?_
          generalize eS1004 : (sI r1002 35 8 (((2 : Int32) * (gI r1002 36 4)) + v3)) = S1004
          have hM : CS S1004 := CS.of (by rw [← eS1004]; exact shp_sI _ _ _ _) hM
          refine aw_aload_n hC 0 dX6_weighBoth_50 rfl rfl ?_
          refine aw_aload_n hC 0 dX6_weighBoth_51 rfl rfl ?_
          refine aw_getP (b := 37) hC hSt 1 (cs_lt 35 6 0 (by decide) hM) (cs_k 35 6 0 (by decide) hM) rfl (by decide) w_495 rfl (cs_p 35 1 37 (by decide) hM) dX6_weighBoth_52 ?_
          refine aw_getI hC hSt 2 (cs_lt 37 9 0 (by decide) hM) (cs_k 37 9 0 (by decide) hM) rfl (by decide) w_528 rfl dX6_weighBoth_55 ?_
          refine aw_putI hC hSt 9 (cs_lt 35 6 0 (by decide) hM) (cs_k 35 6 0 (by decide) hM) rfl (by decide) w_569 rfl rfl rfl rfl dX6_weighBoth_58 ?_
          generalize eS1005 : (sI S1004 35 9 (gI S1004 37 2)) = S1005
          have hM : CS S1005 := CS.of (by rw [← eS1005]; exact shp_sI _ _ _ _) hM
          refine aw_aload_n hC 0 dX6_weighBoth_61 rfl rfl ?_
          refine aw_aload_n hC 0 dX6_weighBoth_62 rfl rfl ?_
          refine aw_getP (b := 37) hC hSt 1 (cs_lt 35 6 0 (by decide) hM) (cs_k 35 6 0 (by decide) hM) rfl (by decide) w_495 rfl (cs_p 35 1 37 (by decide) hM) dX6_weighBoth_63 ?_
          refine aw_getI hC hSt 3 (cs_lt 37 9 0 (by decide) hM) (cs_k 37 9 0 (by decide) hM) rfl (by decide) w_529 rfl dX6_weighBoth_66 ?_
          refine aw_putI hC hSt 10 (cs_lt 35 6 0 (by decide) hM) (cs_k 35 6 0 (by decide) hM) rfl (by decide) w_571 rfl rfl rfl rfl dX6_weighBoth_69 ?_
          generalize eS1006 : (sI S1005 35 10 (gI S1005 37 3)) = S1006
          have hM : CS S1006 := CS.of (by rw [← eS1006]; exact shp_sI _ _ _ _) hM
          subst eS1006
          subst eS1005
          subst eS1004
          simp only [bd_def, if_neg c1003] at Jc1003 ⊢
          exact Jc1003
noncomputable def f_X6_weighBoth (S : HSt) (_o0 : Nat) (sc1 : Nat) (a2 : Int32) : HSt := bd (L_X6_weighBoth_2 sc1 1000 S a2 (0 : Int32)) fun r1 => r1.2.2
def p_X6_weighBoth (S : HSt) (_o0 : Nat) (sc1 : Nat) (a2 : Int32) : Prop := (T_X6_weighBoth_2 sc1 1000 S a2 (0 : Int32))
set_option maxRecDepth 100000 in
theorem t_X6_weighBoth (G : GG) (l : Launch) {S : HSt} (hM : CS S) (sc1 : Nat) (a2 : Int32) (hsc1 : (sc1, 7, 0) ∈ cKT) (hp : p_X6_weighBoth S 35 sc1 a2) : AM G l yX6_weighBoth cX6_weighBoth 4 none (rmD 4 0 0) 0 0 [.ref 35, .ref sc1, .int a2] S (FP none (f_X6_weighBoth S 35 sc1 a2)) := by
  have h0 := hp
  unfold p_X6_weighBoth at h0
  refine AM.mk (by decide) (Nat.le_of_ble_eq_true rfl) ?_
  intro p e s m below meth c hC hSt _
  refine aw_iconst (v := 0) hC dX6_weighBoth_0 (by decide) ?_
  refine aw_istore_n hC [(3, .int _), (0, .ref 35), (1, .ref sc1), (2, .int _)] dX6_weighBoth_1 rfl (by decide) rfl ?_
  refine aw_sub [1, 2, 3, 0] rfl ?_
  refine l_X6_weighBoth_2 hC hSt hsc1 1000 _ _ _ hM (h0) ?_
  generalize er1 : L_X6_weighBoth_2 sc1 1000 S a2 (0 : Int32) = r1
  have hM : CS r1.2.2 := CS.of (by rw [← er1]; exact qL_X6_weighBoth_2 sc1 _ _ _ _) hM
  refine aw_vret hC dX6_weighBoth_78 (Nat.le_refl _) (Nat.le_refl _) ?_
  exact FP.qV ((bd_eq er1).trans (rfl))
theorem q_X6_weighBoth (S : HSt) (_o0 : Nat) (sc1 : Nat) (a2 : Int32) : shp (f_X6_weighBoth S _o0 sc1 a2) = shp S := by
  unfold f_X6_weighBoth
  repeat' (first | with_reducible rfl | with_reducible refine (q_X9_aim _ _ _ _ _ _).trans ?_ | with_reducible refine (qL_X6_weighBoth_2 sc1 _ _ _ _).trans ?_ | with_reducible refine (shp_sI _ _ _ _).trans ?_ | with_reducible refine (shp_sJ _ _ _ _).trans ?_ | with_reducible refine (shp_rI _ _ _).trans ?_ | with_reducible refine shi ?_ ?_ | with_reducible refine shb (fun _ _ => ?_) | (subst_vars; with_reducible rfl) | (subst_vars; with_reducible refine (q_X9_aim _ _ _ _ _ _).trans ?_) | (subst_vars; with_reducible refine (qL_X6_weighBoth_2 sc1 _ _ _ _).trans ?_) | (subst_vars; with_reducible refine (shp_sI _ _ _ _).trans ?_) | (subst_vars; with_reducible refine (shp_sJ _ _ _ _).trans ?_) | (subst_vars; with_reducible refine (shp_rI _ _ _).trans ?_) | (subst_vars; with_reducible refine shi ?_ ?_) | (subst_vars; with_reducible refine shb (fun _ _ => ?_)))
theorem v_X6_weighBoth (S : HSt) (_o0 : Nat) (sc1 : Nat) (a2 : Int32) : Fr [(35, 10), (35, 8), (35, 9), (37, 0), (37, 1), (37, 10), (37, 2), (37, 3), (37, 4), (37, 5), (37, 6), (37, 7), (37, 8), (37, 9)] S (f_X6_weighBoth S _o0 sc1 a2) := by
  unfold f_X6_weighBoth
  repeat' (first | with_reducible exact Fr.refl _ _ | with_reducible refine Fr.l1 (fun _ _ => ?_) | with_reducible refine Fr.ite ?_ ?_ | with_reducible refine Fr.sE (by assumption) (by first | decide | simp only [List.mem_cons, List.not_mem_nil, or_false, true_or, or_true, eq_self_iff_true]) ?_ | with_reducible refine Fr.jE (by assumption) ?_ | with_reducible refine Fr.rE (by assumption) (by first | decide | simp only [List.mem_cons, List.not_mem_nil, or_false, true_or, or_true, eq_self_iff_true]) ?_ | with_reducible refine Fr.iE (by assumption) ?_ ?_ | with_reducible refine Fr.tr (w_X9_aim _ _ _ _ _ _ _ (by assumption)) (by first | decide | simp only [List.mem_cons, List.not_mem_nil, or_false, forall_eq_or_imp, forall_eq, true_or, or_true, and_self, eq_self_iff_true]) ?_ | with_reducible refine Fr.tr (wL_X6_weighBoth_2 sc1 _ _ _ _ _ (by assumption)) (by first | decide | simp only [List.mem_cons, List.not_mem_nil, or_false, forall_eq_or_imp, forall_eq, true_or, or_true, and_self, eq_self_iff_true]) ?_)
theorem w_X6_weighBoth (S : HSt) (_o0 : Nat) (sc1 : Nat) (a2 : Int32) (r : HSt) (e : f_X6_weighBoth S _o0 sc1 a2 = r) : Fr [(35, 10), (35, 8), (35, 9), (37, 0), (37, 1), (37, 10), (37, 2), (37, 3), (37, 4), (37, 5), (37, 6), (37, 7), (37, 8), (37, 9)] S r := by
  rw [← e]
  exact v_X6_weighBoth S _o0 sc1 a2
noncomputable def L_X6_seekBest_76 (sc1 : Nat) : Nat → HSt → Int32 → Int32 → Int32 → Int32 → Int32 → Int32 × Int32 × Int32 × Int32 × Int32 × HSt
  | 0, S, v2, v3, v4, v5, v6 => (v2, v3, v4, v5, v6, S)
  | n + 1, S, v2, v3, v4, v5, v6 =>
    if v5 ≤ v6 then ((pr (v2) (pr (v3) (pr (v4) (pr (v5) (pr (v6) (S))))))) else (if (f_X1_hasFallen S 36) = 0 then (bd (f_X6_advance S 35 sc1 v4) fun r2012 => bd (f_X6_weighBoth r2012 35 sc1 v2) fun r2013 => L_X6_seekBest_76 sc1 n r2013 v2 v3 v4 v5 (v6 + (1 : Int32))) else ((pr (v2) (pr (v3) (pr (v4) (pr (v5) (pr (v6) (S))))))))
def T_X6_seekBest_76 (sc1 : Nat) : Nat → HSt → Int32 → Int32 → Int32 → Int32 → Int32 → Prop
  | 0, _, _, _, _, _, _ => False
  | n + 1, S, v2, v3, v4, v5, v6 => ((¬ v5 ≤ v6) → ((f_X1_hasFallen S 36) = 0) → p_X6_advance S 35 sc1 v4) ∧ ((¬ v5 ≤ v6) → ((f_X1_hasFallen S 36) = 0) → ∀ r2012, f_X6_advance S 35 sc1 v4 = r2012 → p_X6_weighBoth r2012 35 sc1 v2) ∧ ((¬ v5 ≤ v6) → ((f_X1_hasFallen S 36) = 0) → ∀ r2012, f_X6_advance S 35 sc1 v4 = r2012 → ∀ r2013, f_X6_weighBoth r2012 35 sc1 v2 = r2013 → T_X6_seekBest_76 sc1 n r2013 v2 v3 v4 v5 (v6 + (1 : Int32)))
theorem qL_X6_seekBest_76 (sc1 : Nat) : ∀ (n : Nat) (S : HSt) (v2 : Int32) (v3 : Int32) (v4 : Int32) (v5 : Int32) (v6 : Int32), shp (L_X6_seekBest_76 sc1 n S v2 v3 v4 v5 v6).2.2.2.2.2 = shp S := by
  intro n
  induction n with
  | zero => intros; rfl
  | succ n ih =>
    intro S v2 v3 v4 v5 v6
    unfold L_X6_seekBest_76
    repeat' (first | with_reducible refine shpr5 ?_ | with_reducible rfl | with_reducible refine (ih _ _ _ _ _ _).trans ?_ | with_reducible refine (q_X1_begin _ _).trans ?_ | with_reducible refine (q_X6_advance _ _ _ _).trans ?_ | with_reducible refine (q_X6_weighBoth _ _ _ _).trans ?_ | with_reducible refine (shp_sI _ _ _ _).trans ?_ | with_reducible refine (shp_sJ _ _ _ _).trans ?_ | with_reducible refine (shp_rI _ _ _).trans ?_ | with_reducible refine shi ?_ ?_ | with_reducible refine shb (fun _ _ => ?_) | with_reducible refine shiP (fun q : Int32 × Int32 × Int32 × Int32 × Int32 × HSt => q.2.2.2.2.2) ?_ ?_ | with_reducible refine shbP (fun q : Int32 × Int32 × Int32 × Int32 × Int32 × HSt => q.2.2.2.2.2) (fun _ _ => ?_) | (subst_vars; with_reducible rfl) | (subst_vars; with_reducible refine (ih _ _ _ _ _ _).trans ?_) | (subst_vars; with_reducible refine (q_X1_begin _ _).trans ?_) | (subst_vars; with_reducible refine (q_X6_advance _ _ _ _).trans ?_) | (subst_vars; with_reducible refine (q_X6_weighBoth _ _ _ _).trans ?_) | (subst_vars; with_reducible refine (shp_sI _ _ _ _).trans ?_) | (subst_vars; with_reducible refine (shp_sJ _ _ _ _).trans ?_) | (subst_vars; with_reducible refine (shp_rI _ _ _).trans ?_) | (subst_vars; with_reducible refine shi ?_ ?_) | (subst_vars; with_reducible refine shb (fun _ _ => ?_)))
theorem vL_X6_seekBest_76 (sc1 : Nat) : ∀ (n : Nat) (S : HSt) (v2 : Int32) (v3 : Int32) (v4 : Int32) (v5 : Int32) (v6 : Int32), Fr [(35, 10), (35, 8), (35, 9), (36, 0), (36, 1), (36, 2), (36, 3), (36, 4), (36, 5), (36, 6), (37, 0), (37, 1), (37, 10), (37, 2), (37, 3), (37, 4), (37, 5), (37, 6), (37, 7), (37, 8), (37, 9)] S (L_X6_seekBest_76 sc1 n S v2 v3 v4 v5 v6).2.2.2.2.2 := by
  intro n
  induction n with
  | zero => intros; exact Fr.refl _ _
  | succ n ih =>
    intro S v2 v3 v4 v5 v6
    unfold L_X6_seekBest_76
    repeat' (first | with_reducible refine frpr5 ?_ | with_reducible exact Fr.refl _ _ | with_reducible refine Fr.lP (fun q : Int32 × Int32 × Int32 × Int32 × Int32 × HSt => q.2.2.2.2.2) (fun _ _ => ?_) | with_reducible refine Fr.iteP (fun q : Int32 × Int32 × Int32 × Int32 × Int32 × HSt => q.2.2.2.2.2) ?_ ?_ | with_reducible refine Fr.l1 (fun _ _ => ?_) | with_reducible refine Fr.ite ?_ ?_ | with_reducible refine Fr.sE (by assumption) (by first | decide | simp only [List.mem_cons, List.not_mem_nil, or_false, true_or, or_true, eq_self_iff_true]) ?_ | with_reducible refine Fr.jE (by assumption) ?_ | with_reducible refine Fr.rE (by assumption) (by first | decide | simp only [List.mem_cons, List.not_mem_nil, or_false, true_or, or_true, eq_self_iff_true]) ?_ | with_reducible refine Fr.iE (by assumption) ?_ ?_ | with_reducible refine Fr.tr (ih _ _ _ _ _ _) (by first | decide | simp only [List.mem_cons, List.not_mem_nil, or_false, forall_eq_or_imp, forall_eq, true_or, or_true, and_self, eq_self_iff_true]) ?_ | with_reducible refine Fr.tr (w_X1_begin _ _ _ (by assumption)) (by first | decide | simp only [List.mem_cons, List.not_mem_nil, or_false, forall_eq_or_imp, forall_eq, true_or, or_true, and_self, eq_self_iff_true]) ?_ | with_reducible refine Fr.tr (w_X6_advance _ _ _ _ _ (by assumption)) (by first | decide | simp only [List.mem_cons, List.not_mem_nil, or_false, forall_eq_or_imp, forall_eq, true_or, or_true, and_self, eq_self_iff_true]) ?_ | with_reducible refine Fr.tr (w_X6_weighBoth _ _ _ _ _ (by assumption)) (by first | decide | simp only [List.mem_cons, List.not_mem_nil, or_false, forall_eq_or_imp, forall_eq, true_or, or_true, and_self, eq_self_iff_true]) ?_)
theorem wL_X6_seekBest_76 (sc1 : Nat) (n : Nat) (S : HSt) (v2 : Int32) (v3 : Int32) (v4 : Int32) (v5 : Int32) (v6 : Int32) (r : Int32 × Int32 × Int32 × Int32 × Int32 × HSt) (e : L_X6_seekBest_76 sc1 n S v2 v3 v4 v5 v6 = r) : Fr [(35, 10), (35, 8), (35, 9), (36, 0), (36, 1), (36, 2), (36, 3), (36, 4), (36, 5), (36, 6), (37, 0), (37, 1), (37, 10), (37, 2), (37, 3), (37, 4), (37, 5), (37, 6), (37, 7), (37, 8), (37, 9)] S r.2.2.2.2.2 := by
  rw [← e]
  exact vL_X6_seekBest_76 sc1 n S v2 v3 v4 v5 v6
set_option maxRecDepth 100000 in
theorem l_X6_seekBest_76 {p : Program} {l : Launch} {e : Env} {s : State} {m : MethodId} {args : Array Value} {below : List Frame} {meth : Method} {c : Code} {G : GG} {Q : State → Prop} (hC : ACx p s m args meth c cX6_seekBest RX6 7 none) (hSt : St G s) {sc1 : Nat} (hsc1 : (sc1, 7, 0) ∈ cKT) : ∀ (n : Nat) (S : HSt) (v2 : Int32) (v3 : Int32) (v4 : Int32) (v5 : Int32) (v6 : Int32), CS S → T_X6_seekBest_76 sc1 n S v2 v3 v4 v5 v6 → AW p l e (rmD 5 0 0) s m args below meth c G 7 Q (L_X6_seekBest_76 sc1 n S v2 v3 v4 v5 v6).2.2.2.2.2 0 0 112 [(0, .ref 35), (1, .ref sc1), (2, .int (L_X6_seekBest_76 sc1 n S v2 v3 v4 v5 v6).1), (3, .int (L_X6_seekBest_76 sc1 n S v2 v3 v4 v5 v6).2.1), (4, .int (L_X6_seekBest_76 sc1 n S v2 v3 v4 v5 v6).2.2.1), (5, .int (L_X6_seekBest_76 sc1 n S v2 v3 v4 v5 v6).2.2.2.1), (6, .int (L_X6_seekBest_76 sc1 n S v2 v3 v4 v5 v6).2.2.2.2.1)] [] → AW p l e (rmD 5 0 0) s m args below meth c G 7 Q S 0 0 76 [(0, .ref 35), (1, .ref sc1), (2, .int v2), (3, .int v3), (4, .int v4), (5, .int v5), (6, .int v6)] [] := by
  intro n
  induction n with
  | zero => intro S v2 v3 v4 v5 v6 _ hT; exact hT.elim
  | succ n ih =>
    intro S v2 v3 v4 v5 v6 hM hT hk
    unfold T_X6_seekBest_76 at hT
    obtain ⟨h0, h1, h2⟩ := hT
    refine aw_iload hC 6 dX6_seekBest_76 rfl ?_
    refine aw_iload hC 5 dX6_seekBest_78 rfl ?_
    refine aw_icmp_ge hC 112 dX6_seekBest_80 (by decide) (fun c2010 => ?_) (fun c2010 => ?_)
    · refine aw_sub [0, 1, 2, 3, 4, 5, 6] rfl ?_
      have E : L_X6_seekBest_76 sc1 (n + 1) S v2 v3 v4 v5 v6 = _ := (if_pos c2010).trans (rfl)
      rw [E] at hk
      exact hk
    · refine aw_aload_n hC 0 dX6_seekBest_83 rfl rfl ?_
      refine aw_getP (b := 36) hC hSt 0 (cs_lt 35 6 0 (by decide) hM) (cs_k 35 6 0 (by decide) hM) rfl (by decide) w_493 rfl (cs_p 35 0 36 (by decide) hM) dX6_seekBest_84 ?_
      refine aw_cV0r hC hSt (t_X1_hasFallen G l hM _ (by decide)) w_88 w_549 w_204 w_205 w_84 rfl rfl (by decide +kernel) ⟨Nat.le_of_ble_eq_true rfl, Nat.le_of_ble_eq_true rfl⟩ (cs_lt 36 1 0 (by decide) hM) (cs_k 36 1 0 (by decide) hM) rfl (Nat.le_of_ble_eq_true rfl) dX6_seekBest_87 ⟨Nat.zero_le _, Nat.zero_le _⟩ ?_
      refine aw_if_ne hC 112 dX6_seekBest_90 (by decide) (fun c2011 => ?_) (fun c2011 => ?_)
      · refine aw_sub [0, 1, 2, 3, 4, 5, 6] rfl ?_
        have E : L_X6_seekBest_76 sc1 (n + 1) S v2 v3 v4 v5 v6 = _ := (if_neg c2010).trans ((if_neg c2011).trans (rfl))
        rw [E] at hk
        exact hk
      · refine aw_aload_n hC 0 dX6_seekBest_93 rfl rfl ?_
        refine aw_aload_n hC 1 dX6_seekBest_94 rfl rfl ?_
        refine aw_iload hC 4 dX6_seekBest_95 rfl ?_
        refine aw_cV2v hC hSt (t_X6_advance G l hM _ _ hsc1 (h0 c2010 c2011)) w_503 w_550 w_551 w_552 w_540 rfl rfl (by decide +kernel) ⟨Nat.le_of_ble_eq_true rfl, Nat.le_of_ble_eq_true rfl⟩ (cs_lt 35 6 0 (by decide) hM) (cs_k 35 6 0 (by decide) hM) rfl (Nat.le_of_ble_eq_true rfl) dX6_seekBest_97 ⟨Nat.zero_le _, Nat.zero_le _⟩ ?_
        generalize er2012 : f_X6_advance S 35 sc1 v4 = r2012
        have hM : CS r2012 := CS.of (by rw [← er2012]; exact q_X6_advance _ _ _ _) hM
        refine aw_aload_n hC 0 dX6_seekBest_100 rfl rfl ?_
        refine aw_aload_n hC 1 dX6_seekBest_101 rfl rfl ?_
        refine aw_iload_n hC 2 dX6_seekBest_102 rfl rfl ?_
        refine aw_cV2v hC hSt (t_X6_weighBoth G l hM _ _ hsc1 (h1 c2010 c2011 r2012 er2012)) w_572 w_573 w_574 w_575 w_540 rfl rfl (by decide +kernel) ⟨Nat.le_of_ble_eq_true rfl, Nat.le_of_ble_eq_true rfl⟩ (cs_lt 35 6 0 (by decide) hM) (cs_k 35 6 0 (by decide) hM) rfl (Nat.le_of_ble_eq_true rfl) dX6_seekBest_103 ⟨Nat.zero_le _, Nat.zero_le _⟩ ?_
        generalize er2013 : f_X6_weighBoth r2012 35 sc1 v2 = r2013
        have hM : CS r2013 := CS.of (by rw [← er2013]; exact q_X6_weighBoth _ _ _ _) hM
        refine aw_iinc (v := (v6 + (1 : Int32))) hC 6 [(6, .int _), (0, .ref 35), (1, .ref sc1), (2, .int _), (3, .int _), (4, .int _), (5, .int _)] dX6_seekBest_106 rfl rfl (by decide) rfl ?_
        refine aw_goto hC 76 dX6_seekBest_109 (by decide) ?_
        refine aw_sub [1, 2, 3, 4, 5, 6, 0] rfl ?_
        have hTn := (h2 c2010 c2011 r2012 er2012 r2013 er2013)
        have hMn : CS r2013 := hM
        have E : L_X6_seekBest_76 sc1 (n + 1) S v2 v3 v4 v5 v6 = _ := (if_neg c2010).trans ((if_pos c2011).trans ((bd_eq er2012).trans ((bd_eq er2013).trans (rfl))))
        rw [E] at hk
        exact ih _ _ _ _ _ _ hMn hTn hk
noncomputable def L_X6_seekBest_41 (sc1 : Nat) : Nat → HSt → Int32 → Int32 → Int32 → Int32 × Int32 × Int32 × HSt
  | 0, S, v2, v3, v4 => (v2, v3, v4, S)
  | n + 1, S, v2, v3, v4 =>
    if v3 ≤ v4 then ((pr (v2) (pr (v3) (pr (v4) (S))))) else (if (f_X10_isA S (sc1 + 1) v4 (1 : Int32)) = 0 then ((pr (v2) (pr (v3) (pr (v4) (S))))) else (bd ((f_X10_value S (sc1 + 1) (5 : Int32) v4 (1 : Int32))) fun x1009 => bd (L_X6_seekBest_76 sc1 1000 S v2 v3 v4 x1009 (0 : Int32)) fun r1010 => L_X6_seekBest_41 sc1 n r1010.2.2.2.2.2 r1010.1 r1010.2.1 (r1010.2.2.1 + (1 : Int32))))
def T_X6_seekBest_41 (sc1 : Nat) : Nat → HSt → Int32 → Int32 → Int32 → Prop
  | 0, _, _, _, _ => False
  | n + 1, S, v2, v3, v4 => ((¬ v3 ≤ v4) → p_X10_isA S (sc1 + 1) v4 (1 : Int32)) ∧ ((¬ v3 ≤ v4) → (¬ (f_X10_isA S (sc1 + 1) v4 (1 : Int32)) = 0) → p_X10_value S (sc1 + 1) (5 : Int32) v4 (1 : Int32)) ∧ ((¬ v3 ≤ v4) → (¬ (f_X10_isA S (sc1 + 1) v4 (1 : Int32)) = 0) → ∀ x1009 : Int32, (f_X10_value S (sc1 + 1) (5 : Int32) v4 (1 : Int32)) = x1009 → T_X6_seekBest_76 sc1 1000 S v2 v3 v4 x1009 (0 : Int32)) ∧ ((¬ v3 ≤ v4) → (¬ (f_X10_isA S (sc1 + 1) v4 (1 : Int32)) = 0) → ∀ x1009 : Int32, (f_X10_value S (sc1 + 1) (5 : Int32) v4 (1 : Int32)) = x1009 → ∀ r1010, L_X6_seekBest_76 sc1 1000 S v2 v3 v4 x1009 (0 : Int32) = r1010 → T_X6_seekBest_41 sc1 n r1010.2.2.2.2.2 r1010.1 r1010.2.1 (r1010.2.2.1 + (1 : Int32)))
theorem qL_X6_seekBest_41 (sc1 : Nat) : ∀ (n : Nat) (S : HSt) (v2 : Int32) (v3 : Int32) (v4 : Int32), shp (L_X6_seekBest_41 sc1 n S v2 v3 v4).2.2.2 = shp S := by
  intro n
  induction n with
  | zero => intros; rfl
  | succ n ih =>
    intro S v2 v3 v4
    unfold L_X6_seekBest_41
    repeat' (first | with_reducible refine shpr3 ?_ | with_reducible rfl | with_reducible refine (ih _ _ _ _).trans ?_ | with_reducible refine (q_X1_begin _ _).trans ?_ | with_reducible refine (q_X6_advance _ _ _ _).trans ?_ | with_reducible refine (q_X6_weighBoth _ _ _ _).trans ?_ | with_reducible refine (qL_X6_seekBest_76 sc1 _ _ _ _ _ _ _).trans ?_ | with_reducible refine (shp_sI _ _ _ _).trans ?_ | with_reducible refine (shp_sJ _ _ _ _).trans ?_ | with_reducible refine (shp_rI _ _ _).trans ?_ | with_reducible refine shi ?_ ?_ | with_reducible refine shb (fun _ _ => ?_) | with_reducible refine shiP (fun q : Int32 × Int32 × Int32 × HSt => q.2.2.2) ?_ ?_ | with_reducible refine shbP (fun q : Int32 × Int32 × Int32 × HSt => q.2.2.2) (fun _ _ => ?_) | (subst_vars; with_reducible rfl) | (subst_vars; with_reducible refine (ih _ _ _ _).trans ?_) | (subst_vars; with_reducible refine (q_X1_begin _ _).trans ?_) | (subst_vars; with_reducible refine (q_X6_advance _ _ _ _).trans ?_) | (subst_vars; with_reducible refine (q_X6_weighBoth _ _ _ _).trans ?_) | (subst_vars; with_reducible refine (qL_X6_seekBest_76 sc1 _ _ _ _ _ _ _).trans ?_) | (subst_vars; with_reducible refine (shp_sI _ _ _ _).trans ?_) | (subst_vars; with_reducible refine (shp_sJ _ _ _ _).trans ?_) | (subst_vars; with_reducible refine (shp_rI _ _ _).trans ?_) | (subst_vars; with_reducible refine shi ?_ ?_) | (subst_vars; with_reducible refine shb (fun _ _ => ?_)))
theorem vL_X6_seekBest_41 (sc1 : Nat) : ∀ (n : Nat) (S : HSt) (v2 : Int32) (v3 : Int32) (v4 : Int32), Fr [(35, 10), (35, 8), (35, 9), (36, 0), (36, 1), (36, 2), (36, 3), (36, 4), (36, 5), (36, 6), (37, 0), (37, 1), (37, 10), (37, 2), (37, 3), (37, 4), (37, 5), (37, 6), (37, 7), (37, 8), (37, 9)] S (L_X6_seekBest_41 sc1 n S v2 v3 v4).2.2.2 := by
  intro n
  induction n with
  | zero => intros; exact Fr.refl _ _
  | succ n ih =>
    intro S v2 v3 v4
    unfold L_X6_seekBest_41
    repeat' (first | with_reducible refine frpr3 ?_ | with_reducible exact Fr.refl _ _ | with_reducible refine Fr.lP (fun q : Int32 × Int32 × Int32 × HSt => q.2.2.2) (fun _ _ => ?_) | with_reducible refine Fr.iteP (fun q : Int32 × Int32 × Int32 × HSt => q.2.2.2) ?_ ?_ | with_reducible refine Fr.l1 (fun _ _ => ?_) | with_reducible refine Fr.ite ?_ ?_ | with_reducible refine Fr.sE (by assumption) (by first | decide | simp only [List.mem_cons, List.not_mem_nil, or_false, true_or, or_true, eq_self_iff_true]) ?_ | with_reducible refine Fr.jE (by assumption) ?_ | with_reducible refine Fr.rE (by assumption) (by first | decide | simp only [List.mem_cons, List.not_mem_nil, or_false, true_or, or_true, eq_self_iff_true]) ?_ | with_reducible refine Fr.iE (by assumption) ?_ ?_ | with_reducible refine Fr.tr (ih _ _ _ _) (by first | decide | simp only [List.mem_cons, List.not_mem_nil, or_false, forall_eq_or_imp, forall_eq, true_or, or_true, and_self, eq_self_iff_true]) ?_ | with_reducible refine Fr.tr (w_X1_begin _ _ _ (by assumption)) (by first | decide | simp only [List.mem_cons, List.not_mem_nil, or_false, forall_eq_or_imp, forall_eq, true_or, or_true, and_self, eq_self_iff_true]) ?_ | with_reducible refine Fr.tr (w_X6_advance _ _ _ _ _ (by assumption)) (by first | decide | simp only [List.mem_cons, List.not_mem_nil, or_false, forall_eq_or_imp, forall_eq, true_or, or_true, and_self, eq_self_iff_true]) ?_ | with_reducible refine Fr.tr (w_X6_weighBoth _ _ _ _ _ (by assumption)) (by first | decide | simp only [List.mem_cons, List.not_mem_nil, or_false, forall_eq_or_imp, forall_eq, true_or, or_true, and_self, eq_self_iff_true]) ?_ | with_reducible refine Fr.tr (wL_X6_seekBest_76 sc1 _ _ _ _ _ _ _ _ (by assumption)) (by first | decide | simp only [List.mem_cons, List.not_mem_nil, or_false, forall_eq_or_imp, forall_eq, true_or, or_true, and_self, eq_self_iff_true]) ?_)
theorem wL_X6_seekBest_41 (sc1 : Nat) (n : Nat) (S : HSt) (v2 : Int32) (v3 : Int32) (v4 : Int32) (r : Int32 × Int32 × Int32 × HSt) (e : L_X6_seekBest_41 sc1 n S v2 v3 v4 = r) : Fr [(35, 10), (35, 8), (35, 9), (36, 0), (36, 1), (36, 2), (36, 3), (36, 4), (36, 5), (36, 6), (37, 0), (37, 1), (37, 10), (37, 2), (37, 3), (37, 4), (37, 5), (37, 6), (37, 7), (37, 8), (37, 9)] S r.2.2.2 := by
  rw [← e]
  exact vL_X6_seekBest_41 sc1 n S v2 v3 v4
set_option maxRecDepth 100000 in
theorem l_X6_seekBest_41 {p : Program} {l : Launch} {e : Env} {s : State} {m : MethodId} {args : Array Value} {below : List Frame} {meth : Method} {c : Code} {G : GG} {Q : State → Prop} (hC : ACx p s m args meth c cX6_seekBest RX6 7 none) (hSt : St G s) {sc1 : Nat} (hsc1 : (sc1, 7, 0) ∈ cKT) : ∀ (n : Nat) (S : HSt) (v2 : Int32) (v3 : Int32) (v4 : Int32), CS S → T_X6_seekBest_41 sc1 n S v2 v3 v4 → AW p l e (rmD 5 0 0) s m args below meth c G 7 Q (L_X6_seekBest_41 sc1 n S v2 v3 v4).2.2.2 0 0 118 [(0, .ref 35), (1, .ref sc1), (2, .int (L_X6_seekBest_41 sc1 n S v2 v3 v4).1), (3, .int (L_X6_seekBest_41 sc1 n S v2 v3 v4).2.1), (4, .int (L_X6_seekBest_41 sc1 n S v2 v3 v4).2.2.1)] [] → AW p l e (rmD 5 0 0) s m args below meth c G 7 Q S 0 0 41 [(0, .ref 35), (1, .ref sc1), (2, .int v2), (3, .int v3), (4, .int v4)] [] := by
  intro n
  induction n with
  | zero => intro S v2 v3 v4 _ hT; exact hT.elim
  | succ n ih =>
    intro S v2 v3 v4 hM hT hk
    unfold T_X6_seekBest_41 at hT
    obtain ⟨h0, h1, h2, h3⟩ := hT
    refine aw_iload hC 4 dX6_seekBest_41 rfl ?_
    refine aw_iload_n hC 3 dX6_seekBest_43 rfl rfl ?_
    refine aw_icmp_ge hC 118 dX6_seekBest_44 (by decide) (fun c1007 => ?_) (fun c1007 => ?_)
    · refine aw_sub [0, 1, 2, 3, 4] rfl ?_
      have E : L_X6_seekBest_41 sc1 (n + 1) S v2 v3 v4 = _ := (if_pos c1007).trans (rfl)
      rw [E] at hk
      exact hk
    · refine aw_aload_n hC 1 dX6_seekBest_47 rfl rfl ?_
      refine aw_getP (b := (sc1 + 1)) hC hSt 0 (cs_lt sc1 7 0 hsc1 hM) (cs_k sc1 7 0 hsc1 hM) rfl (by decide) w_499 rfl (cs_p sc1 0 (sc1 + 1) (sc_pway hsc1) hM) dX6_seekBest_48 ?_
      refine aw_iload hC 4 dX6_seekBest_51 rfl ?_
      refine aw_iconst (v := 1) hC dX6_seekBest_53 (by decide) ?_
      refine aw_cV2r hC hSt (t_X10_isA G l hM _ _ _ (sc_way hsc1) (h0 c1007)) w_496 w_546 w_547 w_548 w_18 rfl rfl (by decide +kernel) ⟨Nat.le_of_ble_eq_true rfl, Nat.le_of_ble_eq_true rfl⟩ (cs_lt (sc1 + 1) 10 0 (sc_way hsc1) hM) (cs_k (sc1 + 1) 10 0 (sc_way hsc1) hM) rfl (Nat.le_of_ble_eq_true rfl) dX6_seekBest_54 ⟨Nat.zero_le _, Nat.zero_le _⟩ ?_
      refine aw_if_eq hC 118 dX6_seekBest_57 (by decide) (fun c1008 => ?_) (fun c1008 => ?_)
      · refine aw_sub [0, 1, 2, 3, 4] rfl ?_
        have E : L_X6_seekBest_41 sc1 (n + 1) S v2 v3 v4 = _ := (if_neg c1007).trans ((if_pos c1008).trans (rfl))
        rw [E] at hk
        exact hk
      · refine aw_aload_n hC 1 dX6_seekBest_60 rfl rfl ?_
        refine aw_getP (b := (sc1 + 1)) hC hSt 0 (cs_lt sc1 7 0 hsc1 hM) (cs_k sc1 7 0 hsc1 hM) rfl (by decide) w_499 rfl (cs_p sc1 0 (sc1 + 1) (sc_pway hsc1) hM) dX6_seekBest_61 ?_
        refine aw_iconst (v := 5) hC dX6_seekBest_64 (by decide) ?_
        refine aw_iload hC 4 dX6_seekBest_65 rfl ?_
        refine aw_iconst (v := 1) hC dX6_seekBest_67 (by decide) ?_
        refine aw_cV3r hC hSt (t_X10_value G l hM _ _ _ _ (sc_way hsc1) (h1 c1007 c1008)) w_10 w_501 w_16 w_17 w_18 rfl rfl (by decide +kernel) ⟨Nat.le_of_ble_eq_true rfl, Nat.le_of_ble_eq_true rfl⟩ (cs_lt (sc1 + 1) 10 0 (sc_way hsc1) hM) (cs_k (sc1 + 1) 10 0 (sc_way hsc1) hM) rfl (Nat.le_of_ble_eq_true rfl) dX6_seekBest_68 ⟨Nat.zero_le _, Nat.zero_le _⟩ ?_
        refine aw_istore hC [(5, .int _), (0, .ref 35), (1, .ref sc1), (2, .int _), (3, .int _), (4, .int _)] dX6_seekBest_71 (by decide) rfl ?_
        generalize ex1009 : (f_X10_value S (sc1 + 1) (5 : Int32) v4 (1 : Int32)) = x1009
        refine aw_iconst (v := 0) hC dX6_seekBest_73 (by decide) ?_
        refine aw_istore hC [(6, .int _), (5, .int _), (0, .ref 35), (1, .ref sc1), (2, .int _), (3, .int _), (4, .int _)] dX6_seekBest_74 (by decide) rfl ?_
        refine aw_sub [2, 3, 4, 5, 6, 1, 0] rfl ?_
        refine l_X6_seekBest_76 hC hSt hsc1 1000 _ _ _ _ _ _ hM (h2 c1007 c1008 x1009 ex1009) ?_
        generalize er1010 : L_X6_seekBest_76 sc1 1000 S v2 v3 v4 x1009 (0 : Int32) = r1010
        have hM : CS r1010.2.2.2.2.2 := CS.of (by rw [← er1010]; exact qL_X6_seekBest_76 sc1 _ _ _ _ _ _ _) hM
        refine aw_iinc (v := (r1010.2.2.1 + (1 : Int32))) hC 4 [(4, .int _), (0, .ref 35), (1, .ref sc1), (2, .int _), (3, .int _), (5, .int _), (6, .int _)] dX6_seekBest_112 rfl rfl (by decide) rfl ?_
        refine aw_goto hC 41 dX6_seekBest_115 (by decide) ?_
        refine aw_sub [1, 2, 3, 4, 0] rfl ?_
        have hTn := (h3 c1007 c1008 x1009 ex1009 r1010 er1010)
        have hMn : CS r1010.2.2.2.2.2 := hM
        have E : L_X6_seekBest_41 sc1 (n + 1) S v2 v3 v4 = _ := (if_neg c1007).trans ((if_neg c1008).trans ((bd_eq ex1009).trans ((bd_eq er1010).trans (rfl))))
        rw [E] at hk
        exact ih _ _ _ _ hMn hTn hk
noncomputable def f_X6_seekBest (S : HSt) (_o0 : Nat) (sc1 : Nat) (a2 : Int32) : HSt := bd (f_X1_begin S 36) fun r1 => bd ((sI r1 35 8 (-1000000 : Int32))) fun S2 => bd ((sI S2 35 9 (0 : Int32))) fun S3 => bd ((sI S3 35 10 (1 : Int32))) fun S4 => bd (f_X6_weighBoth S4 35 sc1 a2) fun r5 => bd ((f_X10_howMany r5 (sc1 + 1) (5 : Int32))) fun x6 => bd (L_X6_seekBest_41 sc1 1000 r5 a2 x6 (0 : Int32)) fun r7 => r7.2.2.2
def p_X6_seekBest (S : HSt) (_o0 : Nat) (sc1 : Nat) (a2 : Int32) : Prop := (∀ r1, f_X1_begin S 36 = r1 → ∀ S2 : HSt, (sI r1 35 8 (-1000000 : Int32)) = S2 → ∀ S3 : HSt, (sI S2 35 9 (0 : Int32)) = S3 → ∀ S4 : HSt, (sI S3 35 10 (1 : Int32)) = S4 → p_X6_weighBoth S4 35 sc1 a2) ∧ (∀ r1, f_X1_begin S 36 = r1 → ∀ S2 : HSt, (sI r1 35 8 (-1000000 : Int32)) = S2 → ∀ S3 : HSt, (sI S2 35 9 (0 : Int32)) = S3 → ∀ S4 : HSt, (sI S3 35 10 (1 : Int32)) = S4 → ∀ r5, f_X6_weighBoth S4 35 sc1 a2 = r5 → p_X10_howMany r5 (sc1 + 1) (5 : Int32)) ∧ (∀ r1, f_X1_begin S 36 = r1 → ∀ S2 : HSt, (sI r1 35 8 (-1000000 : Int32)) = S2 → ∀ S3 : HSt, (sI S2 35 9 (0 : Int32)) = S3 → ∀ S4 : HSt, (sI S3 35 10 (1 : Int32)) = S4 → ∀ r5, f_X6_weighBoth S4 35 sc1 a2 = r5 → ∀ x6 : Int32, (f_X10_howMany r5 (sc1 + 1) (5 : Int32)) = x6 → T_X6_seekBest_41 sc1 1000 r5 a2 x6 (0 : Int32))
set_option maxRecDepth 100000 in
theorem t_X6_seekBest (G : GG) (l : Launch) {S : HSt} (hM : CS S) (sc1 : Nat) (a2 : Int32) (hsc1 : (sc1, 7, 0) ∈ cKT) (hp : p_X6_seekBest S 35 sc1 a2) : AM G l yX6_seekBest cX6_seekBest 7 none (rmD 5 0 0) 0 0 [.ref 35, .ref sc1, .int a2] S (FP none (f_X6_seekBest S 35 sc1 a2)) := by
  obtain ⟨h0, h1, h2⟩ := hp
  refine AM.mk (by decide) (Nat.le_of_ble_eq_true rfl) ?_
  intro p e s m below meth c hC hSt _
  refine aw_aload_n hC 0 dX6_seekBest_0 rfl rfl ?_
  refine aw_getP (b := 36) hC hSt 0 (cs_lt 35 6 0 (by decide) hM) (cs_k 35 6 0 (by decide) hM) rfl (by decide) w_493 rfl (cs_p 35 0 36 (by decide) hM) dX6_seekBest_1 ?_
  refine aw_cV0v hC hSt (t_X1_begin G l hM _ (by decide)) w_79 w_561 w_562 w_563 w_84 rfl rfl (by decide +kernel) ⟨Nat.le_of_ble_eq_true rfl, Nat.le_of_ble_eq_true rfl⟩ (cs_lt 36 1 0 (by decide) hM) (cs_k 36 1 0 (by decide) hM) rfl (Nat.le_of_ble_eq_true rfl) dX6_seekBest_4 ⟨Nat.zero_le _, Nat.zero_le _⟩ ?_
  generalize er1 : f_X1_begin S 36 = r1
  have hM : CS r1 := CS.of (by rw [← er1]; exact q_X1_begin _ _) hM
  refine aw_aload_n hC 0 dX6_seekBest_7 rfl rfl ?_
  refine aw_ldc (v := -1000000) hC w_543 dX6_seekBest_8 ?_
  refine aw_putI hC hSt 8 (cs_lt 35 6 0 (by decide) hM) (cs_k 35 6 0 (by decide) hM) rfl (by decide) w_570 rfl rfl rfl rfl dX6_seekBest_10 ?_
  generalize eS2 : (sI r1 35 8 (-1000000 : Int32)) = S2
  have hM : CS S2 := CS.of (by rw [← eS2]; exact shp_sI _ _ _ _) hM
  refine aw_aload_n hC 0 dX6_seekBest_13 rfl rfl ?_
  refine aw_iconst (v := 0) hC dX6_seekBest_14 (by decide) ?_
  refine aw_putI hC hSt 9 (cs_lt 35 6 0 (by decide) hM) (cs_k 35 6 0 (by decide) hM) rfl (by decide) w_569 rfl rfl rfl rfl dX6_seekBest_15 ?_
  generalize eS3 : (sI S2 35 9 (0 : Int32)) = S3
  have hM : CS S3 := CS.of (by rw [← eS3]; exact shp_sI _ _ _ _) hM
  refine aw_aload_n hC 0 dX6_seekBest_18 rfl rfl ?_
  refine aw_iconst (v := 1) hC dX6_seekBest_19 (by decide) ?_
  refine aw_putI hC hSt 10 (cs_lt 35 6 0 (by decide) hM) (cs_k 35 6 0 (by decide) hM) rfl (by decide) w_571 rfl rfl rfl rfl dX6_seekBest_20 ?_
  generalize eS4 : (sI S3 35 10 (1 : Int32)) = S4
  have hM : CS S4 := CS.of (by rw [← eS4]; exact shp_sI _ _ _ _) hM
  refine aw_aload_n hC 0 dX6_seekBest_23 rfl rfl ?_
  refine aw_aload_n hC 1 dX6_seekBest_24 rfl rfl ?_
  refine aw_iload_n hC 2 dX6_seekBest_25 rfl rfl ?_
  refine aw_cV2v hC hSt (t_X6_weighBoth G l hM _ _ hsc1 (h0 r1 er1 S2 eS2 S3 eS3 S4 eS4)) w_572 w_573 w_574 w_575 w_540 rfl rfl (by decide +kernel) ⟨Nat.le_of_ble_eq_true rfl, Nat.le_of_ble_eq_true rfl⟩ (cs_lt 35 6 0 (by decide) hM) (cs_k 35 6 0 (by decide) hM) rfl (Nat.le_of_ble_eq_true rfl) dX6_seekBest_26 ⟨Nat.zero_le _, Nat.zero_le _⟩ ?_
  generalize er5 : f_X6_weighBoth S4 35 sc1 a2 = r5
  have hM : CS r5 := CS.of (by rw [← er5]; exact q_X6_weighBoth _ _ _ _) hM
  refine aw_aload_n hC 1 dX6_seekBest_29 rfl rfl ?_
  refine aw_getP (b := (sc1 + 1)) hC hSt 0 (cs_lt sc1 7 0 hsc1 hM) (cs_k sc1 7 0 hsc1 hM) rfl (by decide) w_499 rfl (cs_p sc1 0 (sc1 + 1) (sc_pway hsc1) hM) dX6_seekBest_30 ?_
  refine aw_iconst (v := 5) hC dX6_seekBest_33 (by decide) ?_
  refine aw_cV1r hC hSt (t_X10_howMany G l hM _ _ (sc_way hsc1) (h1 r1 er1 S2 eS2 S3 eS3 S4 eS4 r5 er5)) w_152 w_564 w_237 w_238 w_18 rfl rfl (by decide +kernel) ⟨Nat.le_of_ble_eq_true rfl, Nat.le_of_ble_eq_true rfl⟩ (cs_lt (sc1 + 1) 10 0 (sc_way hsc1) hM) (cs_k (sc1 + 1) 10 0 (sc_way hsc1) hM) rfl (Nat.le_of_ble_eq_true rfl) dX6_seekBest_34 ⟨Nat.zero_le _, Nat.zero_le _⟩ ?_
  refine aw_istore_n hC [(3, .int _), (0, .ref 35), (1, .ref sc1), (2, .int _)] dX6_seekBest_37 rfl (by decide) rfl ?_
  generalize ex6 : (f_X10_howMany r5 (sc1 + 1) (5 : Int32)) = x6
  refine aw_iconst (v := 0) hC dX6_seekBest_38 (by decide) ?_
  refine aw_istore hC [(4, .int _), (3, .int _), (0, .ref 35), (1, .ref sc1), (2, .int _)] dX6_seekBest_39 (by decide) rfl ?_
  refine aw_sub [2, 3, 4, 1, 0] rfl ?_
  refine l_X6_seekBest_41 hC hSt hsc1 1000 _ _ _ _ hM (h2 r1 er1 S2 eS2 S3 eS3 S4 eS4 r5 er5 x6 ex6) ?_
  generalize er7 : L_X6_seekBest_41 sc1 1000 r5 a2 x6 (0 : Int32) = r7
  have hM : CS r7.2.2.2 := CS.of (by rw [← er7]; exact qL_X6_seekBest_41 sc1 _ _ _ _ _) hM
  refine aw_vret hC dX6_seekBest_118 (Nat.le_refl _) (Nat.le_refl _) ?_
  exact FP.qV ((bd_eq er1).trans ((bd_eq eS2).trans ((bd_eq eS3).trans ((bd_eq eS4).trans ((bd_eq er5).trans ((bd_eq ex6).trans ((bd_eq er7).trans (rfl))))))))
theorem q_X6_seekBest (S : HSt) (_o0 : Nat) (sc1 : Nat) (a2 : Int32) : shp (f_X6_seekBest S _o0 sc1 a2) = shp S := by
  unfold f_X6_seekBest
  repeat' (first | with_reducible rfl | with_reducible refine (q_X1_begin _ _).trans ?_ | with_reducible refine (q_X6_advance _ _ _ _).trans ?_ | with_reducible refine (q_X6_weighBoth _ _ _ _).trans ?_ | with_reducible refine (qL_X6_seekBest_41 sc1 _ _ _ _ _).trans ?_ | with_reducible refine (qL_X6_seekBest_76 sc1 _ _ _ _ _ _ _).trans ?_ | with_reducible refine (shp_sI _ _ _ _).trans ?_ | with_reducible refine (shp_sJ _ _ _ _).trans ?_ | with_reducible refine (shp_rI _ _ _).trans ?_ | with_reducible refine shi ?_ ?_ | with_reducible refine shb (fun _ _ => ?_) | (subst_vars; with_reducible rfl) | (subst_vars; with_reducible refine (q_X1_begin _ _).trans ?_) | (subst_vars; with_reducible refine (q_X6_advance _ _ _ _).trans ?_) | (subst_vars; with_reducible refine (q_X6_weighBoth _ _ _ _).trans ?_) | (subst_vars; with_reducible refine (qL_X6_seekBest_41 sc1 _ _ _ _ _).trans ?_) | (subst_vars; with_reducible refine (qL_X6_seekBest_76 sc1 _ _ _ _ _ _ _).trans ?_) | (subst_vars; with_reducible refine (shp_sI _ _ _ _).trans ?_) | (subst_vars; with_reducible refine (shp_sJ _ _ _ _).trans ?_) | (subst_vars; with_reducible refine (shp_rI _ _ _).trans ?_) | (subst_vars; with_reducible refine shi ?_ ?_) | (subst_vars; with_reducible refine shb (fun _ _ => ?_)))
theorem v_X6_seekBest (S : HSt) (_o0 : Nat) (sc1 : Nat) (a2 : Int32) : Fr [(35, 10), (35, 8), (35, 9), (36, 0), (36, 1), (36, 2), (36, 3), (36, 4), (36, 5), (36, 6), (37, 0), (37, 1), (37, 10), (37, 2), (37, 3), (37, 4), (37, 5), (37, 6), (37, 7), (37, 8), (37, 9)] S (f_X6_seekBest S _o0 sc1 a2) := by
  unfold f_X6_seekBest
  repeat' (first | with_reducible exact Fr.refl _ _ | with_reducible refine Fr.l1 (fun _ _ => ?_) | with_reducible refine Fr.ite ?_ ?_ | with_reducible refine Fr.sE (by assumption) (by first | decide | simp only [List.mem_cons, List.not_mem_nil, or_false, true_or, or_true, eq_self_iff_true]) ?_ | with_reducible refine Fr.jE (by assumption) ?_ | with_reducible refine Fr.rE (by assumption) (by first | decide | simp only [List.mem_cons, List.not_mem_nil, or_false, true_or, or_true, eq_self_iff_true]) ?_ | with_reducible refine Fr.iE (by assumption) ?_ ?_ | with_reducible refine Fr.tr (w_X1_begin _ _ _ (by assumption)) (by first | decide | simp only [List.mem_cons, List.not_mem_nil, or_false, forall_eq_or_imp, forall_eq, true_or, or_true, and_self, eq_self_iff_true]) ?_ | with_reducible refine Fr.tr (w_X6_advance _ _ _ _ _ (by assumption)) (by first | decide | simp only [List.mem_cons, List.not_mem_nil, or_false, forall_eq_or_imp, forall_eq, true_or, or_true, and_self, eq_self_iff_true]) ?_ | with_reducible refine Fr.tr (w_X6_weighBoth _ _ _ _ _ (by assumption)) (by first | decide | simp only [List.mem_cons, List.not_mem_nil, or_false, forall_eq_or_imp, forall_eq, true_or, or_true, and_self, eq_self_iff_true]) ?_ | with_reducible refine Fr.tr (wL_X6_seekBest_41 sc1 _ _ _ _ _ _ (by assumption)) (by first | decide | simp only [List.mem_cons, List.not_mem_nil, or_false, forall_eq_or_imp, forall_eq, true_or, or_true, and_self, eq_self_iff_true]) ?_ | with_reducible refine Fr.tr (wL_X6_seekBest_76 sc1 _ _ _ _ _ _ _ _ (by assumption)) (by first | decide | simp only [List.mem_cons, List.not_mem_nil, or_false, forall_eq_or_imp, forall_eq, true_or, or_true, and_self, eq_self_iff_true]) ?_)
theorem w_X6_seekBest (S : HSt) (_o0 : Nat) (sc1 : Nat) (a2 : Int32) (r : HSt) (e : f_X6_seekBest S _o0 sc1 a2 = r) : Fr [(35, 10), (35, 8), (35, 9), (36, 0), (36, 1), (36, 2), (36, 3), (36, 4), (36, 5), (36, 6), (37, 0), (37, 1), (37, 10), (37, 2), (37, 3), (37, 4), (37, 5), (37, 6), (37, 7), (37, 8), (37, 9)] S r := by
  rw [← e]
  exact v_X6_seekBest S _o0 sc1 a2
noncomputable def f_X6_multiply (S : HSt) (_o0 : Nat) (a1 : Int64) (a2 : Int64) : HSt := if (gI S 35 7) = 0 then (bd (((gJ S 35 5) * a1)) fun x2 => bd (((gJ S 35 6) * a2)) fun x3 => bd ((sJ S 35 5 (f_X11_lowest S x2 x3 (0 : Int32)))) fun S4 => bd ((sJ S4 35 6 (f_X11_lowest S4 x2 x3 (1 : Int32)))) fun S5 => bd ((if (lg_cmp (gJ S5 35 6) (1000000000000 : Int64)) ≤ 0 then (0 : Int32) else (1 : Int32))) fun x7 => bd ((sI S5 35 7 x7)) fun S8 => S8) else (S)
def p_X6_multiply (S : HSt) (_o0 : Nat) (a1 : Int64) (a2 : Int64) : Prop := (((gI S 35 7) = 0) → ∀ x2 : Int64, ((gJ S 35 5) * a1) = x2 → ∀ x3 : Int64, ((gJ S 35 6) * a2) = x3 → p_X11_lowest S x2 x3 (0 : Int32)) ∧ (((gI S 35 7) = 0) → ∀ x2 : Int64, ((gJ S 35 5) * a1) = x2 → ∀ x3 : Int64, ((gJ S 35 6) * a2) = x3 → ∀ S4 : HSt, (sJ S 35 5 (f_X11_lowest S x2 x3 (0 : Int32))) = S4 → p_X11_lowest S4 x2 x3 (1 : Int32))
set_option maxRecDepth 100000 in
theorem t_X6_multiply (G : GG) (l : Launch) {S : HSt} (hM : CS S) (a1 : Int64) (a2 : Int64)  (hp : p_X6_multiply S 35 a1 a2) : AM G l yX6_multiply cX6_multiply 9 none (rmD 2 0 0) 0 0 [.ref 35, .long a1, .long a2] S (FP none (f_X6_multiply S 35 a1 a2)) := by
  obtain ⟨h0, h1⟩ := hp
  refine AM.mk (by decide) (Nat.le_of_ble_eq_true rfl) ?_
  intro p e s m below meth c hC hSt _
  refine aw_aload_n hC 0 dX6_multiply_0 rfl rfl ?_
  refine aw_getI hC hSt 7 (cs_lt 35 6 0 (by decide) hM) (cs_k 35 6 0 (by decide) hM) rfl (by decide) w_519 rfl dX6_multiply_1 ?_
  refine aw_if_eq hC 8 dX6_multiply_4 (by decide) (fun c1 => ?_) (fun c1 => ?_)
  · refine aw_aload_n hC 0 dX6_multiply_8 rfl rfl ?_
    refine aw_getJ hC hSt 5 (cs_lt 35 6 0 (by decide) hM) (cs_k 35 6 0 (by decide) hM) rfl (by decide) w_520 rfl dX6_multiply_9 ?_
    refine aw_lload_n hC 1 dX6_multiply_12 rfl rfl ?_
    refine aw_lmul hC dX6_multiply_13 ?_
    refine aw_lstore hC [(5, .long _), (0, .ref 35), (1, .long _), (3, .long _)] dX6_multiply_14 (by decide) rfl ?_
    generalize ex2 : ((gJ S 35 5) * a1) = x2
    refine aw_aload_n hC 1 dX6_multiply_16 rfl rfl ?_
    refine aw_getJ hC hSt 6 (cs_lt 35 6 0 (by decide) hM) (cs_k 35 6 0 (by decide) hM) rfl (by decide) w_521 rfl dX6_multiply_17 ?_
    refine aw_lload_n hC 3 dX6_multiply_20 rfl rfl ?_
    refine aw_lmul hC dX6_multiply_21 ?_
    refine aw_lstore hC [(7, .long _), (5, .long _), (0, .ref 35), (1, .long _), (3, .long _)] dX6_multiply_22 (by decide) rfl ?_
    generalize ex3 : ((gJ S 35 6) * a2) = x3
    refine aw_aload_n hC 2 dX6_multiply_24 rfl rfl ?_
    refine aw_lload hC 1 dX6_multiply_25 rfl ?_
    refine aw_lload hC 0 dX6_multiply_27 rfl ?_
    refine aw_iconst (v := 0) hC dX6_multiply_29 (by decide) ?_
    refine aw_cSN3r hC hSt (t_X11_lowest G l  _ _ _ (h0 c1 x2 ex2 x3 ex3)) w_514 (by decide) w_523 w_517 rfl rfl (by decide +kernel) ⟨Nat.le_of_ble_eq_true rfl, Nat.le_of_ble_eq_true rfl⟩ (Nat.le_of_ble_eq_true rfl) dX6_multiply_30 ⟨Nat.zero_le _, Nat.zero_le _⟩ ?_
    refine aw_putJ hC hSt 5 (cs_lt 35 6 0 (by decide) hM) (cs_k 35 6 0 (by decide) hM) rfl (by decide) w_520 rfl rfl rfl rfl dX6_multiply_33 ?_
    generalize eS4 : (sJ S 35 5 (f_X11_lowest S x2 x3 (0 : Int32))) = S4
    have hM : CS S4 := CS.of (by rw [← eS4]; exact shp_sJ _ _ _ _) hM
    refine aw_aload_n hC 2 dX6_multiply_36 rfl rfl ?_
    refine aw_lload hC 1 dX6_multiply_37 rfl ?_
    refine aw_lload hC 0 dX6_multiply_39 rfl ?_
    refine aw_iconst (v := 1) hC dX6_multiply_41 (by decide) ?_
    refine aw_cSN3r hC hSt (t_X11_lowest G l  _ _ _ (h1 c1 x2 ex2 x3 ex3 S4 eS4)) w_514 (by decide) w_523 w_517 rfl rfl (by decide +kernel) ⟨Nat.le_of_ble_eq_true rfl, Nat.le_of_ble_eq_true rfl⟩ (Nat.le_of_ble_eq_true rfl) dX6_multiply_42 ⟨Nat.zero_le _, Nat.zero_le _⟩ ?_
    refine aw_putJ hC hSt 6 (cs_lt 35 6 0 (by decide) hM) (cs_k 35 6 0 (by decide) hM) rfl (by decide) w_521 rfl rfl rfl rfl dX6_multiply_45 ?_
    generalize eS5 : (sJ S4 35 6 (f_X11_lowest S4 x2 x3 (1 : Int32))) = S5
    have hM : CS S5 := CS.of (by rw [← eS5]; exact shp_sJ _ _ _ _) hM
    refine aw_aload_n hC 2 dX6_multiply_48 rfl rfl ?_
    refine aw_aload_n hC 2 dX6_multiply_49 rfl rfl ?_
    refine aw_getJ hC hSt 6 (cs_lt 35 6 0 (by decide) hM) (cs_k 35 6 0 (by decide) hM) rfl (by decide) w_521 rfl dX6_multiply_50 ?_
    refine aw_ldc2 (v := 1000000000000) hC w_522 dX6_multiply_53 ?_
    refine aw_lcmp hC dX6_multiply_56 ?_
    refine aw_cut (S' := S5) (pc' := 65) (lv' := [(7, .long x3), (5, .long x2), (0, .ref 35), (1, .long a1), (3, .long a2)]) (st' := [.int (if (lg_cmp (gJ S5 35 6) (1000000000000 : Int64)) ≤ 0 then (0 : Int32) else (1 : Int32)), .ref 35]) ?_ (fun Jc6 => ?_)
    · generalize ex7 : (if (lg_cmp (gJ S5 35 6) (1000000000000 : Int64)) ≤ 0 then (0 : Int32) else (1 : Int32)) = x7
      refine aw_putI hC hSt 7 (cs_lt 35 6 0 (by decide) hM) (cs_k 35 6 0 (by decide) hM) rfl (by decide) w_519 rfl rfl (Bz.n (ex7 ▸ (Bz.ite (Or.inl rfl) (Or.inr rfl)))) (Bz.f (ex7 ▸ (Bz.ite (Or.inl rfl) (Or.inr rfl)))) dX6_multiply_65 ?_
      generalize eS8 : (sI S5 35 7 x7) = S8
      have hM : CS S8 := CS.of (by rw [← eS8]; exact shp_sI _ _ _ _) hM
      refine aw_vret hC dX6_multiply_68 (Nat.le_refl _) (Nat.le_refl _) ?_
      exact FP.qV ((if_pos c1).trans ((bd_eq ex2).trans ((bd_eq ex3).trans ((bd_eq eS4).trans ((bd_eq eS5).trans ((bd_eq ex7).trans ((bd_eq eS8).trans (rfl))))))))
    · refine aw_if_le hC 64 dX6_multiply_57 (by decide) (fun c6 => ?_) (fun c6 => ?_)
      · refine aw_iconst (v := 0) hC dX6_multiply_64 (by decide) ?_
        simp only [bd_def, if_pos c6] at Jc6 ⊢
        exact Jc6
      · refine aw_iconst (v := 1) hC dX6_multiply_60 (by decide) ?_
        refine aw_goto hC 65 dX6_multiply_61 (by decide) ?_
        simp only [bd_def, if_neg c6] at Jc6 ⊢
        exact Jc6
  · refine aw_vret hC dX6_multiply_7 (Nat.le_refl _) (Nat.le_refl _) ?_
    exact FP.qV ((if_neg c1).trans (rfl))
theorem q_X6_multiply (S : HSt) (_o0 : Nat) (a1 : Int64) (a2 : Int64) : shp (f_X6_multiply S _o0 a1 a2) = shp S := by
  unfold f_X6_multiply
  repeat' (first | with_reducible rfl | with_reducible refine (shp_sI _ _ _ _).trans ?_ | with_reducible refine (shp_sJ _ _ _ _).trans ?_ | with_reducible refine (shp_rI _ _ _).trans ?_ | with_reducible refine shi ?_ ?_ | with_reducible refine shb (fun _ _ => ?_) | (subst_vars; with_reducible rfl) | (subst_vars; with_reducible refine (shp_sI _ _ _ _).trans ?_) | (subst_vars; with_reducible refine (shp_sJ _ _ _ _).trans ?_) | (subst_vars; with_reducible refine (shp_rI _ _ _).trans ?_) | (subst_vars; with_reducible refine shi ?_ ?_) | (subst_vars; with_reducible refine shb (fun _ _ => ?_)))
theorem v_X6_multiply (S : HSt) (_o0 : Nat) (a1 : Int64) (a2 : Int64) : Fr [(35, 7)] S (f_X6_multiply S _o0 a1 a2) := by
  unfold f_X6_multiply
  repeat' (first | with_reducible exact Fr.refl _ _ | with_reducible refine Fr.l1 (fun _ _ => ?_) | with_reducible refine Fr.ite ?_ ?_ | with_reducible refine Fr.sE (by assumption) (by first | decide | simp only [List.mem_cons, List.not_mem_nil, or_false, true_or, or_true, eq_self_iff_true]) ?_ | with_reducible refine Fr.jE (by assumption) ?_ | with_reducible refine Fr.rE (by assumption) (by first | decide | simp only [List.mem_cons, List.not_mem_nil, or_false, true_or, or_true, eq_self_iff_true]) ?_ | with_reducible refine Fr.iE (by assumption) ?_ ?_)
theorem w_X6_multiply (S : HSt) (_o0 : Nat) (a1 : Int64) (a2 : Int64) (r : HSt) (e : f_X6_multiply S _o0 a1 a2 = r) : Fr [(35, 7)] S r := by
  rw [← e]
  exact v_X6_multiply S _o0 a1 a2
noncomputable def f_X6_throwAt (S : HSt) (_o0 : Nat) (sc1 : Nat) (a2 : Int32) (a3 : Int32) : HSt := bd ((f_X10_value S (sc1 + 1) (5 : Int32) a2 (1 : Int32))) fun x1 => bd (f_X9_aim S 37 sc1 36 a3 x1) fun r2 => bd ((sI r2 35 2 (gI r2 37 0))) fun S3 => bd ((sI S3 35 4 ((gI S3 35 4) + (f_X10_pointsFor S3 (sc1 + 1) a3 (gI S3 36 4) (f_X9_isLikely S3 37))))) fun S4 => bd (f_X6_multiply S4 35 (gI S4 37 2).toInt64 (gI S4 37 3).toInt64) fun r5 => bd (f_X1_fallToHand r5 36) fun r6 => r6
def p_X6_throwAt (S : HSt) (_o0 : Nat) (sc1 : Nat) (a2 : Int32) (a3 : Int32) : Prop := (p_X10_value S (sc1 + 1) (5 : Int32) a2 (1 : Int32)) ∧ (∀ x1 : Int32, (f_X10_value S (sc1 + 1) (5 : Int32) a2 (1 : Int32)) = x1 → p_X9_aim S 37 sc1 36 a3 x1) ∧ (∀ x1 : Int32, (f_X10_value S (sc1 + 1) (5 : Int32) a2 (1 : Int32)) = x1 → ∀ r2, f_X9_aim S 37 sc1 36 a3 x1 = r2 → ∀ S3 : HSt, (sI r2 35 2 (gI r2 37 0)) = S3 → p_X10_pointsFor S3 (sc1 + 1) a3 (gI S3 36 4) (f_X9_isLikely S3 37)) ∧ (∀ x1 : Int32, (f_X10_value S (sc1 + 1) (5 : Int32) a2 (1 : Int32)) = x1 → ∀ r2, f_X9_aim S 37 sc1 36 a3 x1 = r2 → ∀ S3 : HSt, (sI r2 35 2 (gI r2 37 0)) = S3 → ∀ S4 : HSt, (sI S3 35 4 ((gI S3 35 4) + (f_X10_pointsFor S3 (sc1 + 1) a3 (gI S3 36 4) (f_X9_isLikely S3 37)))) = S4 → p_X6_multiply S4 35 (gI S4 37 2).toInt64 (gI S4 37 3).toInt64)
set_option maxRecDepth 100000 in
theorem t_X6_throwAt (G : GG) (l : Launch) {S : HSt} (hM : CS S) (sc1 : Nat) (a2 : Int32) (a3 : Int32) (hsc1 : (sc1, 7, 0) ∈ cKT) (hp : p_X6_throwAt S 35 sc1 a2 a3) : AM G l yX6_throwAt cX6_throwAt 5 none (rmD 4 0 0) 0 0 [.ref 35, .ref sc1, .int a2, .int a3] S (FP none (f_X6_throwAt S 35 sc1 a2 a3)) := by
  obtain ⟨h0, h1, h2, h3⟩ := hp
  refine AM.mk (by decide) (Nat.le_of_ble_eq_true rfl) ?_
  intro p e s m below meth c hC hSt _
  refine aw_aload_n hC 1 dX6_throwAt_0 rfl rfl ?_
  refine aw_getP (b := (sc1 + 1)) hC hSt 0 (cs_lt sc1 7 0 hsc1 hM) (cs_k sc1 7 0 hsc1 hM) rfl (by decide) w_499 rfl (cs_p sc1 0 (sc1 + 1) (sc_pway hsc1) hM) dX6_throwAt_1 ?_
  refine aw_iconst (v := 5) hC dX6_throwAt_4 (by decide) ?_
  refine aw_iload_n hC 2 dX6_throwAt_5 rfl rfl ?_
  refine aw_iconst (v := 1) hC dX6_throwAt_6 (by decide) ?_
  refine aw_cV3r hC hSt (t_X10_value G l hM _ _ _ _ (sc_way hsc1) (h0)) w_10 w_501 w_16 w_17 w_18 rfl rfl (by decide +kernel) ⟨Nat.le_of_ble_eq_true rfl, Nat.le_of_ble_eq_true rfl⟩ (cs_lt (sc1 + 1) 10 0 (sc_way hsc1) hM) (cs_k (sc1 + 1) 10 0 (sc_way hsc1) hM) rfl (Nat.le_of_ble_eq_true rfl) dX6_throwAt_7 ⟨Nat.zero_le _, Nat.zero_le _⟩ ?_
  refine aw_istore hC [(4, .int _), (0, .ref 35), (1, .ref sc1), (2, .int _), (3, .int _)] dX6_throwAt_10 (by decide) rfl ?_
  generalize ex1 : (f_X10_value S (sc1 + 1) (5 : Int32) a2 (1 : Int32)) = x1
  refine aw_aload_n hC 1 dX6_throwAt_12 rfl rfl ?_
  refine aw_getP (b := 37) hC hSt 1 (cs_lt 35 6 0 (by decide) hM) (cs_k 35 6 0 (by decide) hM) rfl (by decide) w_495 rfl (cs_p 35 1 37 (by decide) hM) dX6_throwAt_13 ?_
  refine aw_aload_n hC 2 dX6_throwAt_16 rfl rfl ?_
  refine aw_aload_n hC 1 dX6_throwAt_17 rfl rfl ?_
  refine aw_getP (b := 36) hC hSt 0 (cs_lt 35 6 0 (by decide) hM) (cs_k 35 6 0 (by decide) hM) rfl (by decide) w_493 rfl (cs_p 35 0 36 (by decide) hM) dX6_throwAt_18 ?_
  refine aw_iload_n hC 4 dX6_throwAt_21 rfl rfl ?_
  refine aw_iload hC 0 dX6_throwAt_22 rfl ?_
  refine aw_cV4v hC hSt (t_X9_aim G l hM _ _ _ _ _ (by decide) hsc1 (by decide) (h1 x1 ex1)) w_511 w_530 w_531 w_532 w_140 rfl rfl (by decide +kernel) ⟨Nat.le_of_ble_eq_true rfl, Nat.le_of_ble_eq_true rfl⟩ (cs_lt 37 9 0 (by decide) hM) (cs_k 37 9 0 (by decide) hM) rfl (Nat.le_of_ble_eq_true rfl) dX6_throwAt_24 ⟨Nat.zero_le _, Nat.zero_le _⟩ ?_
  generalize er2 : f_X9_aim S 37 sc1 36 a3 x1 = r2
  have hM : CS r2 := CS.of (by rw [← er2]; exact q_X9_aim _ _ _ _ _ _) hM
  refine aw_aload_n hC 1 dX6_throwAt_27 rfl rfl ?_
  refine aw_aload_n hC 1 dX6_throwAt_28 rfl rfl ?_
  refine aw_getP (b := 37) hC hSt 1 (cs_lt 35 6 0 (by decide) hM) (cs_k 35 6 0 (by decide) hM) rfl (by decide) w_495 rfl (cs_p 35 1 37 (by decide) hM) dX6_throwAt_29 ?_
  refine aw_getI hC hSt 0 (cs_lt 37 9 0 (by decide) hM) (cs_k 37 9 0 (by decide) hM) rfl (by decide) w_524 rfl dX6_throwAt_32 ?_
  refine aw_putI hC hSt 2 (cs_lt 35 6 0 (by decide) hM) (cs_k 35 6 0 (by decide) hM) rfl (by decide) w_525 rfl rfl rfl rfl dX6_throwAt_35 ?_
  generalize eS3 : (sI r2 35 2 (gI r2 37 0)) = S3
  have hM : CS S3 := CS.of (by rw [← eS3]; exact shp_sI _ _ _ _) hM
  refine aw_aload_n hC 1 dX6_throwAt_38 rfl rfl ?_
  refine aw_dup hC dX6_throwAt_39 rfl ?_
  refine aw_getI hC hSt 4 (cs_lt 35 6 0 (by decide) hM) (cs_k 35 6 0 (by decide) hM) rfl (by decide) w_526 rfl dX6_throwAt_40 ?_
  refine aw_aload_n hC 2 dX6_throwAt_43 rfl rfl ?_
  refine aw_getP (b := (sc1 + 1)) hC hSt 0 (cs_lt sc1 7 0 hsc1 hM) (cs_k sc1 7 0 hsc1 hM) rfl (by decide) w_499 rfl (cs_p sc1 0 (sc1 + 1) (sc_pway hsc1) hM) dX6_throwAt_44 ?_
  refine aw_iload_n hC 4 dX6_throwAt_47 rfl rfl ?_
  refine aw_aload_n hC 1 dX6_throwAt_48 rfl rfl ?_
  refine aw_getP (b := 36) hC hSt 0 (cs_lt 35 6 0 (by decide) hM) (cs_k 35 6 0 (by decide) hM) rfl (by decide) w_493 rfl (cs_p 35 0 36 (by decide) hM) dX6_throwAt_49 ?_
  refine aw_getI hC hSt 4 (cs_lt 36 1 0 (by decide) hM) (cs_k 36 1 0 (by decide) hM) rfl (by decide) w_527 rfl dX6_throwAt_52 ?_
  refine aw_aload_n hC 1 dX6_throwAt_55 rfl rfl ?_
  refine aw_getP (b := 37) hC hSt 1 (cs_lt 35 6 0 (by decide) hM) (cs_k 35 6 0 (by decide) hM) rfl (by decide) w_495 rfl (cs_p 35 1 37 (by decide) hM) dX6_throwAt_56 ?_
  refine aw_cV0r hC hSt (t_X9_isLikely G l hM _ (by decide)) w_512 w_533 w_534 w_535 w_140 rfl rfl (by decide +kernel) ⟨Nat.le_of_ble_eq_true rfl, Nat.le_of_ble_eq_true rfl⟩ (cs_lt 37 9 0 (by decide) hM) (cs_k 37 9 0 (by decide) hM) rfl (Nat.le_of_ble_eq_true rfl) dX6_throwAt_59 ⟨Nat.zero_le _, Nat.zero_le _⟩ ?_
  refine aw_cV3r hC hSt (t_X10_pointsFor G l hM _ _ _ _ (sc_way hsc1) (h2 x1 ex1 r2 er2 S3 eS3)) w_195 w_536 w_207 w_208 w_18 rfl rfl (by decide +kernel) ⟨Nat.le_of_ble_eq_true rfl, Nat.le_of_ble_eq_true rfl⟩ (cs_lt (sc1 + 1) 10 0 (sc_way hsc1) hM) (cs_k (sc1 + 1) 10 0 (sc_way hsc1) hM) rfl (Nat.le_of_ble_eq_true rfl) dX6_throwAt_62 ⟨Nat.zero_le _, Nat.zero_le _⟩ ?_
  refine aw_iadd hC dX6_throwAt_65 ?_
  refine aw_putI hC hSt 4 (cs_lt 35 6 0 (by decide) hM) (cs_k 35 6 0 (by decide) hM) rfl (by decide) w_526 rfl rfl rfl rfl dX6_throwAt_66 ?_
  generalize eS4 : (sI S3 35 4 ((gI S3 35 4) + (f_X10_pointsFor S3 (sc1 + 1) a3 (gI S3 36 4) (f_X9_isLikely S3 37)))) = S4
  have hM : CS S4 := CS.of (by rw [← eS4]; exact shp_sI _ _ _ _) hM
  refine aw_aload_n hC 1 dX6_throwAt_69 rfl rfl ?_
  refine aw_aload_n hC 1 dX6_throwAt_70 rfl rfl ?_
  refine aw_getP (b := 37) hC hSt 1 (cs_lt 35 6 0 (by decide) hM) (cs_k 35 6 0 (by decide) hM) rfl (by decide) w_495 rfl (cs_p 35 1 37 (by decide) hM) dX6_throwAt_71 ?_
  refine aw_getI hC hSt 2 (cs_lt 37 9 0 (by decide) hM) (cs_k 37 9 0 (by decide) hM) rfl (by decide) w_528 rfl dX6_throwAt_74 ?_
  refine aw_i2l hC dX6_throwAt_77 ?_
  refine aw_aload_n hC 1 dX6_throwAt_78 rfl rfl ?_
  refine aw_getP (b := 37) hC hSt 1 (cs_lt 35 6 0 (by decide) hM) (cs_k 35 6 0 (by decide) hM) rfl (by decide) w_495 rfl (cs_p 35 1 37 (by decide) hM) dX6_throwAt_79 ?_
  refine aw_getI hC hSt 3 (cs_lt 37 9 0 (by decide) hM) (cs_k 37 9 0 (by decide) hM) rfl (by decide) w_529 rfl dX6_throwAt_82 ?_
  refine aw_i2l hC dX6_throwAt_85 ?_
  refine aw_cV2v hC hSt (t_X6_multiply G l hM _ _ (h3 x1 ex1 r2 er2 S3 eS3 S4 eS4)) w_518 w_537 w_538 w_539 w_540 rfl rfl (by decide +kernel) ⟨Nat.le_of_ble_eq_true rfl, Nat.le_of_ble_eq_true rfl⟩ (cs_lt 35 6 0 (by decide) hM) (cs_k 35 6 0 (by decide) hM) rfl (Nat.le_of_ble_eq_true rfl) dX6_throwAt_86 ⟨Nat.zero_le _, Nat.zero_le _⟩ ?_
  generalize er5 : f_X6_multiply S4 35 (gI S4 37 2).toInt64 (gI S4 37 3).toInt64 = r5
  have hM : CS r5 := CS.of (by rw [← er5]; exact q_X6_multiply _ _ _ _) hM
  refine aw_aload_n hC 1 dX6_throwAt_89 rfl rfl ?_
  refine aw_getP (b := 36) hC hSt 0 (cs_lt 35 6 0 (by decide) hM) (cs_k 35 6 0 (by decide) hM) rfl (by decide) w_493 rfl (cs_p 35 0 36 (by decide) hM) dX6_throwAt_90 ?_
  refine aw_cV0v hC hSt (t_X1_fallToHand G l hM _ (by decide)) w_71 w_541 w_82 w_83 w_84 rfl rfl (by decide +kernel) ⟨Nat.le_of_ble_eq_true rfl, Nat.le_of_ble_eq_true rfl⟩ (cs_lt 36 1 0 (by decide) hM) (cs_k 36 1 0 (by decide) hM) rfl (Nat.le_of_ble_eq_true rfl) dX6_throwAt_93 ⟨Nat.zero_le _, Nat.zero_le _⟩ ?_
  generalize er6 : f_X1_fallToHand r5 36 = r6
  have hM : CS r6 := CS.of (by rw [← er6]; exact q_X1_fallToHand _ _) hM
  refine aw_vret hC dX6_throwAt_96 (Nat.le_refl _) (Nat.le_refl _) ?_
  exact FP.qV ((bd_eq ex1).trans ((bd_eq er2).trans ((bd_eq eS3).trans ((bd_eq eS4).trans ((bd_eq er5).trans ((bd_eq er6).trans (rfl)))))))
theorem q_X6_throwAt (S : HSt) (_o0 : Nat) (sc1 : Nat) (a2 : Int32) (a3 : Int32) : shp (f_X6_throwAt S _o0 sc1 a2 a3) = shp S := by
  unfold f_X6_throwAt
  repeat' (first | with_reducible rfl | with_reducible refine (q_X1_fallToHand _ _).trans ?_ | with_reducible refine (q_X6_multiply _ _ _ _).trans ?_ | with_reducible refine (q_X9_aim _ _ _ _ _ _).trans ?_ | with_reducible refine (shp_sI _ _ _ _).trans ?_ | with_reducible refine (shp_sJ _ _ _ _).trans ?_ | with_reducible refine (shp_rI _ _ _).trans ?_ | with_reducible refine shi ?_ ?_ | with_reducible refine shb (fun _ _ => ?_) | (subst_vars; with_reducible rfl) | (subst_vars; with_reducible refine (q_X1_fallToHand _ _).trans ?_) | (subst_vars; with_reducible refine (q_X6_multiply _ _ _ _).trans ?_) | (subst_vars; with_reducible refine (q_X9_aim _ _ _ _ _ _).trans ?_) | (subst_vars; with_reducible refine (shp_sI _ _ _ _).trans ?_) | (subst_vars; with_reducible refine (shp_sJ _ _ _ _).trans ?_) | (subst_vars; with_reducible refine (shp_rI _ _ _).trans ?_) | (subst_vars; with_reducible refine shi ?_ ?_) | (subst_vars; with_reducible refine shb (fun _ _ => ?_)))
theorem v_X6_throwAt (S : HSt) (_o0 : Nat) (sc1 : Nat) (a2 : Int32) (a3 : Int32) : Fr [(35, 2), (35, 4), (35, 7), (36, 0), (36, 1), (36, 2), (36, 4), (36, 5), (36, 6), (37, 0), (37, 1), (37, 10), (37, 2), (37, 3), (37, 4), (37, 5), (37, 6), (37, 7), (37, 8), (37, 9)] S (f_X6_throwAt S _o0 sc1 a2 a3) := by
  unfold f_X6_throwAt
  repeat' (first | with_reducible exact Fr.refl _ _ | with_reducible refine Fr.l1 (fun _ _ => ?_) | with_reducible refine Fr.ite ?_ ?_ | with_reducible refine Fr.sE (by assumption) (by first | decide | simp only [List.mem_cons, List.not_mem_nil, or_false, true_or, or_true, eq_self_iff_true]) ?_ | with_reducible refine Fr.jE (by assumption) ?_ | with_reducible refine Fr.rE (by assumption) (by first | decide | simp only [List.mem_cons, List.not_mem_nil, or_false, true_or, or_true, eq_self_iff_true]) ?_ | with_reducible refine Fr.iE (by assumption) ?_ ?_ | with_reducible refine Fr.tr (w_X1_fallToHand _ _ _ (by assumption)) (by first | decide | simp only [List.mem_cons, List.not_mem_nil, or_false, forall_eq_or_imp, forall_eq, true_or, or_true, and_self, eq_self_iff_true]) ?_ | with_reducible refine Fr.tr (w_X6_multiply _ _ _ _ _ (by assumption)) (by first | decide | simp only [List.mem_cons, List.not_mem_nil, or_false, forall_eq_or_imp, forall_eq, true_or, or_true, and_self, eq_self_iff_true]) ?_ | with_reducible refine Fr.tr (w_X9_aim _ _ _ _ _ _ _ (by assumption)) (by first | decide | simp only [List.mem_cons, List.not_mem_nil, or_false, forall_eq_or_imp, forall_eq, true_or, or_true, and_self, eq_self_iff_true]) ?_)
theorem w_X6_throwAt (S : HSt) (_o0 : Nat) (sc1 : Nat) (a2 : Int32) (a3 : Int32) (r : HSt) (e : f_X6_throwAt S _o0 sc1 a2 a3 = r) : Fr [(35, 2), (35, 4), (35, 7), (36, 0), (36, 1), (36, 2), (36, 4), (36, 5), (36, 6), (37, 0), (37, 1), (37, 10), (37, 2), (37, 3), (37, 4), (37, 5), (37, 6), (37, 7), (37, 8), (37, 9)] S r := by
  rw [← e]
  exact v_X6_throwAt S _o0 sc1 a2 a3
noncomputable def L_X6_perform_38 (sc1 : Nat) : Nat → HSt → Int32 → Int32 → Int32 → Int32 × Int32 × Int32 × HSt
  | 0, S, v2, v3, v4 => (v2, v3, v4, S)
  | n + 1, S, v2, v3, v4 =>
    if v3 ≤ v4 then ((pr (v2) (pr (v3) (pr (v4) (S))))) else (if (f_X1_hasFallen S 36) = 0 then (bd (f_X6_advance S 35 sc1 v2) fun r1012 => bd ((sI r1012 35 3 (gI r1012 36 5))) fun S1013 => L_X6_perform_38 sc1 n S1013 v2 v3 (v4 + (1 : Int32))) else ((pr (v2) (pr (v3) (pr (v4) (S))))))
def T_X6_perform_38 (sc1 : Nat) : Nat → HSt → Int32 → Int32 → Int32 → Prop
  | 0, _, _, _, _ => False
  | n + 1, S, v2, v3, v4 => ((¬ v3 ≤ v4) → ((f_X1_hasFallen S 36) = 0) → p_X6_advance S 35 sc1 v2) ∧ ((¬ v3 ≤ v4) → ((f_X1_hasFallen S 36) = 0) → ∀ r1012, f_X6_advance S 35 sc1 v2 = r1012 → ∀ S1013 : HSt, (sI r1012 35 3 (gI r1012 36 5)) = S1013 → T_X6_perform_38 sc1 n S1013 v2 v3 (v4 + (1 : Int32)))
theorem qL_X6_perform_38 (sc1 : Nat) : ∀ (n : Nat) (S : HSt) (v2 : Int32) (v3 : Int32) (v4 : Int32), shp (L_X6_perform_38 sc1 n S v2 v3 v4).2.2.2 = shp S := by
  intro n
  induction n with
  | zero => intros; rfl
  | succ n ih =>
    intro S v2 v3 v4
    unfold L_X6_perform_38
    repeat' (first | with_reducible refine shpr3 ?_ | with_reducible rfl | with_reducible refine (ih _ _ _ _).trans ?_ | with_reducible refine (q_X1_gather _ _).trans ?_ | with_reducible refine (q_X6_advance _ _ _ _).trans ?_ | with_reducible refine (q_X6_throwAt _ _ _ _ _).trans ?_ | with_reducible refine (shp_sI _ _ _ _).trans ?_ | with_reducible refine (shp_sJ _ _ _ _).trans ?_ | with_reducible refine (shp_rI _ _ _).trans ?_ | with_reducible refine shi ?_ ?_ | with_reducible refine shb (fun _ _ => ?_) | with_reducible refine shiP (fun q : Int32 × Int32 × Int32 × HSt => q.2.2.2) ?_ ?_ | with_reducible refine shbP (fun q : Int32 × Int32 × Int32 × HSt => q.2.2.2) (fun _ _ => ?_) | (subst_vars; with_reducible rfl) | (subst_vars; with_reducible refine (ih _ _ _ _).trans ?_) | (subst_vars; with_reducible refine (q_X1_gather _ _).trans ?_) | (subst_vars; with_reducible refine (q_X6_advance _ _ _ _).trans ?_) | (subst_vars; with_reducible refine (q_X6_throwAt _ _ _ _ _).trans ?_) | (subst_vars; with_reducible refine (shp_sI _ _ _ _).trans ?_) | (subst_vars; with_reducible refine (shp_sJ _ _ _ _).trans ?_) | (subst_vars; with_reducible refine (shp_rI _ _ _).trans ?_) | (subst_vars; with_reducible refine shi ?_ ?_) | (subst_vars; with_reducible refine shb (fun _ _ => ?_)))
theorem vL_X6_perform_38 (sc1 : Nat) : ∀ (n : Nat) (S : HSt) (v2 : Int32) (v3 : Int32) (v4 : Int32), Fr [(35, 3), (36, 0), (36, 1), (36, 2), (36, 3), (36, 4), (36, 5), (36, 6)] S (L_X6_perform_38 sc1 n S v2 v3 v4).2.2.2 := by
  intro n
  induction n with
  | zero => intros; exact Fr.refl _ _
  | succ n ih =>
    intro S v2 v3 v4
    unfold L_X6_perform_38
    repeat' (first | with_reducible refine frpr3 ?_ | with_reducible exact Fr.refl _ _ | with_reducible refine Fr.lP (fun q : Int32 × Int32 × Int32 × HSt => q.2.2.2) (fun _ _ => ?_) | with_reducible refine Fr.iteP (fun q : Int32 × Int32 × Int32 × HSt => q.2.2.2) ?_ ?_ | with_reducible refine Fr.l1 (fun _ _ => ?_) | with_reducible refine Fr.ite ?_ ?_ | with_reducible refine Fr.sE (by assumption) (by first | decide | simp only [List.mem_cons, List.not_mem_nil, or_false, true_or, or_true, eq_self_iff_true]) ?_ | with_reducible refine Fr.jE (by assumption) ?_ | with_reducible refine Fr.rE (by assumption) (by first | decide | simp only [List.mem_cons, List.not_mem_nil, or_false, true_or, or_true, eq_self_iff_true]) ?_ | with_reducible refine Fr.iE (by assumption) ?_ ?_ | with_reducible refine Fr.tr (ih _ _ _ _) (by first | decide | simp only [List.mem_cons, List.not_mem_nil, or_false, forall_eq_or_imp, forall_eq, true_or, or_true, and_self, eq_self_iff_true]) ?_ | with_reducible refine Fr.tr (w_X1_gather _ _ _ (by assumption)) (by first | decide | simp only [List.mem_cons, List.not_mem_nil, or_false, forall_eq_or_imp, forall_eq, true_or, or_true, and_self, eq_self_iff_true]) ?_ | with_reducible refine Fr.tr (w_X6_advance _ _ _ _ _ (by assumption)) (by first | decide | simp only [List.mem_cons, List.not_mem_nil, or_false, forall_eq_or_imp, forall_eq, true_or, or_true, and_self, eq_self_iff_true]) ?_ | with_reducible refine Fr.tr (w_X6_throwAt _ _ _ _ _ _ (by assumption)) (by first | decide | simp only [List.mem_cons, List.not_mem_nil, or_false, forall_eq_or_imp, forall_eq, true_or, or_true, and_self, eq_self_iff_true]) ?_)
theorem wL_X6_perform_38 (sc1 : Nat) (n : Nat) (S : HSt) (v2 : Int32) (v3 : Int32) (v4 : Int32) (r : Int32 × Int32 × Int32 × HSt) (e : L_X6_perform_38 sc1 n S v2 v3 v4 = r) : Fr [(35, 3), (36, 0), (36, 1), (36, 2), (36, 3), (36, 4), (36, 5), (36, 6)] S r.2.2.2 := by
  rw [← e]
  exact vL_X6_perform_38 sc1 n S v2 v3 v4
set_option maxRecDepth 100000 in
theorem l_X6_perform_38 {p : Program} {l : Launch} {e : Env} {s : State} {m : MethodId} {args : Array Value} {below : List Frame} {meth : Method} {c : Code} {G : GG} {Q : State → Prop} (hC : ACx p s m args meth c cX6_perform RX6 5 none) (hSt : St G s) {sc1 : Nat} (hsc1 : (sc1, 7, 0) ∈ cKT) : ∀ (n : Nat) (S : HSt) (v2 : Int32) (v3 : Int32) (v4 : Int32), CS S → T_X6_perform_38 sc1 n S v2 v3 v4 → AW p l e (rmD 5 0 0) s m args below meth c G 5 Q (L_X6_perform_38 sc1 n S v2 v3 v4).2.2.2 0 0 77 [(0, .ref 35), (1, .ref sc1), (2, .int (L_X6_perform_38 sc1 n S v2 v3 v4).1), (3, .int (L_X6_perform_38 sc1 n S v2 v3 v4).2.1), (4, .int (L_X6_perform_38 sc1 n S v2 v3 v4).2.2.1)] [] → AW p l e (rmD 5 0 0) s m args below meth c G 5 Q S 0 0 38 [(0, .ref 35), (1, .ref sc1), (2, .int v2), (3, .int v3), (4, .int v4)] [] := by
  intro n
  induction n with
  | zero => intro S v2 v3 v4 _ hT; exact hT.elim
  | succ n ih =>
    intro S v2 v3 v4 hM hT hk
    unfold T_X6_perform_38 at hT
    obtain ⟨h0, h1⟩ := hT
    refine aw_iload hC 4 dX6_perform_38 rfl ?_
    refine aw_iload_n hC 3 dX6_perform_40 rfl rfl ?_
    refine aw_icmp_ge hC 77 dX6_perform_41 (by decide) (fun c1010 => ?_) (fun c1010 => ?_)
    · refine aw_sub [0, 1, 2, 3, 4] rfl ?_
      have E : L_X6_perform_38 sc1 (n + 1) S v2 v3 v4 = _ := (if_pos c1010).trans (rfl)
      rw [E] at hk
      exact hk
    · refine aw_aload_n hC 0 dX6_perform_44 rfl rfl ?_
      refine aw_getP (b := 36) hC hSt 0 (cs_lt 35 6 0 (by decide) hM) (cs_k 35 6 0 (by decide) hM) rfl (by decide) w_493 rfl (cs_p 35 0 36 (by decide) hM) dX6_perform_45 ?_
      refine aw_cV0r hC hSt (t_X1_hasFallen G l hM _ (by decide)) w_88 w_549 w_204 w_205 w_84 rfl rfl (by decide +kernel) ⟨Nat.le_of_ble_eq_true rfl, Nat.le_of_ble_eq_true rfl⟩ (cs_lt 36 1 0 (by decide) hM) (cs_k 36 1 0 (by decide) hM) rfl (Nat.le_of_ble_eq_true rfl) dX6_perform_48 ⟨Nat.zero_le _, Nat.zero_le _⟩ ?_
      refine aw_if_ne hC 77 dX6_perform_51 (by decide) (fun c1011 => ?_) (fun c1011 => ?_)
      · refine aw_sub [0, 1, 2, 3, 4] rfl ?_
        have E : L_X6_perform_38 sc1 (n + 1) S v2 v3 v4 = _ := (if_neg c1010).trans ((if_neg c1011).trans (rfl))
        rw [E] at hk
        exact hk
      · refine aw_aload_n hC 0 dX6_perform_54 rfl rfl ?_
        refine aw_aload_n hC 1 dX6_perform_55 rfl rfl ?_
        refine aw_iload_n hC 2 dX6_perform_56 rfl rfl ?_
        refine aw_cV2v hC hSt (t_X6_advance G l hM _ _ hsc1 (h0 c1010 c1011)) w_503 w_550 w_551 w_552 w_540 rfl rfl (by decide +kernel) ⟨Nat.le_of_ble_eq_true rfl, Nat.le_of_ble_eq_true rfl⟩ (cs_lt 35 6 0 (by decide) hM) (cs_k 35 6 0 (by decide) hM) rfl (Nat.le_of_ble_eq_true rfl) dX6_perform_57 ⟨Nat.zero_le _, Nat.zero_le _⟩ ?_
        generalize er1012 : f_X6_advance S 35 sc1 v2 = r1012
        have hM : CS r1012 := CS.of (by rw [← er1012]; exact q_X6_advance _ _ _ _) hM
        refine aw_aload_n hC 0 dX6_perform_60 rfl rfl ?_
        refine aw_aload_n hC 0 dX6_perform_61 rfl rfl ?_
        refine aw_getP (b := 36) hC hSt 0 (cs_lt 35 6 0 (by decide) hM) (cs_k 35 6 0 (by decide) hM) rfl (by decide) w_493 rfl (cs_p 35 0 36 (by decide) hM) dX6_perform_62 ?_
        refine aw_getI hC hSt 5 (cs_lt 36 1 0 (by decide) hM) (cs_k 36 1 0 (by decide) hM) rfl (by decide) w_545 rfl dX6_perform_65 ?_
        refine aw_putI hC hSt 3 (cs_lt 35 6 0 (by decide) hM) (cs_k 35 6 0 (by decide) hM) rfl (by decide) w_544 rfl rfl rfl rfl dX6_perform_68 ?_
        generalize eS1013 : (sI r1012 35 3 (gI r1012 36 5)) = S1013
        have hM : CS S1013 := CS.of (by rw [← eS1013]; exact shp_sI _ _ _ _) hM
        refine aw_iinc (v := (v4 + (1 : Int32))) hC 4 [(4, .int _), (0, .ref 35), (1, .ref sc1), (2, .int _), (3, .int _)] dX6_perform_71 rfl rfl (by decide) rfl ?_
        refine aw_goto hC 38 dX6_perform_74 (by decide) ?_
        refine aw_sub [1, 2, 3, 4, 0] rfl ?_
        have hTn := (h1 c1010 c1011 r1012 er1012 S1013 eS1013)
        have hMn : CS S1013 := hM
        have E : L_X6_perform_38 sc1 (n + 1) S v2 v3 v4 = _ := (if_neg c1010).trans ((if_pos c1011).trans ((bd_eq er1012).trans ((bd_eq eS1013).trans (rfl))))
        rw [E] at hk
        exact ih _ _ _ _ hMn hTn hk
noncomputable def f_X6_perform (S : HSt) (_o0 : Nat) (sc1 : Nat) (a2 : Int32) : HSt := bd ((sI S 35 2 (-1000000 : Int32))) fun S1 => bd ((sI S1 35 3 (-1000000 : Int32))) fun S2 => bd ((if (f_X10_isA S2 (sc1 + 1) a2 (1 : Int32)) = 0 then (if (f_X10_isA S2 (sc1 + 1) a2 (4 : Int32)) = 0 then (bd (f_X1_gather S2 36) fun r5 => a2) else (bd ((if (f_X10_isA S2 (sc1 + 1) a2 (5 : Int32)) = 0 then (0 : Int32) else (1 : Int32))) fun x7 => bd (f_X6_throwAt S2 35 sc1 a2 x7) fun r8 => a2)) else (bd ((f_X10_value S2 (sc1 + 1) (5 : Int32) a2 (1 : Int32))) fun x9 => bd (L_X6_perform_38 sc1 1000 S2 a2 x9 (0 : Int32)) fun r10 => r10.1))) fun x11 => bd ((if (f_X10_isA S2 (sc1 + 1) a2 (1 : Int32)) = 0 then (if (f_X10_isA S2 (sc1 + 1) a2 (4 : Int32)) = 0 then (bd (f_X1_gather S2 36) fun r5 => r5) else (bd ((if (f_X10_isA S2 (sc1 + 1) a2 (5 : Int32)) = 0 then (0 : Int32) else (1 : Int32))) fun x7 => bd (f_X6_throwAt S2 35 sc1 a2 x7) fun r8 => r8)) else (bd ((f_X10_value S2 (sc1 + 1) (5 : Int32) a2 (1 : Int32))) fun x9 => bd (L_X6_perform_38 sc1 1000 S2 a2 x9 (0 : Int32)) fun r10 => r10.2.2.2))) fun S12 => S12
def p_X6_perform (S : HSt) (_o0 : Nat) (sc1 : Nat) (a2 : Int32) : Prop := (∀ S1 : HSt, (sI S 35 2 (-1000000 : Int32)) = S1 → ∀ S2 : HSt, (sI S1 35 3 (-1000000 : Int32)) = S2 → p_X10_isA S2 (sc1 + 1) a2 (1 : Int32)) ∧ (∀ S1 : HSt, (sI S 35 2 (-1000000 : Int32)) = S1 → ∀ S2 : HSt, (sI S1 35 3 (-1000000 : Int32)) = S2 → ((f_X10_isA S2 (sc1 + 1) a2 (1 : Int32)) = 0) → p_X10_isA S2 (sc1 + 1) a2 (4 : Int32)) ∧ (∀ S1 : HSt, (sI S 35 2 (-1000000 : Int32)) = S1 → ∀ S2 : HSt, (sI S1 35 3 (-1000000 : Int32)) = S2 → ((f_X10_isA S2 (sc1 + 1) a2 (1 : Int32)) = 0) → (¬ (f_X10_isA S2 (sc1 + 1) a2 (4 : Int32)) = 0) → p_X10_isA S2 (sc1 + 1) a2 (5 : Int32)) ∧ (∀ S1 : HSt, (sI S 35 2 (-1000000 : Int32)) = S1 → ∀ S2 : HSt, (sI S1 35 3 (-1000000 : Int32)) = S2 → ((f_X10_isA S2 (sc1 + 1) a2 (1 : Int32)) = 0) → (¬ (f_X10_isA S2 (sc1 + 1) a2 (4 : Int32)) = 0) → ∀ x7 : Int32, (if (f_X10_isA S2 (sc1 + 1) a2 (5 : Int32)) = 0 then (0 : Int32) else (1 : Int32)) = x7 → p_X6_throwAt S2 35 sc1 a2 x7) ∧ (∀ S1 : HSt, (sI S 35 2 (-1000000 : Int32)) = S1 → ∀ S2 : HSt, (sI S1 35 3 (-1000000 : Int32)) = S2 → (¬ (f_X10_isA S2 (sc1 + 1) a2 (1 : Int32)) = 0) → p_X10_value S2 (sc1 + 1) (5 : Int32) a2 (1 : Int32)) ∧ (∀ S1 : HSt, (sI S 35 2 (-1000000 : Int32)) = S1 → ∀ S2 : HSt, (sI S1 35 3 (-1000000 : Int32)) = S2 → (¬ (f_X10_isA S2 (sc1 + 1) a2 (1 : Int32)) = 0) → ∀ x9 : Int32, (f_X10_value S2 (sc1 + 1) (5 : Int32) a2 (1 : Int32)) = x9 → T_X6_perform_38 sc1 1000 S2 a2 x9 (0 : Int32))
set_option maxRecDepth 100000 in
theorem t_X6_perform (G : GG) (l : Launch) {S : HSt} (hM : CS S) (sc1 : Nat) (a2 : Int32) (hsc1 : (sc1, 7, 0) ∈ cKT) (hp : p_X6_perform S 35 sc1 a2) : AM G l yX6_perform cX6_perform 5 none (rmD 5 0 0) 0 0 [.ref 35, .ref sc1, .int a2] S (FP none (f_X6_perform S 35 sc1 a2)) := by
  obtain ⟨h0, h1, h2, h3, h4, h5⟩ := hp
  refine AM.mk (by decide) (Nat.le_of_ble_eq_true rfl) ?_
  intro p e s m below meth c hC hSt _
  refine aw_aload_n hC 0 dX6_perform_0 rfl rfl ?_
  refine aw_ldc (v := -1000000) hC w_543 dX6_perform_1 ?_
  refine aw_putI hC hSt 2 (cs_lt 35 6 0 (by decide) hM) (cs_k 35 6 0 (by decide) hM) rfl (by decide) w_525 rfl rfl rfl rfl dX6_perform_3 ?_
  generalize eS1 : (sI S 35 2 (-1000000 : Int32)) = S1
  have hM : CS S1 := CS.of (by rw [← eS1]; exact shp_sI _ _ _ _) hM
  refine aw_aload_n hC 0 dX6_perform_6 rfl rfl ?_
  refine aw_ldc (v := -1000000) hC w_543 dX6_perform_7 ?_
  refine aw_putI hC hSt 3 (cs_lt 35 6 0 (by decide) hM) (cs_k 35 6 0 (by decide) hM) rfl (by decide) w_544 rfl rfl rfl rfl dX6_perform_9 ?_
  generalize eS2 : (sI S1 35 3 (-1000000 : Int32)) = S2
  have hM : CS S2 := CS.of (by rw [← eS2]; exact shp_sI _ _ _ _) hM
  refine aw_aload_n hC 1 dX6_perform_12 rfl rfl ?_
  refine aw_getP (b := (sc1 + 1)) hC hSt 0 (cs_lt sc1 7 0 hsc1 hM) (cs_k sc1 7 0 hsc1 hM) rfl (by decide) w_499 rfl (cs_p sc1 0 (sc1 + 1) (sc_pway hsc1) hM) dX6_perform_13 ?_
  refine aw_iload_n hC 2 dX6_perform_16 rfl rfl ?_
  refine aw_iconst (v := 1) hC dX6_perform_17 (by decide) ?_
  refine aw_cV2r hC hSt (t_X10_isA G l hM _ _ _ (sc_way hsc1) (h0 S1 eS1 S2 eS2)) w_496 w_546 w_547 w_548 w_18 rfl rfl (by decide +kernel) ⟨Nat.le_of_ble_eq_true rfl, Nat.le_of_ble_eq_true rfl⟩ (cs_lt (sc1 + 1) 10 0 (sc_way hsc1) hM) (cs_k (sc1 + 1) 10 0 (sc_way hsc1) hM) rfl (Nat.le_of_ble_eq_true rfl) dX6_perform_18 ⟨Nat.zero_le _, Nat.zero_le _⟩ ?_
  refine aw_cut (S' := (if (f_X10_isA S2 (sc1 + 1) a2 (1 : Int32)) = 0 then (if (f_X10_isA S2 (sc1 + 1) a2 (4 : Int32)) = 0 then (bd (f_X1_gather S2 36) fun r5 => r5) else (bd ((if (f_X10_isA S2 (sc1 + 1) a2 (5 : Int32)) = 0 then (0 : Int32) else (1 : Int32))) fun x7 => bd (f_X6_throwAt S2 35 sc1 a2 x7) fun r8 => r8)) else (bd ((f_X10_value S2 (sc1 + 1) (5 : Int32) a2 (1 : Int32))) fun x9 => bd (L_X6_perform_38 sc1 1000 S2 a2 x9 (0 : Int32)) fun r10 => r10.2.2.2))) (pc' := 125) (lv' := [(0, .ref 35), (1, .ref sc1), (2, .int (if (f_X10_isA S2 (sc1 + 1) a2 (1 : Int32)) = 0 then (if (f_X10_isA S2 (sc1 + 1) a2 (4 : Int32)) = 0 then (bd (f_X1_gather S2 36) fun r5 => a2) else (bd ((if (f_X10_isA S2 (sc1 + 1) a2 (5 : Int32)) = 0 then (0 : Int32) else (1 : Int32))) fun x7 => bd (f_X6_throwAt S2 35 sc1 a2 x7) fun r8 => a2)) else (bd ((f_X10_value S2 (sc1 + 1) (5 : Int32) a2 (1 : Int32))) fun x9 => bd (L_X6_perform_38 sc1 1000 S2 a2 x9 (0 : Int32)) fun r10 => r10.1)))]) (st' := []) ?_ (fun Jc3 => ?_)
  · generalize ex11 : (if (f_X10_isA S2 (sc1 + 1) a2 (1 : Int32)) = 0 then (if (f_X10_isA S2 (sc1 + 1) a2 (4 : Int32)) = 0 then (bd (f_X1_gather S2 36) fun r5 => a2) else (bd ((if (f_X10_isA S2 (sc1 + 1) a2 (5 : Int32)) = 0 then (0 : Int32) else (1 : Int32))) fun x7 => bd (f_X6_throwAt S2 35 sc1 a2 x7) fun r8 => a2)) else (bd ((f_X10_value S2 (sc1 + 1) (5 : Int32) a2 (1 : Int32))) fun x9 => bd (L_X6_perform_38 sc1 1000 S2 a2 x9 (0 : Int32)) fun r10 => r10.1)) = x11
    generalize eS12 : (if (f_X10_isA S2 (sc1 + 1) a2 (1 : Int32)) = 0 then (if (f_X10_isA S2 (sc1 + 1) a2 (4 : Int32)) = 0 then (bd (f_X1_gather S2 36) fun r5 => r5) else (bd ((if (f_X10_isA S2 (sc1 + 1) a2 (5 : Int32)) = 0 then (0 : Int32) else (1 : Int32))) fun x7 => bd (f_X6_throwAt S2 35 sc1 a2 x7) fun r8 => r8)) else (bd ((f_X10_value S2 (sc1 + 1) (5 : Int32) a2 (1 : Int32))) fun x9 => bd (L_X6_perform_38 sc1 1000 S2 a2 x9 (0 : Int32)) fun r10 => r10.2.2.2)) = S12
    have hM : CS S12 := CS.of (by rw [← eS12]; repeat' (first | with_reducible rfl | with_reducible refine (qL_X6_perform_38 sc1 _ _ _ _ _).trans ?_ | with_reducible refine (q_X1_gather _ _).trans ?_ | with_reducible refine (q_X6_throwAt _ _ _ _ _).trans ?_ | with_reducible refine (shp_sI _ _ _ _).trans ?_ | with_reducible refine (shp_sJ _ _ _ _).trans ?_ | with_reducible refine (shp_rI _ _ _).trans ?_ | with_reducible refine shi ?_ ?_ | with_reducible refine shb (fun _ _ => ?_) | (subst_vars; with_reducible rfl) | (subst_vars; with_reducible refine (qL_X6_perform_38 sc1 _ _ _ _ _).trans ?_) | (subst_vars; with_reducible refine (q_X1_gather _ _).trans ?_) | (subst_vars; with_reducible refine (q_X6_throwAt _ _ _ _ _).trans ?_) | (subst_vars; with_reducible refine (shp_sI _ _ _ _).trans ?_) | (subst_vars; with_reducible refine (shp_sJ _ _ _ _).trans ?_) | (subst_vars; with_reducible refine (shp_rI _ _ _).trans ?_) | (subst_vars; with_reducible refine shi ?_ ?_) | (subst_vars; with_reducible refine shb (fun _ _ => ?_)))) hM
    refine aw_vret hC dX6_perform_125 (Nat.le_refl _) (Nat.le_refl _) ?_
    exact FP.qV ((bd_eq eS1).trans ((bd_eq eS2).trans ((bd_eq ex11).trans ((bd_eq eS12).trans (rfl)))))
  · refine aw_if_eq hC 80 dX6_perform_21 (by decide) (fun c3 => ?_) (fun c3 => ?_)
    · refine aw_aload_n hC 1 dX6_perform_80 rfl rfl ?_
      refine aw_getP (b := (sc1 + 1)) hC hSt 0 (cs_lt sc1 7 0 hsc1 hM) (cs_k sc1 7 0 hsc1 hM) rfl (by decide) w_499 rfl (cs_p sc1 0 (sc1 + 1) (sc_pway hsc1) hM) dX6_perform_81 ?_
      refine aw_iload_n hC 2 dX6_perform_84 rfl rfl ?_
      refine aw_iconst (v := 4) hC dX6_perform_85 (by decide) ?_
      refine aw_cV2r hC hSt (t_X10_isA G l hM _ _ _ (sc_way hsc1) (h1 S1 eS1 S2 eS2 c3)) w_496 w_546 w_547 w_548 w_18 rfl rfl (by decide +kernel) ⟨Nat.le_of_ble_eq_true rfl, Nat.le_of_ble_eq_true rfl⟩ (cs_lt (sc1 + 1) 10 0 (sc_way hsc1) hM) (cs_k (sc1 + 1) 10 0 (sc_way hsc1) hM) rfl (Nat.le_of_ble_eq_true rfl) dX6_perform_86 ⟨Nat.zero_le _, Nat.zero_le _⟩ ?_
      refine aw_if_eq hC 118 dX6_perform_89 (by decide) (fun c4 => ?_) (fun c4 => ?_)
      · refine aw_aload_n hC 0 dX6_perform_118 rfl rfl ?_
        refine aw_getP (b := 36) hC hSt 0 (cs_lt 35 6 0 (by decide) hM) (cs_k 35 6 0 (by decide) hM) rfl (by decide) w_493 rfl (cs_p 35 0 36 (by decide) hM) dX6_perform_119 ?_
        refine aw_cV0v hC hSt (t_X1_gather G l hM _ (by decide)) w_85 w_556 w_557 w_558 w_84 rfl rfl (by decide +kernel) ⟨Nat.le_of_ble_eq_true rfl, Nat.le_of_ble_eq_true rfl⟩ (cs_lt 36 1 0 (by decide) hM) (cs_k 36 1 0 (by decide) hM) rfl (Nat.le_of_ble_eq_true rfl) dX6_perform_122 ⟨Nat.zero_le _, Nat.zero_le _⟩ ?_
        generalize er5 : f_X1_gather S2 36 = r5
        have hM : CS r5 := CS.of (by rw [← er5]; exact q_X1_gather _ _) hM
        subst er5
        simp only [bd_def, if_pos c3, if_pos c4] at Jc3 ⊢
        exact Jc3
      · refine aw_aload_n hC 0 dX6_perform_92 rfl rfl ?_
        refine aw_aload_n hC 1 dX6_perform_93 rfl rfl ?_
        refine aw_iload_n hC 2 dX6_perform_94 rfl rfl ?_
        refine aw_aload_n hC 1 dX6_perform_95 rfl rfl ?_
        refine aw_getP (b := (sc1 + 1)) hC hSt 0 (cs_lt sc1 7 0 hsc1 hM) (cs_k sc1 7 0 hsc1 hM) rfl (by decide) w_499 rfl (cs_p sc1 0 (sc1 + 1) (sc_pway hsc1) hM) dX6_perform_96 ?_
        refine aw_iload_n hC 2 dX6_perform_99 rfl rfl ?_
        refine aw_iconst (v := 5) hC dX6_perform_100 (by decide) ?_
        refine aw_cV2r hC hSt (t_X10_isA G l hM _ _ _ (sc_way hsc1) (h2 S1 eS1 S2 eS2 c3 c4)) w_496 w_546 w_547 w_548 w_18 rfl rfl (by decide +kernel) ⟨Nat.le_of_ble_eq_true rfl, Nat.le_of_ble_eq_true rfl⟩ (cs_lt (sc1 + 1) 10 0 (sc_way hsc1) hM) (cs_k (sc1 + 1) 10 0 (sc_way hsc1) hM) rfl (Nat.le_of_ble_eq_true rfl) dX6_perform_101 ⟨Nat.zero_le _, Nat.zero_le _⟩ ?_
        refine aw_cut (S' := S2) (pc' := 112) (lv' := [(0, .ref 35), (1, .ref sc1), (2, .int a2)]) (st' := [.int (if (f_X10_isA S2 (sc1 + 1) a2 (5 : Int32)) = 0 then (0 : Int32) else (1 : Int32)), .int a2, .ref sc1, .ref 35]) ?_ (fun Jc6 => ?_)
        · generalize ex7 : (if (f_X10_isA S2 (sc1 + 1) a2 (5 : Int32)) = 0 then (0 : Int32) else (1 : Int32)) = x7
          refine aw_cV3v hC hSt (t_X6_throwAt G l hM _ _ _ hsc1 (h3 S1 eS1 S2 eS2 c3 c4 x7 ex7)) w_542 w_553 w_554 w_555 w_540 rfl rfl (by decide +kernel) ⟨Nat.le_of_ble_eq_true rfl, Nat.le_of_ble_eq_true rfl⟩ (cs_lt 35 6 0 (by decide) hM) (cs_k 35 6 0 (by decide) hM) rfl (Nat.le_of_ble_eq_true rfl) dX6_perform_112 ⟨Nat.zero_le _, Nat.zero_le _⟩ ?_
          generalize er8 : f_X6_throwAt S2 35 sc1 a2 x7 = r8
          have hM : CS r8 := CS.of (by rw [← er8]; exact q_X6_throwAt _ _ _ _ _) hM
          refine aw_goto hC 125 dX6_perform_115 (by decide) ?_
          subst er8
          subst ex7
          simp only [bd_def, if_pos c3, if_neg c4] at Jc3 ⊢
          exact Jc3
        · refine aw_if_eq hC 111 dX6_perform_104 (by decide) (fun c6 => ?_) (fun c6 => ?_)
          · refine aw_iconst (v := 0) hC dX6_perform_111 (by decide) ?_
            simp only [bd_def, if_pos c6] at Jc6 ⊢
            exact Jc6
          · refine aw_iconst (v := 1) hC dX6_perform_107 (by decide) ?_
            refine aw_goto hC 112 dX6_perform_108 (by decide) ?_
            simp only [bd_def, if_neg c6] at Jc6 ⊢
            exact Jc6
    · refine aw_aload_n hC 1 dX6_perform_24 rfl rfl ?_
      refine aw_getP (b := (sc1 + 1)) hC hSt 0 (cs_lt sc1 7 0 hsc1 hM) (cs_k sc1 7 0 hsc1 hM) rfl (by decide) w_499 rfl (cs_p sc1 0 (sc1 + 1) (sc_pway hsc1) hM) dX6_perform_25 ?_
      refine aw_iconst (v := 5) hC dX6_perform_28 (by decide) ?_
      refine aw_iload_n hC 2 dX6_perform_29 rfl rfl ?_
      refine aw_iconst (v := 1) hC dX6_perform_30 (by decide) ?_
      refine aw_cV3r hC hSt (t_X10_value G l hM _ _ _ _ (sc_way hsc1) (h4 S1 eS1 S2 eS2 c3)) w_10 w_501 w_16 w_17 w_18 rfl rfl (by decide +kernel) ⟨Nat.le_of_ble_eq_true rfl, Nat.le_of_ble_eq_true rfl⟩ (cs_lt (sc1 + 1) 10 0 (sc_way hsc1) hM) (cs_k (sc1 + 1) 10 0 (sc_way hsc1) hM) rfl (Nat.le_of_ble_eq_true rfl) dX6_perform_31 ⟨Nat.zero_le _, Nat.zero_le _⟩ ?_
      refine aw_istore_n hC [(3, .int _), (0, .ref 35), (1, .ref sc1), (2, .int _)] dX6_perform_34 rfl (by decide) rfl ?_
      generalize ex9 : (f_X10_value S2 (sc1 + 1) (5 : Int32) a2 (1 : Int32)) = x9
      refine aw_iconst (v := 0) hC dX6_perform_35 (by decide) ?_
      refine aw_istore hC [(4, .int _), (3, .int _), (0, .ref 35), (1, .ref sc1), (2, .int _)] dX6_perform_36 (by decide) rfl ?_
      refine aw_sub [2, 3, 4, 1, 0] rfl ?_
      refine l_X6_perform_38 hC hSt hsc1 1000 _ _ _ _ hM (h5 S1 eS1 S2 eS2 c3 x9 ex9) ?_
      generalize er10 : L_X6_perform_38 sc1 1000 S2 a2 x9 (0 : Int32) = r10
      have hM : CS r10.2.2.2 := CS.of (by rw [← er10]; exact qL_X6_perform_38 sc1 _ _ _ _ _) hM
      refine aw_goto hC 125 dX6_perform_77 (by decide) ?_
      refine aw_sub [0, 1, 2] rfl ?_
      subst er10
      subst ex9
      simp only [bd_def, if_neg c3] at Jc3 ⊢
      exact Jc3
theorem q_X6_perform (S : HSt) (_o0 : Nat) (sc1 : Nat) (a2 : Int32) : shp (f_X6_perform S _o0 sc1 a2) = shp S := by
  unfold f_X6_perform
  repeat' (first | with_reducible rfl | with_reducible refine (q_X1_gather _ _).trans ?_ | with_reducible refine (q_X6_advance _ _ _ _).trans ?_ | with_reducible refine (q_X6_throwAt _ _ _ _ _).trans ?_ | with_reducible refine (qL_X6_perform_38 sc1 _ _ _ _ _).trans ?_ | with_reducible refine (shp_sI _ _ _ _).trans ?_ | with_reducible refine (shp_sJ _ _ _ _).trans ?_ | with_reducible refine (shp_rI _ _ _).trans ?_ | with_reducible refine shi ?_ ?_ | with_reducible refine shb (fun _ _ => ?_) | (subst_vars; with_reducible rfl) | (subst_vars; with_reducible refine (q_X1_gather _ _).trans ?_) | (subst_vars; with_reducible refine (q_X6_advance _ _ _ _).trans ?_) | (subst_vars; with_reducible refine (q_X6_throwAt _ _ _ _ _).trans ?_) | (subst_vars; with_reducible refine (qL_X6_perform_38 sc1 _ _ _ _ _).trans ?_) | (subst_vars; with_reducible refine (shp_sI _ _ _ _).trans ?_) | (subst_vars; with_reducible refine (shp_sJ _ _ _ _).trans ?_) | (subst_vars; with_reducible refine (shp_rI _ _ _).trans ?_) | (subst_vars; with_reducible refine shi ?_ ?_) | (subst_vars; with_reducible refine shb (fun _ _ => ?_)))
theorem v_X6_perform (S : HSt) (_o0 : Nat) (sc1 : Nat) (a2 : Int32) : Fr [(35, 2), (35, 3), (35, 4), (35, 7), (36, 0), (36, 1), (36, 2), (36, 3), (36, 4), (36, 5), (36, 6), (37, 0), (37, 1), (37, 10), (37, 2), (37, 3), (37, 4), (37, 5), (37, 6), (37, 7), (37, 8), (37, 9)] S (f_X6_perform S _o0 sc1 a2) := by
  unfold f_X6_perform
  repeat' (first | with_reducible exact Fr.refl _ _ | with_reducible refine Fr.l1 (fun _ _ => ?_) | with_reducible refine Fr.ite ?_ ?_ | with_reducible refine Fr.sE (by assumption) (by first | decide | simp only [List.mem_cons, List.not_mem_nil, or_false, true_or, or_true, eq_self_iff_true]) ?_ | with_reducible refine Fr.jE (by assumption) ?_ | with_reducible refine Fr.rE (by assumption) (by first | decide | simp only [List.mem_cons, List.not_mem_nil, or_false, true_or, or_true, eq_self_iff_true]) ?_ | with_reducible refine Fr.iE (by assumption) ?_ ?_ | with_reducible refine Fr.tr (w_X1_gather _ _ _ (by assumption)) (by first | decide | simp only [List.mem_cons, List.not_mem_nil, or_false, forall_eq_or_imp, forall_eq, true_or, or_true, and_self, eq_self_iff_true]) ?_ | with_reducible refine Fr.tr (w_X6_advance _ _ _ _ _ (by assumption)) (by first | decide | simp only [List.mem_cons, List.not_mem_nil, or_false, forall_eq_or_imp, forall_eq, true_or, or_true, and_self, eq_self_iff_true]) ?_ | with_reducible refine Fr.tr (w_X6_throwAt _ _ _ _ _ _ (by assumption)) (by first | decide | simp only [List.mem_cons, List.not_mem_nil, or_false, forall_eq_or_imp, forall_eq, true_or, or_true, and_self, eq_self_iff_true]) ?_ | with_reducible refine Fr.tr (wL_X6_perform_38 sc1 _ _ _ _ _ _ (by assumption)) (by first | decide | simp only [List.mem_cons, List.not_mem_nil, or_false, forall_eq_or_imp, forall_eq, true_or, or_true, and_self, eq_self_iff_true]) ?_)
theorem w_X6_perform (S : HSt) (_o0 : Nat) (sc1 : Nat) (a2 : Int32) (r : HSt) (e : f_X6_perform S _o0 sc1 a2 = r) : Fr [(35, 2), (35, 3), (35, 4), (35, 7), (36, 0), (36, 1), (36, 2), (36, 3), (36, 4), (36, 5), (36, 6), (37, 0), (37, 1), (37, 10), (37, 2), (37, 3), (37, 4), (37, 5), (37, 6), (37, 7), (37, 8), (37, 9)] S r := by
  rw [← e]
  exact v_X6_perform S _o0 sc1 a2
noncomputable def L_X6_run_57 (sc1 : Nat) : Nat → HSt → Int32 → Int32 → Int32 → Int32 × Int32 × Int32 × HSt
  | 0, S, v2, v3, v4 => (v2, v3, v4, S)
  | n + 1, S, v2, v3, v4 =>
    if v3 < v4 then ((pr (v2) (pr (v3) (pr (v4) (S))))) else (bd (f_X6_perform S 35 sc1 v4) fun r1010 => L_X6_run_57 sc1 n r1010 v2 v3 (v4 + (1 : Int32)))
def T_X6_run_57 (sc1 : Nat) : Nat → HSt → Int32 → Int32 → Int32 → Prop
  | 0, _, _, _, _ => False
  | n + 1, S, v2, v3, v4 => ((¬ v3 < v4) → p_X6_perform S 35 sc1 v4) ∧ ((¬ v3 < v4) → ∀ r1010, f_X6_perform S 35 sc1 v4 = r1010 → T_X6_run_57 sc1 n r1010 v2 v3 (v4 + (1 : Int32)))
theorem qL_X6_run_57 (sc1 : Nat) : ∀ (n : Nat) (S : HSt) (v2 : Int32) (v3 : Int32) (v4 : Int32), shp (L_X6_run_57 sc1 n S v2 v3 v4).2.2.2 = shp S := by
  intro n
  induction n with
  | zero => intros; rfl
  | succ n ih =>
    intro S v2 v3 v4
    unfold L_X6_run_57
    repeat' (first | with_reducible refine shpr3 ?_ | with_reducible rfl | with_reducible refine (ih _ _ _ _).trans ?_ | with_reducible refine (q_X1_begin _ _).trans ?_ | with_reducible refine (q_X6_perform _ _ _ _).trans ?_ | with_reducible refine (shp_sI _ _ _ _).trans ?_ | with_reducible refine (shp_sJ _ _ _ _).trans ?_ | with_reducible refine (shp_rI _ _ _).trans ?_ | with_reducible refine shi ?_ ?_ | with_reducible refine shb (fun _ _ => ?_) | with_reducible refine shiP (fun q : Int32 × Int32 × Int32 × HSt => q.2.2.2) ?_ ?_ | with_reducible refine shbP (fun q : Int32 × Int32 × Int32 × HSt => q.2.2.2) (fun _ _ => ?_) | (subst_vars; with_reducible rfl) | (subst_vars; with_reducible refine (ih _ _ _ _).trans ?_) | (subst_vars; with_reducible refine (q_X1_begin _ _).trans ?_) | (subst_vars; with_reducible refine (q_X6_perform _ _ _ _).trans ?_) | (subst_vars; with_reducible refine (shp_sI _ _ _ _).trans ?_) | (subst_vars; with_reducible refine (shp_sJ _ _ _ _).trans ?_) | (subst_vars; with_reducible refine (shp_rI _ _ _).trans ?_) | (subst_vars; with_reducible refine shi ?_ ?_) | (subst_vars; with_reducible refine shb (fun _ _ => ?_)))
theorem vL_X6_run_57 (sc1 : Nat) : ∀ (n : Nat) (S : HSt) (v2 : Int32) (v3 : Int32) (v4 : Int32), Fr [(35, 2), (35, 3), (35, 4), (35, 7), (36, 0), (36, 1), (36, 2), (36, 3), (36, 4), (36, 5), (36, 6), (37, 0), (37, 1), (37, 10), (37, 2), (37, 3), (37, 4), (37, 5), (37, 6), (37, 7), (37, 8), (37, 9)] S (L_X6_run_57 sc1 n S v2 v3 v4).2.2.2 := by
  intro n
  induction n with
  | zero => intros; exact Fr.refl _ _
  | succ n ih =>
    intro S v2 v3 v4
    unfold L_X6_run_57
    repeat' (first | with_reducible refine frpr3 ?_ | with_reducible exact Fr.refl _ _ | with_reducible refine Fr.lP (fun q : Int32 × Int32 × Int32 × HSt => q.2.2.2) (fun _ _ => ?_) | with_reducible refine Fr.iteP (fun q : Int32 × Int32 × Int32 × HSt => q.2.2.2) ?_ ?_ | with_reducible refine Fr.l1 (fun _ _ => ?_) | with_reducible refine Fr.ite ?_ ?_ | with_reducible refine Fr.sE (by assumption) (by first | decide | simp only [List.mem_cons, List.not_mem_nil, or_false, true_or, or_true, eq_self_iff_true]) ?_ | with_reducible refine Fr.jE (by assumption) ?_ | with_reducible refine Fr.rE (by assumption) (by first | decide | simp only [List.mem_cons, List.not_mem_nil, or_false, true_or, or_true, eq_self_iff_true]) ?_ | with_reducible refine Fr.iE (by assumption) ?_ ?_ | with_reducible refine Fr.tr (ih _ _ _ _) (by first | decide | simp only [List.mem_cons, List.not_mem_nil, or_false, forall_eq_or_imp, forall_eq, true_or, or_true, and_self, eq_self_iff_true]) ?_ | with_reducible refine Fr.tr (w_X1_begin _ _ _ (by assumption)) (by first | decide | simp only [List.mem_cons, List.not_mem_nil, or_false, forall_eq_or_imp, forall_eq, true_or, or_true, and_self, eq_self_iff_true]) ?_ | with_reducible refine Fr.tr (w_X6_perform _ _ _ _ _ (by assumption)) (by first | decide | simp only [List.mem_cons, List.not_mem_nil, or_false, forall_eq_or_imp, forall_eq, true_or, or_true, and_self, eq_self_iff_true]) ?_)
theorem wL_X6_run_57 (sc1 : Nat) (n : Nat) (S : HSt) (v2 : Int32) (v3 : Int32) (v4 : Int32) (r : Int32 × Int32 × Int32 × HSt) (e : L_X6_run_57 sc1 n S v2 v3 v4 = r) : Fr [(35, 2), (35, 3), (35, 4), (35, 7), (36, 0), (36, 1), (36, 2), (36, 3), (36, 4), (36, 5), (36, 6), (37, 0), (37, 1), (37, 10), (37, 2), (37, 3), (37, 4), (37, 5), (37, 6), (37, 7), (37, 8), (37, 9)] S r.2.2.2 := by
  rw [← e]
  exact vL_X6_run_57 sc1 n S v2 v3 v4
set_option maxRecDepth 100000 in
theorem l_X6_run_57 {p : Program} {l : Launch} {e : Env} {s : State} {m : MethodId} {args : Array Value} {below : List Frame} {meth : Method} {c : Code} {G : GG} {Q : State → Prop} (hC : ACx p s m args meth c cX6_run RX6 5 none) (hSt : St G s) {sc1 : Nat} (hsc1 : (sc1, 7, 0) ∈ cKT) : ∀ (n : Nat) (S : HSt) (v2 : Int32) (v3 : Int32) (v4 : Int32), CS S → T_X6_run_57 sc1 n S v2 v3 v4 → AW p l e (rmD 6 0 0) s m args below meth c G 5 Q (L_X6_run_57 sc1 n S v2 v3 v4).2.2.2 0 0 76 [(0, .ref 35), (1, .ref sc1), (2, .int (L_X6_run_57 sc1 n S v2 v3 v4).1), (3, .int (L_X6_run_57 sc1 n S v2 v3 v4).2.1), (4, .int (L_X6_run_57 sc1 n S v2 v3 v4).2.2.1)] [] → AW p l e (rmD 6 0 0) s m args below meth c G 5 Q S 0 0 57 [(0, .ref 35), (1, .ref sc1), (2, .int v2), (3, .int v3), (4, .int v4)] [] := by
  intro n
  induction n with
  | zero => intro S v2 v3 v4 _ hT; exact hT.elim
  | succ n ih =>
    intro S v2 v3 v4 hM hT hk
    unfold T_X6_run_57 at hT
    obtain ⟨h0, h1⟩ := hT
    refine aw_iload hC 4 dX6_run_57 rfl ?_
    refine aw_iload_n hC 3 dX6_run_59 rfl rfl ?_
    refine aw_icmp_gt hC 76 dX6_run_60 (by decide) (fun c1009 => ?_) (fun c1009 => ?_)
    · refine aw_sub [0, 1, 2, 3, 4] rfl ?_
      have E : L_X6_run_57 sc1 (n + 1) S v2 v3 v4 = _ := (if_pos c1009).trans (rfl)
      rw [E] at hk
      exact hk
    · refine aw_aload_n hC 0 dX6_run_63 rfl rfl ?_
      refine aw_aload_n hC 1 dX6_run_64 rfl rfl ?_
      refine aw_iload hC 4 dX6_run_65 rfl ?_
      refine aw_cV2v hC hSt (t_X6_perform G l hM _ _ hsc1 (h0 c1009)) w_559 w_565 w_566 w_567 w_540 rfl rfl (by decide +kernel) ⟨Nat.le_of_ble_eq_true rfl, Nat.le_of_ble_eq_true rfl⟩ (cs_lt 35 6 0 (by decide) hM) (cs_k 35 6 0 (by decide) hM) rfl (Nat.le_of_ble_eq_true rfl) dX6_run_67 ⟨Nat.zero_le _, Nat.zero_le _⟩ ?_
      generalize er1010 : f_X6_perform S 35 sc1 v4 = r1010
      have hM : CS r1010 := CS.of (by rw [← er1010]; exact q_X6_perform _ _ _ _) hM
      refine aw_iinc (v := (v4 + (1 : Int32))) hC 4 [(4, .int _), (0, .ref 35), (1, .ref sc1), (2, .int _), (3, .int _)] dX6_run_70 rfl rfl (by decide) rfl ?_
      refine aw_goto hC 57 dX6_run_73 (by decide) ?_
      refine aw_sub [1, 2, 3, 4, 0] rfl ?_
      have hTn := (h1 c1009 r1010 er1010)
      have hMn : CS r1010 := hM
      have E : L_X6_run_57 sc1 (n + 1) S v2 v3 v4 = _ := (if_neg c1009).trans ((bd_eq er1010).trans (rfl))
      rw [E] at hk
      exact ih _ _ _ _ hMn hTn hk
noncomputable def f_X6_run (S : HSt) (_o0 : Nat) (sc1 : Nat) (a2 : Int32) : HSt := bd (f_X1_begin S 36) fun r1 => bd ((sI r1 35 2 (-1000000 : Int32))) fun S2 => bd ((sI S2 35 3 (-1000000 : Int32))) fun S3 => bd ((sI S3 35 4 (0 : Int32))) fun S4 => bd ((sJ S4 35 5 (1 : Int64))) fun S5 => bd ((sJ S5 35 6 (1 : Int64))) fun S6 => bd ((sI S6 35 7 (0 : Int32))) fun S7 => bd ((if ((f_X10_howMany S7 (sc1 + 1) (5 : Int32)) - (1 : Int32)) < a2 then ((f_X10_howMany S7 (sc1 + 1) (5 : Int32)) - (1 : Int32)) else a2)) fun x8 => bd (L_X6_run_57 sc1 1000 S7 a2 x8 (0 : Int32)) fun r9 => r9.2.2.2
def p_X6_run (S : HSt) (_o0 : Nat) (sc1 : Nat) (a2 : Int32) : Prop := (∀ r1, f_X1_begin S 36 = r1 → ∀ S2 : HSt, (sI r1 35 2 (-1000000 : Int32)) = S2 → ∀ S3 : HSt, (sI S2 35 3 (-1000000 : Int32)) = S3 → ∀ S4 : HSt, (sI S3 35 4 (0 : Int32)) = S4 → ∀ S5 : HSt, (sJ S4 35 5 (1 : Int64)) = S5 → ∀ S6 : HSt, (sJ S5 35 6 (1 : Int64)) = S6 → ∀ S7 : HSt, (sI S6 35 7 (0 : Int32)) = S7 → p_X10_howMany S7 (sc1 + 1) (5 : Int32)) ∧ (∀ r1, f_X1_begin S 36 = r1 → ∀ S2 : HSt, (sI r1 35 2 (-1000000 : Int32)) = S2 → ∀ S3 : HSt, (sI S2 35 3 (-1000000 : Int32)) = S3 → ∀ S4 : HSt, (sI S3 35 4 (0 : Int32)) = S4 → ∀ S5 : HSt, (sJ S4 35 5 (1 : Int64)) = S5 → ∀ S6 : HSt, (sJ S5 35 6 (1 : Int64)) = S6 → ∀ S7 : HSt, (sI S6 35 7 (0 : Int32)) = S7 → ∀ x8 : Int32, (if ((f_X10_howMany S7 (sc1 + 1) (5 : Int32)) - (1 : Int32)) < a2 then ((f_X10_howMany S7 (sc1 + 1) (5 : Int32)) - (1 : Int32)) else a2) = x8 → T_X6_run_57 sc1 1000 S7 a2 x8 (0 : Int32))
set_option maxRecDepth 100000 in
theorem t_X6_run (G : GG) (l : Launch) {S : HSt} (hM : CS S) (sc1 : Nat) (a2 : Int32) (hsc1 : (sc1, 7, 0) ∈ cKT) (hp : p_X6_run S 35 sc1 a2) : AM G l yX6_run cX6_run 5 none (rmD 6 0 0) 0 0 [.ref 35, .ref sc1, .int a2] S (FP none (f_X6_run S 35 sc1 a2)) := by
  obtain ⟨h0, h1⟩ := hp
  refine AM.mk (by decide) (Nat.le_of_ble_eq_true rfl) ?_
  intro p e s m below meth c hC hSt _
  refine aw_aload_n hC 0 dX6_run_0 rfl rfl ?_
  refine aw_getP (b := 36) hC hSt 0 (cs_lt 35 6 0 (by decide) hM) (cs_k 35 6 0 (by decide) hM) rfl (by decide) w_493 rfl (cs_p 35 0 36 (by decide) hM) dX6_run_1 ?_
  refine aw_cV0v hC hSt (t_X1_begin G l hM _ (by decide)) w_79 w_561 w_562 w_563 w_84 rfl rfl (by decide +kernel) ⟨Nat.le_of_ble_eq_true rfl, Nat.le_of_ble_eq_true rfl⟩ (cs_lt 36 1 0 (by decide) hM) (cs_k 36 1 0 (by decide) hM) rfl (Nat.le_of_ble_eq_true rfl) dX6_run_4 ⟨Nat.zero_le _, Nat.zero_le _⟩ ?_
  generalize er1 : f_X1_begin S 36 = r1
  have hM : CS r1 := CS.of (by rw [← er1]; exact q_X1_begin _ _) hM
  refine aw_aload_n hC 0 dX6_run_7 rfl rfl ?_
  refine aw_ldc (v := -1000000) hC w_543 dX6_run_8 ?_
  refine aw_putI hC hSt 2 (cs_lt 35 6 0 (by decide) hM) (cs_k 35 6 0 (by decide) hM) rfl (by decide) w_525 rfl rfl rfl rfl dX6_run_10 ?_
  generalize eS2 : (sI r1 35 2 (-1000000 : Int32)) = S2
  have hM : CS S2 := CS.of (by rw [← eS2]; exact shp_sI _ _ _ _) hM
  refine aw_aload_n hC 0 dX6_run_13 rfl rfl ?_
  refine aw_ldc (v := -1000000) hC w_543 dX6_run_14 ?_
  refine aw_putI hC hSt 3 (cs_lt 35 6 0 (by decide) hM) (cs_k 35 6 0 (by decide) hM) rfl (by decide) w_544 rfl rfl rfl rfl dX6_run_16 ?_
  generalize eS3 : (sI S2 35 3 (-1000000 : Int32)) = S3
  have hM : CS S3 := CS.of (by rw [← eS3]; exact shp_sI _ _ _ _) hM
  refine aw_aload_n hC 0 dX6_run_19 rfl rfl ?_
  refine aw_iconst (v := 0) hC dX6_run_20 (by decide) ?_
  refine aw_putI hC hSt 4 (cs_lt 35 6 0 (by decide) hM) (cs_k 35 6 0 (by decide) hM) rfl (by decide) w_526 rfl rfl rfl rfl dX6_run_21 ?_
  generalize eS4 : (sI S3 35 4 (0 : Int32)) = S4
  have hM : CS S4 := CS.of (by rw [← eS4]; exact shp_sI _ _ _ _) hM
  refine aw_aload_n hC 0 dX6_run_24 rfl rfl ?_
  refine aw_lconst (v := 1) hC dX6_run_25 (by decide) ?_
  refine aw_putJ hC hSt 5 (cs_lt 35 6 0 (by decide) hM) (cs_k 35 6 0 (by decide) hM) rfl (by decide) w_520 rfl rfl rfl rfl dX6_run_26 ?_
  generalize eS5 : (sJ S4 35 5 (1 : Int64)) = S5
  have hM : CS S5 := CS.of (by rw [← eS5]; exact shp_sJ _ _ _ _) hM
  refine aw_aload_n hC 0 dX6_run_29 rfl rfl ?_
  refine aw_lconst (v := 1) hC dX6_run_30 (by decide) ?_
  refine aw_putJ hC hSt 6 (cs_lt 35 6 0 (by decide) hM) (cs_k 35 6 0 (by decide) hM) rfl (by decide) w_521 rfl rfl rfl rfl dX6_run_31 ?_
  generalize eS6 : (sJ S5 35 6 (1 : Int64)) = S6
  have hM : CS S6 := CS.of (by rw [← eS6]; exact shp_sJ _ _ _ _) hM
  refine aw_aload_n hC 0 dX6_run_34 rfl rfl ?_
  refine aw_iconst (v := 0) hC dX6_run_35 (by decide) ?_
  refine aw_putI hC hSt 7 (cs_lt 35 6 0 (by decide) hM) (cs_k 35 6 0 (by decide) hM) rfl (by decide) w_519 rfl rfl (by decide) (by decide) dX6_run_36 ?_
  generalize eS7 : (sI S6 35 7 (0 : Int32)) = S7
  have hM : CS S7 := CS.of (by rw [← eS7]; exact shp_sI _ _ _ _) hM
  refine aw_iload_n hC 2 dX6_run_39 rfl rfl ?_
  refine aw_aload_n hC 1 dX6_run_40 rfl rfl ?_
  refine aw_getP (b := (sc1 + 1)) hC hSt 0 (cs_lt sc1 7 0 hsc1 hM) (cs_k sc1 7 0 hsc1 hM) rfl (by decide) w_499 rfl (cs_p sc1 0 (sc1 + 1) (sc_pway hsc1) hM) dX6_run_41 ?_
  refine aw_iconst (v := 5) hC dX6_run_44 (by decide) ?_
  refine aw_cV1r hC hSt (t_X10_howMany G l hM _ _ (sc_way hsc1) (h0 r1 er1 S2 eS2 S3 eS3 S4 eS4 S5 eS5 S6 eS6 S7 eS7)) w_152 w_564 w_237 w_238 w_18 rfl rfl (by decide +kernel) ⟨Nat.le_of_ble_eq_true rfl, Nat.le_of_ble_eq_true rfl⟩ (cs_lt (sc1 + 1) 10 0 (sc_way hsc1) hM) (cs_k (sc1 + 1) 10 0 (sc_way hsc1) hM) rfl (Nat.le_of_ble_eq_true rfl) dX6_run_45 ⟨Nat.zero_le _, Nat.zero_le _⟩ ?_
  refine aw_iconst (v := 1) hC dX6_run_48 (by decide) ?_
  refine aw_isub hC dX6_run_49 ?_
  refine aw_min hC w_560 w_95 w_92 w_96 (by decide) (Nat.le_of_ble_eq_true rfl) (by decide) (by decide) dX6_run_50 ?_
  refine aw_istore_n hC [(3, .int _), (0, .ref 35), (1, .ref sc1), (2, .int _)] dX6_run_53 rfl (by decide) rfl ?_
  generalize ex8 : (if ((f_X10_howMany S7 (sc1 + 1) (5 : Int32)) - (1 : Int32)) < a2 then ((f_X10_howMany S7 (sc1 + 1) (5 : Int32)) - (1 : Int32)) else a2) = x8
  refine aw_iconst (v := 0) hC dX6_run_54 (by decide) ?_
  refine aw_istore hC [(4, .int _), (3, .int _), (0, .ref 35), (1, .ref sc1), (2, .int _)] dX6_run_55 (by decide) rfl ?_
  refine aw_sub [2, 3, 4, 1, 0] rfl ?_
  refine l_X6_run_57 hC hSt hsc1 1000 _ _ _ _ hM (h1 r1 er1 S2 eS2 S3 eS3 S4 eS4 S5 eS5 S6 eS6 S7 eS7 x8 ex8) ?_
  generalize er9 : L_X6_run_57 sc1 1000 S7 a2 x8 (0 : Int32) = r9
  have hM : CS r9.2.2.2 := CS.of (by rw [← er9]; exact qL_X6_run_57 sc1 _ _ _ _ _) hM
  refine aw_vret hC dX6_run_76 (Nat.le_refl _) (Nat.le_refl _) ?_
  exact FP.qV ((bd_eq er1).trans ((bd_eq eS2).trans ((bd_eq eS3).trans ((bd_eq eS4).trans ((bd_eq eS5).trans ((bd_eq eS6).trans ((bd_eq eS7).trans ((bd_eq ex8).trans ((bd_eq er9).trans (rfl))))))))))
theorem q_X6_run (S : HSt) (_o0 : Nat) (sc1 : Nat) (a2 : Int32) : shp (f_X6_run S _o0 sc1 a2) = shp S := by
  unfold f_X6_run
  repeat' (first | with_reducible rfl | with_reducible refine (q_X1_begin _ _).trans ?_ | with_reducible refine (q_X6_perform _ _ _ _).trans ?_ | with_reducible refine (qL_X6_run_57 sc1 _ _ _ _ _).trans ?_ | with_reducible refine (shp_sI _ _ _ _).trans ?_ | with_reducible refine (shp_sJ _ _ _ _).trans ?_ | with_reducible refine (shp_rI _ _ _).trans ?_ | with_reducible refine shi ?_ ?_ | with_reducible refine shb (fun _ _ => ?_) | (subst_vars; with_reducible rfl) | (subst_vars; with_reducible refine (q_X1_begin _ _).trans ?_) | (subst_vars; with_reducible refine (q_X6_perform _ _ _ _).trans ?_) | (subst_vars; with_reducible refine (qL_X6_run_57 sc1 _ _ _ _ _).trans ?_) | (subst_vars; with_reducible refine (shp_sI _ _ _ _).trans ?_) | (subst_vars; with_reducible refine (shp_sJ _ _ _ _).trans ?_) | (subst_vars; with_reducible refine (shp_rI _ _ _).trans ?_) | (subst_vars; with_reducible refine shi ?_ ?_) | (subst_vars; with_reducible refine shb (fun _ _ => ?_)))
theorem v_X6_run (S : HSt) (_o0 : Nat) (sc1 : Nat) (a2 : Int32) : Fr [(35, 2), (35, 3), (35, 4), (35, 7), (36, 0), (36, 1), (36, 2), (36, 3), (36, 4), (36, 5), (36, 6), (37, 0), (37, 1), (37, 10), (37, 2), (37, 3), (37, 4), (37, 5), (37, 6), (37, 7), (37, 8), (37, 9)] S (f_X6_run S _o0 sc1 a2) := by
  unfold f_X6_run
  repeat' (first | with_reducible exact Fr.refl _ _ | with_reducible refine Fr.l1 (fun _ _ => ?_) | with_reducible refine Fr.ite ?_ ?_ | with_reducible refine Fr.sE (by assumption) (by first | decide | simp only [List.mem_cons, List.not_mem_nil, or_false, true_or, or_true, eq_self_iff_true]) ?_ | with_reducible refine Fr.jE (by assumption) ?_ | with_reducible refine Fr.rE (by assumption) (by first | decide | simp only [List.mem_cons, List.not_mem_nil, or_false, true_or, or_true, eq_self_iff_true]) ?_ | with_reducible refine Fr.iE (by assumption) ?_ ?_ | with_reducible refine Fr.tr (w_X1_begin _ _ _ (by assumption)) (by first | decide | simp only [List.mem_cons, List.not_mem_nil, or_false, forall_eq_or_imp, forall_eq, true_or, or_true, and_self, eq_self_iff_true]) ?_ | with_reducible refine Fr.tr (w_X6_perform _ _ _ _ _ (by assumption)) (by first | decide | simp only [List.mem_cons, List.not_mem_nil, or_false, forall_eq_or_imp, forall_eq, true_or, or_true, and_self, eq_self_iff_true]) ?_ | with_reducible refine Fr.tr (wL_X6_run_57 sc1 _ _ _ _ _ _ (by assumption)) (by first | decide | simp only [List.mem_cons, List.not_mem_nil, or_false, forall_eq_or_imp, forall_eq, true_or, or_true, and_self, eq_self_iff_true]) ?_)
theorem w_X6_run (S : HSt) (_o0 : Nat) (sc1 : Nat) (a2 : Int32) (r : HSt) (e : f_X6_run S _o0 sc1 a2 = r) : Fr [(35, 2), (35, 3), (35, 4), (35, 7), (36, 0), (36, 1), (36, 2), (36, 3), (36, 4), (36, 5), (36, 6), (37, 0), (37, 1), (37, 10), (37, 2), (37, 3), (37, 4), (37, 5), (37, 6), (37, 7), (37, 8), (37, 9)] S r := by
  rw [← e]
  exact v_X6_run S _o0 sc1 a2
noncomputable def L_X4_append_29 : Nat → HSt → Int64 → Int32 → Int32 → Int64 × Int32 × Int32 × HSt
  | 0, S, v1, v3, v4 => (v1, v3, v4, S)
  | n + 1, S, v1, v3, v4 =>
    if v4 < 0 then ((pr (v1) (pr (v3) (pr (v4) (S))))) else (bd ((sI S 14 (gI S 13 2).toNatClampNeg (vp_nar .byte ((v1.toUInt64 >>> (((8 : Int32) * v4).toInt64.toUInt64 &&& Int64.toUInt64 63)).toInt64).toInt32.toInt8.toInt32))) fun S1006 => bd ((sI S1006 13 2 ((gI S1006 13 2) + (1 : Int32)))) fun S1007 => L_X4_append_29 n S1007 v1 v3 (v4 + (-1 : Int32)))
def T_X4_append_29 : Nat → HSt → Int64 → Int32 → Int32 → Prop
  | 0, _, _, _, _ => False
  | n + 1, S, v1, v3, v4 => ((¬ v4 < 0) → vp_in (gI S 13 2) 600) ∧ ((¬ v4 < 0) → ∀ S1006 : HSt, (sI S 14 (gI S 13 2).toNatClampNeg (vp_nar .byte ((v1.toUInt64 >>> (((8 : Int32) * v4).toInt64.toUInt64 &&& Int64.toUInt64 63)).toInt64).toInt32.toInt8.toInt32)) = S1006 → ∀ S1007 : HSt, (sI S1006 13 2 ((gI S1006 13 2) + (1 : Int32))) = S1007 → T_X4_append_29 n S1007 v1 v3 (v4 + (-1 : Int32)))
theorem qL_X4_append_29 : ∀ (n : Nat) (S : HSt) (v1 : Int64) (v3 : Int32) (v4 : Int32), shp (L_X4_append_29 n S v1 v3 v4).2.2.2 = shp S := by
  intro n
  induction n with
  | zero => intros; rfl
  | succ n ih =>
    intro S v1 v3 v4
    unfold L_X4_append_29
    repeat' (first | with_reducible refine shpr3 ?_ | with_reducible rfl | with_reducible refine (ih _ _ _ _).trans ?_ | with_reducible refine (shp_sI _ _ _ _).trans ?_ | with_reducible refine (shp_sJ _ _ _ _).trans ?_ | with_reducible refine (shp_rI _ _ _).trans ?_ | with_reducible refine shi ?_ ?_ | with_reducible refine shb (fun _ _ => ?_) | with_reducible refine shiP (fun q : Int64 × Int32 × Int32 × HSt => q.2.2.2) ?_ ?_ | with_reducible refine shbP (fun q : Int64 × Int32 × Int32 × HSt => q.2.2.2) (fun _ _ => ?_) | (subst_vars; with_reducible rfl) | (subst_vars; with_reducible refine (ih _ _ _ _).trans ?_) | (subst_vars; with_reducible refine (shp_sI _ _ _ _).trans ?_) | (subst_vars; with_reducible refine (shp_sJ _ _ _ _).trans ?_) | (subst_vars; with_reducible refine (shp_rI _ _ _).trans ?_) | (subst_vars; with_reducible refine shi ?_ ?_) | (subst_vars; with_reducible refine shb (fun _ _ => ?_)))
theorem vL_X4_append_29 : ∀ (n : Nat) (S : HSt) (v1 : Int64) (v3 : Int32) (v4 : Int32), Fr [(13, 2), (14, 1000)] S (L_X4_append_29 n S v1 v3 v4).2.2.2 := by
  intro n
  induction n with
  | zero => intros; exact Fr.refl _ _
  | succ n ih =>
    intro S v1 v3 v4
    unfold L_X4_append_29
    repeat' (first | with_reducible refine frpr3 ?_ | with_reducible exact Fr.refl _ _ | with_reducible refine Fr.lP (fun q : Int64 × Int32 × Int32 × HSt => q.2.2.2) (fun _ _ => ?_) | with_reducible refine Fr.iteP (fun q : Int64 × Int32 × Int32 × HSt => q.2.2.2) ?_ ?_ | with_reducible refine Fr.l1 (fun _ _ => ?_) | with_reducible refine Fr.ite ?_ ?_ | with_reducible refine Fr.sE (by assumption) (by first | decide | simp only [List.mem_cons, List.not_mem_nil, or_false, true_or, or_true, eq_self_iff_true]) ?_ | with_reducible refine Fr.jE (by assumption) ?_ | with_reducible refine Fr.rE (by assumption) (by first | decide | simp only [List.mem_cons, List.not_mem_nil, or_false, true_or, or_true, eq_self_iff_true]) ?_ | with_reducible refine Fr.iE (by assumption) ?_ ?_ | with_reducible refine Fr.tr (ih _ _ _ _) (by first | decide | simp only [List.mem_cons, List.not_mem_nil, or_false, forall_eq_or_imp, forall_eq, true_or, or_true, and_self, eq_self_iff_true]) ?_)
theorem wL_X4_append_29 (n : Nat) (S : HSt) (v1 : Int64) (v3 : Int32) (v4 : Int32) (r : Int64 × Int32 × Int32 × HSt) (e : L_X4_append_29 n S v1 v3 v4 = r) : Fr [(13, 2), (14, 1000)] S r.2.2.2 := by
  rw [← e]
  exact vL_X4_append_29 n S v1 v3 v4
set_option maxRecDepth 100000 in
theorem l_X4_append_29 {p : Program} {l : Launch} {e : Env} {s : State} {m : MethodId} {args : Array Value} {below : List Frame} {meth : Method} {c : Code} {G : GG} {Q : State → Prop} (hC : ACx p s m args meth c cX4_append RX4 5 (some .boolean)) (hSt : St G s)   : ∀ (n : Nat) (S : HSt) (v1 : Int64) (v3 : Int32) (v4 : Int32), CS S → T_X4_append_29 n S v1 v3 v4 → AW p l e (rmD 0 0 0) s m args below meth c G 5 Q (L_X4_append_29 n S v1 v3 v4).2.2.2 0 0 68 [(0, .ref 13), (1, .long (L_X4_append_29 n S v1 v3 v4).1), (3, .int (L_X4_append_29 n S v1 v3 v4).2.1), (4, .int (L_X4_append_29 n S v1 v3 v4).2.2.1)] [] → AW p l e (rmD 0 0 0) s m args below meth c G 5 Q S 0 0 29 [(0, .ref 13), (1, .long v1), (3, .int v3), (4, .int v4)] [] := by
  intro n
  induction n with
  | zero => intro S v1 v3 v4 _ hT; exact hT.elim
  | succ n ih =>
    intro S v1 v3 v4 hM hT hk
    unfold T_X4_append_29 at hT
    obtain ⟨h0, h1⟩ := hT
    refine aw_iload hC 3 dX4_append_29 rfl ?_
    refine aw_if_lt hC 68 dX4_append_31 (by decide) (fun c1005 => ?_) (fun c1005 => ?_)
    · refine aw_sub [0, 1, 2, 3] rfl ?_
      have E : L_X4_append_29 (n + 1) S v1 v3 v4 = _ := (if_pos c1005).trans (rfl)
      rw [E] at hk
      exact hk
    · refine aw_aload_n hC 0 dX4_append_34 rfl rfl ?_
      refine aw_getP (b := 14) hC hSt 0 (cs_lt 13 4 0 (by decide) hM) (cs_k 13 4 0 (by decide) hM) rfl (by decide) w_322 rfl (cs_p 13 0 14 (by decide) hM) dX4_append_35 ?_
      refine aw_aload_n hC 0 dX4_append_38 rfl rfl ?_
      refine aw_getI hC hSt 2 (cs_lt 13 4 0 (by decide) hM) (cs_k 13 4 0 (by decide) hM) rfl (by decide) w_328 rfl dX4_append_39 ?_
      refine aw_lload_n hC 1 dX4_append_42 rfl rfl ?_
      refine aw_bipush (v := 8) hC dX4_append_43 (by decide) ?_
      refine aw_iload hC 3 dX4_append_45 rfl ?_
      refine aw_imul hC dX4_append_47 ?_
      refine aw_lushr hC dX4_append_48 ?_
      refine aw_l2i hC dX4_append_49 ?_
      refine aw_i2b hC dX4_append_50 ?_
      refine aw_bast hC hSt (cs_lt 14 13 600 (by decide) hM) (cs_k 14 13 600 (by decide) hM) (vp_len (n := 600) (cs_l 14 13 600 (by decide) hM) (h0 c1005)) dX4_append_51 ?_
      generalize eS1006 : (sI S 14 (gI S 13 2).toNatClampNeg (vp_nar .byte ((v1.toUInt64 >>> (((8 : Int32) * v4).toInt64.toUInt64 &&& Int64.toUInt64 63)).toInt64).toInt32.toInt8.toInt32)) = S1006
      have hM : CS S1006 := CS.of (by rw [← eS1006]; exact shp_sI _ _ _ _) hM
      refine aw_aload_n hC 0 dX4_append_52 rfl rfl ?_
      refine aw_dup hC dX4_append_53 rfl ?_
      refine aw_getI hC hSt 2 (cs_lt 13 4 0 (by decide) hM) (cs_k 13 4 0 (by decide) hM) rfl (by decide) w_328 rfl dX4_append_54 ?_
      refine aw_iconst (v := 1) hC dX4_append_57 (by decide) ?_
      refine aw_iadd hC dX4_append_58 ?_
      refine aw_putI hC hSt 2 (cs_lt 13 4 0 (by decide) hM) (cs_k 13 4 0 (by decide) hM) rfl (by decide) w_328 rfl rfl rfl rfl dX4_append_59 ?_
      generalize eS1007 : (sI S1006 13 2 ((gI S1006 13 2) + (1 : Int32))) = S1007
      have hM : CS S1007 := CS.of (by rw [← eS1007]; exact shp_sI _ _ _ _) hM
      refine aw_iinc (v := (v4 + (-1 : Int32))) hC 3 [(4, .int _), (0, .ref 13), (1, .long _), (3, .int _)] dX4_append_62 rfl rfl (by decide) rfl ?_
      refine aw_goto hC 29 dX4_append_65 (by decide) ?_
      refine aw_sub [1, 2, 3, 0] rfl ?_
      have hTn := (h1 c1005 S1006 eS1006 S1007 eS1007)
      have hMn : CS S1007 := hM
      have E : L_X4_append_29 (n + 1) S v1 v3 v4 = _ := (if_neg c1005).trans ((bd_eq eS1006).trans ((bd_eq eS1007).trans (rfl)))
      rw [E] at hk
      exact ih _ _ _ _ hMn hTn hk
noncomputable def f_X4_append (S : HSt) (_o0 : Nat) (a1 : Int64) (a2 : Int32) : Int32 × HSt := if a2 < 0 then (pr ((0 : Int32)) (S)) else (if (8 : Int32) < a2 then (pr ((0 : Int32)) (S)) else (if (gI S 13 2) ≤ ((600 : Int32) - a2) then (bd ((a2 - (1 : Int32))) fun x4 => bd (L_X4_append_29 1000 S a1 a2 x4) fun r5 => pr ((1 : Int32)) (r5.2.2.2)) else (pr ((0 : Int32)) (S))))
def p_X4_append (S : HSt) (_o0 : Nat) (a1 : Int64) (a2 : Int32) : Prop := ((¬ a2 < 0) → (¬ (8 : Int32) < a2) → ((gI S 13 2) ≤ ((600 : Int32) - a2)) → ∀ x4 : Int32, (a2 - (1 : Int32)) = x4 → T_X4_append_29 1000 S a1 a2 x4)
set_option maxRecDepth 100000 in
theorem t_X4_append (G : GG) (l : Launch) {S : HSt} (hM : CS S) (a1 : Int64) (a2 : Int32)  (hp : p_X4_append S 13 a1 a2) : AM G l yX4_append cX4_append 5 (some .boolean) (rmD 0 0 0) 0 0 [.ref 13, .long a1, .int a2] S (FP (some (.int (f_X4_append S 13 a1 a2).1)) ((f_X4_append S 13 a1 a2).2)) := by
  have h0 := hp
  unfold p_X4_append at h0
  refine AM.mk (by decide) (Nat.le_of_ble_eq_true rfl) ?_
  intro p e s m below meth c hC hSt _
  refine aw_iload_n hC 2 dX4_append_0 rfl rfl ?_
  refine aw_if_lt hC 22 dX4_append_1 (by decide) (fun c1 => ?_) (fun c1 => ?_)
  · refine aw_iconst (v := 0) hC dX4_append_22 (by decide) ?_
    refine aw_zret hC dX4_append_23 (Nat.le_refl _) (Nat.le_refl _) (by decide) ?_
    exact FP.qI ((if_pos c1).trans (rfl))
  · refine aw_iload_n hC 2 dX4_append_4 rfl rfl ?_
    refine aw_bipush (v := 8) hC dX4_append_5 (by decide) ?_
    refine aw_icmp_gt hC 22 dX4_append_7 (by decide) (fun c2 => ?_) (fun c2 => ?_)
    · refine aw_iconst (v := 0) hC dX4_append_22 (by decide) ?_
      refine aw_zret hC dX4_append_23 (Nat.le_refl _) (Nat.le_refl _) (by decide) ?_
      exact FP.qI ((if_neg c1).trans ((if_pos c2).trans (rfl)))
    · refine aw_aload_n hC 0 dX4_append_10 rfl rfl ?_
      refine aw_getI hC hSt 2 (cs_lt 13 4 0 (by decide) hM) (cs_k 13 4 0 (by decide) hM) rfl (by decide) w_328 rfl dX4_append_11 ?_
      refine aw_sipush (v := 600) hC dX4_append_14 (by decide) ?_
      refine aw_iload_n hC 2 dX4_append_17 rfl rfl ?_
      refine aw_isub hC dX4_append_18 ?_
      refine aw_icmp_le hC 24 dX4_append_19 (by decide) (fun c3 => ?_) (fun c3 => ?_)
      · refine aw_iload_n hC 2 dX4_append_24 rfl rfl ?_
        refine aw_iconst (v := 1) hC dX4_append_25 (by decide) ?_
        refine aw_isub hC dX4_append_26 ?_
        refine aw_istore hC [(4, .int _), (0, .ref 13), (1, .long _), (3, .int _)] dX4_append_27 (by decide) rfl ?_
        generalize ex4 : (a2 - (1 : Int32)) = x4
        refine aw_sub [1, 2, 3, 0] rfl ?_
        refine l_X4_append_29 hC hSt 1000 _ _ _ _ hM (h0 c1 c2 c3 x4 ex4) ?_
        generalize er5 : L_X4_append_29 1000 S a1 a2 x4 = r5
        have hM : CS r5.2.2.2 := CS.of (by rw [← er5]; exact qL_X4_append_29 _ _ _ _ _) hM
        refine aw_iconst (v := 1) hC dX4_append_68 (by decide) ?_
        refine aw_zret hC dX4_append_69 (Nat.le_refl _) (Nat.le_refl _) (by decide) ?_
        exact FP.qI ((if_neg c1).trans ((if_neg c2).trans ((if_pos c3).trans ((bd_eq ex4).trans ((bd_eq er5).trans (rfl))))))
      · refine aw_iconst (v := 0) hC dX4_append_22 (by decide) ?_
        refine aw_zret hC dX4_append_23 (Nat.le_refl _) (Nat.le_refl _) (by decide) ?_
        exact FP.qI ((if_neg c1).trans ((if_neg c2).trans ((if_neg c3).trans (rfl))))
theorem q_X4_append (S : HSt) (_o0 : Nat) (a1 : Int64) (a2 : Int32) : shp ((f_X4_append S _o0 a1 a2).2) = shp S := by
  unfold f_X4_append
  repeat' (first | with_reducible refine shpr1 ?_ | with_reducible rfl | with_reducible refine (qL_X4_append_29 _ _ _ _ _).trans ?_ | with_reducible refine (shp_sI _ _ _ _).trans ?_ | with_reducible refine (shp_sJ _ _ _ _).trans ?_ | with_reducible refine (shp_rI _ _ _).trans ?_ | with_reducible refine shi ?_ ?_ | with_reducible refine shb (fun _ _ => ?_) | with_reducible refine shiP (fun q : Int32 × HSt => q.2) ?_ ?_ | with_reducible refine shbP (fun q : Int32 × HSt => q.2) (fun _ _ => ?_) | (subst_vars; with_reducible rfl) | (subst_vars; with_reducible refine (qL_X4_append_29 _ _ _ _ _).trans ?_) | (subst_vars; with_reducible refine (shp_sI _ _ _ _).trans ?_) | (subst_vars; with_reducible refine (shp_sJ _ _ _ _).trans ?_) | (subst_vars; with_reducible refine (shp_rI _ _ _).trans ?_) | (subst_vars; with_reducible refine shi ?_ ?_) | (subst_vars; with_reducible refine shb (fun _ _ => ?_)))
theorem v_X4_append (S : HSt) (_o0 : Nat) (a1 : Int64) (a2 : Int32) : Fr [(13, 2), (14, 1000)] S ((f_X4_append S _o0 a1 a2).2) := by
  unfold f_X4_append
  repeat' (first | with_reducible refine frpr1 ?_ | with_reducible exact Fr.refl _ _ | with_reducible refine Fr.lP (fun q : Int32 × HSt => q.2) (fun _ _ => ?_) | with_reducible refine Fr.iteP (fun q : Int32 × HSt => q.2) ?_ ?_ | with_reducible refine Fr.l1 (fun _ _ => ?_) | with_reducible refine Fr.ite ?_ ?_ | with_reducible refine Fr.sE (by assumption) (by first | decide | simp only [List.mem_cons, List.not_mem_nil, or_false, true_or, or_true, eq_self_iff_true]) ?_ | with_reducible refine Fr.jE (by assumption) ?_ | with_reducible refine Fr.rE (by assumption) (by first | decide | simp only [List.mem_cons, List.not_mem_nil, or_false, true_or, or_true, eq_self_iff_true]) ?_ | with_reducible refine Fr.iE (by assumption) ?_ ?_ | with_reducible refine Fr.tr (wL_X4_append_29 _ _ _ _ _ _ (by assumption)) (by first | decide | simp only [List.mem_cons, List.not_mem_nil, or_false, forall_eq_or_imp, forall_eq, true_or, or_true, and_self, eq_self_iff_true]) ?_)
theorem w_X4_append (S : HSt) (_o0 : Nat) (a1 : Int64) (a2 : Int32) (r : Int32 × HSt) (e : f_X4_append S _o0 a1 a2 = r) : Fr [(13, 2), (14, 1000)] S r.2 := by
  rw [← e]
  exact v_X4_append S _o0 a1 a2
noncomputable def F_X4_bytes (S : HSt) (_o0 : Nat) : Int32 × HSt := pr ((gI S 13 2)) (S)
noncomputable def f_X4_bytes (S : HSt) (_o0 : Nat) : Int32 := (F_X4_bytes S _o0).1
set_option maxRecDepth 100000 in
theorem t_X4_bytes (G : GG) (l : Launch) {S : HSt} (hM : CS S)    : AM G l yX4_bytes cX4_bytes 1 (some .int) (rmD 0 0 0) 0 0 [.ref 13] S (FP (some (.int (f_X4_bytes S 13))) (S)) := by
  refine AM.mk (by decide) (Nat.le_of_ble_eq_true rfl) ?_
  intro p e s m below meth c hC hSt _
  refine aw_aload_n hC 0 dX4_bytes_0 rfl rfl ?_
  refine aw_getI hC hSt 2 (cs_lt 13 4 0 (by decide) hM) (cs_k 13 4 0 (by decide) hM) rfl (by decide) w_328 rfl dX4_bytes_1 ?_
  refine aw_iret hC dX4_bytes_4 (Nat.le_refl _) (Nat.le_refl _) ?_
  exact FP.pI (rfl)
noncomputable def F_X4_draft (S : HSt) (_o0 : Nat) : Nat × HSt := pr (15) (S)
noncomputable def f_X4_draft (S : HSt) (_o0 : Nat) : Nat := (F_X4_draft S _o0).1
set_option maxRecDepth 100000 in
theorem t_X4_draft (G : GG) (l : Launch) {S : HSt} (hM : CS S)    : AM G l yX4_draft cX4_draft 1 (some (.object "SpunLoop$Way")) (rmD 0 0 0) 0 0 [.ref 13] S (FP (some (.ref (f_X4_draft S 13))) (S)) := by
  refine AM.mk (by decide) (Nat.le_of_ble_eq_true rfl) ?_
  intro p e s m below meth c hC hSt _
  refine aw_aload_n hC 0 dX4_draft_0 rfl rfl ?_
  refine aw_getP (b := 15) hC hSt 1 (cs_lt 13 4 0 (by decide) hM) (cs_k 13 4 0 (by decide) hM) rfl (by decide) w_325 rfl (cs_p 13 1 15 (by decide) hM) dX4_draft_1 ?_
  refine aw_aret hC (Or.inl ⟨_, rfl⟩) dX4_draft_4 (Nat.le_refl _) (Nat.le_refl _) ?_
  exact FP.pP (rfl)
noncomputable def F_X4_latestFault (S : HSt) (_o0 : Nat) : Int32 × HSt := pr ((gI S 13 7)) (S)
noncomputable def f_X4_latestFault (S : HSt) (_o0 : Nat) : Int32 := (F_X4_latestFault S _o0).1
set_option maxRecDepth 100000 in
theorem t_X4_latestFault (G : GG) (l : Launch) {S : HSt} (hM : CS S)    : AM G l yX4_latestFault cX4_latestFault 1 (some .int) (rmD 0 0 0) 0 0 [.ref 13] S (FP (some (.int (f_X4_latestFault S 13))) (S)) := by
  refine AM.mk (by decide) (Nat.le_of_ble_eq_true rfl) ?_
  intro p e s m below meth c hC hSt _
  refine aw_aload_n hC 0 dX4_latestFault_0 rfl rfl ?_
  refine aw_getI hC hSt 7 (cs_lt 13 4 0 (by decide) hM) (cs_k 13 4 0 (by decide) hM) rfl (by decide) w_331 rfl dX4_latestFault_1 ?_
  refine aw_iret hC dX4_latestFault_4 (Nat.le_refl _) (Nat.le_refl _) ?_
  exact FP.pI (rfl)
noncomputable def F_X4_faultPlace (S : HSt) (_o0 : Nat) : Int32 × HSt := pr ((gI S 13 8)) (S)
noncomputable def f_X4_faultPlace (S : HSt) (_o0 : Nat) : Int32 := (F_X4_faultPlace S _o0).1
set_option maxRecDepth 100000 in
theorem t_X4_faultPlace (G : GG) (l : Launch) {S : HSt} (hM : CS S)    : AM G l yX4_faultPlace cX4_faultPlace 1 (some .int) (rmD 0 0 0) 0 0 [.ref 13] S (FP (some (.int (f_X4_faultPlace S 13))) (S)) := by
  refine AM.mk (by decide) (Nat.le_of_ble_eq_true rfl) ?_
  intro p e s m below meth c hC hSt _
  refine aw_aload_n hC 0 dX4_faultPlace_0 rfl rfl ?_
  refine aw_getI hC hSt 8 (cs_lt 13 4 0 (by decide) hM) (cs_k 13 4 0 (by decide) hM) rfl (by decide) w_333 rfl dX4_faultPlace_1 ?_
  refine aw_iret hC dX4_faultPlace_4 (Nat.le_refl _) (Nat.le_refl _) ?_
  exact FP.pI (rfl)
noncomputable def F_X4_isLetter (S : HSt) (_o0 : Nat) (a1 : Int32) : Int32 × HSt := bd ((if a1 < 0 then (0 : Int32) else (if (gI S 13 2) ≤ a1 then (0 : Int32) else (if (gI S 14 a1.toNatClampNeg) < (97 : Int32) then (0 : Int32) else (if (122 : Int32) < (gI S 14 a1.toNatClampNeg) then (0 : Int32) else (1 : Int32)))))) fun x5 => pr (x5) (S)
noncomputable def f_X4_isLetter (S : HSt) (_o0 : Nat) (a1 : Int32) : Int32 := (F_X4_isLetter S _o0 a1).1
def p_X4_isLetter (S : HSt) (_o0 : Nat) (a1 : Int32) : Prop := ((¬ a1 < 0) → (¬ (gI S 13 2) ≤ a1) → vp_in a1 600) ∧ ((¬ a1 < 0) → (¬ (gI S 13 2) ≤ a1) → (¬ (gI S 14 a1.toNatClampNeg) < (97 : Int32)) → vp_in a1 600)
set_option maxRecDepth 100000 in
theorem t_X4_isLetter (G : GG) (l : Launch) {S : HSt} (hM : CS S) (a1 : Int32)  (hp : p_X4_isLetter S 13 a1) : AM G l yX4_isLetter cX4_isLetter 2 (some .boolean) (rmD 0 0 0) 0 0 [.ref 13, .int a1] S (FP (some (.int (f_X4_isLetter S 13 a1))) (S)) := by
  obtain ⟨h0, h1⟩ := hp
  refine AM.mk (by decide) (Nat.le_of_ble_eq_true rfl) ?_
  intro p e s m below meth c hC hSt _
  refine aw_iload_n hC 1 dX4_isLetter_0 rfl rfl ?_
  refine aw_cut (S' := S) (pc' := 39) (lv' := [(0, .ref 13), (1, .int a1)]) (st' := [.int (if a1 < 0 then (0 : Int32) else (if (gI S 13 2) ≤ a1 then (0 : Int32) else (if (gI S 14 a1.toNatClampNeg) < (97 : Int32) then (0 : Int32) else (if (122 : Int32) < (gI S 14 a1.toNatClampNeg) then (0 : Int32) else (1 : Int32)))))]) ?_ (fun Jc1 => ?_)
  · generalize ex5 : (if a1 < 0 then (0 : Int32) else (if (gI S 13 2) ≤ a1 then (0 : Int32) else (if (gI S 14 a1.toNatClampNeg) < (97 : Int32) then (0 : Int32) else (if (122 : Int32) < (gI S 14 a1.toNatClampNeg) then (0 : Int32) else (1 : Int32))))) = x5
    refine aw_zret hC dX4_isLetter_39 (Nat.le_refl _) (Nat.le_refl _) (Bz.n (ex5 ▸ (Bz.ite (Or.inl rfl) (Bz.ite (Or.inl rfl) (Bz.ite (Or.inl rfl) (Bz.ite (Or.inl rfl) (Or.inr rfl))))))) ?_
    exact FP.pI ((bd_eq ex5).trans (rfl))
  · refine aw_if_lt hC 38 dX4_isLetter_1 (by decide) (fun c1 => ?_) (fun c1 => ?_)
    · refine aw_iconst (v := 0) hC dX4_isLetter_38 (by decide) ?_
      simp only [bd_def, if_pos c1] at Jc1 ⊢
      exact Jc1
    · refine aw_iload_n hC 1 dX4_isLetter_4 rfl rfl ?_
      refine aw_aload_n hC 0 dX4_isLetter_5 rfl rfl ?_
      refine aw_getI hC hSt 2 (cs_lt 13 4 0 (by decide) hM) (cs_k 13 4 0 (by decide) hM) rfl (by decide) w_328 rfl dX4_isLetter_6 ?_
      refine aw_icmp_ge hC 38 dX4_isLetter_9 (by decide) (fun c2 => ?_) (fun c2 => ?_)
      · refine aw_iconst (v := 0) hC dX4_isLetter_38 (by decide) ?_
        simp only [bd_def, if_neg c1, if_pos c2] at Jc1 ⊢
        exact Jc1
      · refine aw_aload_n hC 0 dX4_isLetter_12 rfl rfl ?_
        refine aw_getP (b := 14) hC hSt 0 (cs_lt 13 4 0 (by decide) hM) (cs_k 13 4 0 (by decide) hM) rfl (by decide) w_322 rfl (cs_p 13 0 14 (by decide) hM) dX4_isLetter_13 ?_
        refine aw_iload_n hC 1 dX4_isLetter_16 rfl rfl ?_
        refine aw_bald hC hSt (cs_lt 14 13 600 (by decide) hM) (cs_k 14 13 600 (by decide) hM) (vp_len (n := 600) (cs_l 14 13 600 (by decide) hM) (h0 c1 c2)) dX4_isLetter_17 ?_
        refine aw_bipush (v := 97) hC dX4_isLetter_18 (by decide) ?_
        refine aw_icmp_lt hC 38 dX4_isLetter_20 (by decide) (fun c3 => ?_) (fun c3 => ?_)
        · refine aw_iconst (v := 0) hC dX4_isLetter_38 (by decide) ?_
          simp only [bd_def, if_neg c1, if_neg c2, if_pos c3] at Jc1 ⊢
          exact Jc1
        · refine aw_aload_n hC 0 dX4_isLetter_23 rfl rfl ?_
          refine aw_getP (b := 14) hC hSt 0 (cs_lt 13 4 0 (by decide) hM) (cs_k 13 4 0 (by decide) hM) rfl (by decide) w_322 rfl (cs_p 13 0 14 (by decide) hM) dX4_isLetter_24 ?_
          refine aw_iload_n hC 1 dX4_isLetter_27 rfl rfl ?_
          refine aw_bald hC hSt (cs_lt 14 13 600 (by decide) hM) (cs_k 14 13 600 (by decide) hM) (vp_len (n := 600) (cs_l 14 13 600 (by decide) hM) (h1 c1 c2 c3)) dX4_isLetter_28 ?_
          refine aw_bipush (v := 122) hC dX4_isLetter_29 (by decide) ?_
          refine aw_icmp_gt hC 38 dX4_isLetter_31 (by decide) (fun c4 => ?_) (fun c4 => ?_)
          · refine aw_iconst (v := 0) hC dX4_isLetter_38 (by decide) ?_
            simp only [bd_def, if_neg c1, if_neg c2, if_neg c3, if_pos c4] at Jc1 ⊢
            exact Jc1
          · refine aw_iconst (v := 1) hC dX4_isLetter_34 (by decide) ?_
            refine aw_goto hC 39 dX4_isLetter_35 (by decide) ?_
            simp only [bd_def, if_neg c1, if_neg c2, if_neg c3, if_neg c4] at Jc1 ⊢
            exact Jc1
theorem b_X4_isLetter (S : HSt) (_o0 : Nat) (a1 : Int32) : Bz (f_X4_isLetter S _o0 a1) := by
  unfold f_X4_isLetter F_X4_isLetter
  (try dsimp only [bd])
  (repeat' split) <;> first | exact Or.inl rfl | exact Or.inr rfl
noncomputable def F_X4_isFigure (S : HSt) (_o0 : Nat) (a1 : Int32) : Int32 × HSt := bd ((if a1 < 0 then (0 : Int32) else (if (gI S 13 2) ≤ a1 then (0 : Int32) else (if (gI S 14 a1.toNatClampNeg) < (48 : Int32) then (0 : Int32) else (if (57 : Int32) < (gI S 14 a1.toNatClampNeg) then (0 : Int32) else (1 : Int32)))))) fun x5 => pr (x5) (S)
noncomputable def f_X4_isFigure (S : HSt) (_o0 : Nat) (a1 : Int32) : Int32 := (F_X4_isFigure S _o0 a1).1
def p_X4_isFigure (S : HSt) (_o0 : Nat) (a1 : Int32) : Prop := ((¬ a1 < 0) → (¬ (gI S 13 2) ≤ a1) → vp_in a1 600) ∧ ((¬ a1 < 0) → (¬ (gI S 13 2) ≤ a1) → (¬ (gI S 14 a1.toNatClampNeg) < (48 : Int32)) → vp_in a1 600)
set_option maxRecDepth 100000 in
theorem t_X4_isFigure (G : GG) (l : Launch) {S : HSt} (hM : CS S) (a1 : Int32)  (hp : p_X4_isFigure S 13 a1) : AM G l yX4_isFigure cX4_isFigure 2 (some .boolean) (rmD 0 0 0) 0 0 [.ref 13, .int a1] S (FP (some (.int (f_X4_isFigure S 13 a1))) (S)) := by
  obtain ⟨h0, h1⟩ := hp
  refine AM.mk (by decide) (Nat.le_of_ble_eq_true rfl) ?_
  intro p e s m below meth c hC hSt _
  refine aw_iload_n hC 1 dX4_isFigure_0 rfl rfl ?_
  refine aw_cut (S' := S) (pc' := 39) (lv' := [(0, .ref 13), (1, .int a1)]) (st' := [.int (if a1 < 0 then (0 : Int32) else (if (gI S 13 2) ≤ a1 then (0 : Int32) else (if (gI S 14 a1.toNatClampNeg) < (48 : Int32) then (0 : Int32) else (if (57 : Int32) < (gI S 14 a1.toNatClampNeg) then (0 : Int32) else (1 : Int32)))))]) ?_ (fun Jc1 => ?_)
  · generalize ex5 : (if a1 < 0 then (0 : Int32) else (if (gI S 13 2) ≤ a1 then (0 : Int32) else (if (gI S 14 a1.toNatClampNeg) < (48 : Int32) then (0 : Int32) else (if (57 : Int32) < (gI S 14 a1.toNatClampNeg) then (0 : Int32) else (1 : Int32))))) = x5
    refine aw_zret hC dX4_isFigure_39 (Nat.le_refl _) (Nat.le_refl _) (Bz.n (ex5 ▸ (Bz.ite (Or.inl rfl) (Bz.ite (Or.inl rfl) (Bz.ite (Or.inl rfl) (Bz.ite (Or.inl rfl) (Or.inr rfl))))))) ?_
    exact FP.pI ((bd_eq ex5).trans (rfl))
  · refine aw_if_lt hC 38 dX4_isFigure_1 (by decide) (fun c1 => ?_) (fun c1 => ?_)
    · refine aw_iconst (v := 0) hC dX4_isFigure_38 (by decide) ?_
      simp only [bd_def, if_pos c1] at Jc1 ⊢
      exact Jc1
    · refine aw_iload_n hC 1 dX4_isFigure_4 rfl rfl ?_
      refine aw_aload_n hC 0 dX4_isFigure_5 rfl rfl ?_
      refine aw_getI hC hSt 2 (cs_lt 13 4 0 (by decide) hM) (cs_k 13 4 0 (by decide) hM) rfl (by decide) w_328 rfl dX4_isFigure_6 ?_
      refine aw_icmp_ge hC 38 dX4_isFigure_9 (by decide) (fun c2 => ?_) (fun c2 => ?_)
      · refine aw_iconst (v := 0) hC dX4_isFigure_38 (by decide) ?_
        simp only [bd_def, if_neg c1, if_pos c2] at Jc1 ⊢
        exact Jc1
      · refine aw_aload_n hC 0 dX4_isFigure_12 rfl rfl ?_
        refine aw_getP (b := 14) hC hSt 0 (cs_lt 13 4 0 (by decide) hM) (cs_k 13 4 0 (by decide) hM) rfl (by decide) w_322 rfl (cs_p 13 0 14 (by decide) hM) dX4_isFigure_13 ?_
        refine aw_iload_n hC 1 dX4_isFigure_16 rfl rfl ?_
        refine aw_bald hC hSt (cs_lt 14 13 600 (by decide) hM) (cs_k 14 13 600 (by decide) hM) (vp_len (n := 600) (cs_l 14 13 600 (by decide) hM) (h0 c1 c2)) dX4_isFigure_17 ?_
        refine aw_bipush (v := 48) hC dX4_isFigure_18 (by decide) ?_
        refine aw_icmp_lt hC 38 dX4_isFigure_20 (by decide) (fun c3 => ?_) (fun c3 => ?_)
        · refine aw_iconst (v := 0) hC dX4_isFigure_38 (by decide) ?_
          simp only [bd_def, if_neg c1, if_neg c2, if_pos c3] at Jc1 ⊢
          exact Jc1
        · refine aw_aload_n hC 0 dX4_isFigure_23 rfl rfl ?_
          refine aw_getP (b := 14) hC hSt 0 (cs_lt 13 4 0 (by decide) hM) (cs_k 13 4 0 (by decide) hM) rfl (by decide) w_322 rfl (cs_p 13 0 14 (by decide) hM) dX4_isFigure_24 ?_
          refine aw_iload_n hC 1 dX4_isFigure_27 rfl rfl ?_
          refine aw_bald hC hSt (cs_lt 14 13 600 (by decide) hM) (cs_k 14 13 600 (by decide) hM) (vp_len (n := 600) (cs_l 14 13 600 (by decide) hM) (h1 c1 c2 c3)) dX4_isFigure_28 ?_
          refine aw_bipush (v := 57) hC dX4_isFigure_29 (by decide) ?_
          refine aw_icmp_gt hC 38 dX4_isFigure_31 (by decide) (fun c4 => ?_) (fun c4 => ?_)
          · refine aw_iconst (v := 0) hC dX4_isFigure_38 (by decide) ?_
            simp only [bd_def, if_neg c1, if_neg c2, if_neg c3, if_pos c4] at Jc1 ⊢
            exact Jc1
          · refine aw_iconst (v := 1) hC dX4_isFigure_34 (by decide) ?_
            refine aw_goto hC 39 dX4_isFigure_35 (by decide) ?_
            simp only [bd_def, if_neg c1, if_neg c2, if_neg c3, if_neg c4] at Jc1 ⊢
            exact Jc1
theorem b_X4_isFigure (S : HSt) (_o0 : Nat) (a1 : Int32) : Bz (f_X4_isFigure S _o0 a1) := by
  unfold f_X4_isFigure F_X4_isFigure
  (try dsimp only [bd])
  (repeat' split) <;> first | exact Or.inl rfl | exact Or.inr rfl
noncomputable def L_X4_takeNumber_5 : Nat → HSt → HSt
  | 0, S => (S)
  | n + 1, S =>
    if (gI S 13 2) ≤ (gI S 13 5) then (S) else (if (f_X4_isFigure S 13 (gI S 13 5)) = 0 then (S) else (bd ((if (3 : Int32) ≤ ((gI S 13 5) - (gI S 13 4)) then S else (bd ((sI S 13 6 ((((gI S 13 6) * (10 : Int32)) + (gI S 14 (gI S 13 5).toNatClampNeg)) - (48 : Int32)))) fun S1005 => S1005))) fun S1006 => bd ((sI S1006 13 5 ((gI S1006 13 5) + (1 : Int32)))) fun S1007 => L_X4_takeNumber_5 n S1007 ))
def T_X4_takeNumber_5 : Nat → HSt → Prop
  | 0, _ => False
  | n + 1, S => ((¬ (gI S 13 2) ≤ (gI S 13 5)) → p_X4_isFigure S 13 (gI S 13 5)) ∧ ((¬ (gI S 13 2) ≤ (gI S 13 5)) → (¬ (f_X4_isFigure S 13 (gI S 13 5)) = 0) → (¬ (3 : Int32) ≤ ((gI S 13 5) - (gI S 13 4))) → vp_in (gI S 13 5) 600) ∧ ((¬ (gI S 13 2) ≤ (gI S 13 5)) → (¬ (f_X4_isFigure S 13 (gI S 13 5)) = 0) → ∀ S1006 : HSt, (if (3 : Int32) ≤ ((gI S 13 5) - (gI S 13 4)) then S else (bd ((sI S 13 6 ((((gI S 13 6) * (10 : Int32)) + (gI S 14 (gI S 13 5).toNatClampNeg)) - (48 : Int32)))) fun S1005 => S1005)) = S1006 → ∀ S1007 : HSt, (sI S1006 13 5 ((gI S1006 13 5) + (1 : Int32))) = S1007 → T_X4_takeNumber_5 n S1007 )
theorem qL_X4_takeNumber_5 : ∀ (n : Nat) (S : HSt) , shp (L_X4_takeNumber_5 n S ) = shp S := by
  intro n
  induction n with
  | zero => intros; rfl
  | succ n ih =>
    intro S 
    unfold L_X4_takeNumber_5
    repeat' (first | with_reducible rfl | with_reducible refine (ih _).trans ?_ | with_reducible refine (shp_sI _ _ _ _).trans ?_ | with_reducible refine (shp_sJ _ _ _ _).trans ?_ | with_reducible refine (shp_rI _ _ _).trans ?_ | with_reducible refine shi ?_ ?_ | with_reducible refine shb (fun _ _ => ?_) | (subst_vars; with_reducible rfl) | (subst_vars; with_reducible refine (ih _).trans ?_) | (subst_vars; with_reducible refine (shp_sI _ _ _ _).trans ?_) | (subst_vars; with_reducible refine (shp_sJ _ _ _ _).trans ?_) | (subst_vars; with_reducible refine (shp_rI _ _ _).trans ?_) | (subst_vars; with_reducible refine shi ?_ ?_) | (subst_vars; with_reducible refine shb (fun _ _ => ?_)))
theorem vL_X4_takeNumber_5 : ∀ (n : Nat) (S : HSt) , Fr [(13, 5), (13, 6)] S (L_X4_takeNumber_5 n S ) := by
  intro n
  induction n with
  | zero => intros; exact Fr.refl _ _
  | succ n ih =>
    intro S 
    unfold L_X4_takeNumber_5
    repeat' (first | with_reducible exact Fr.refl _ _ | with_reducible refine Fr.l1 (fun _ _ => ?_) | with_reducible refine Fr.ite ?_ ?_ | with_reducible refine Fr.sE (by assumption) (by first | decide | simp only [List.mem_cons, List.not_mem_nil, or_false, true_or, or_true, eq_self_iff_true]) ?_ | with_reducible refine Fr.jE (by assumption) ?_ | with_reducible refine Fr.rE (by assumption) (by first | decide | simp only [List.mem_cons, List.not_mem_nil, or_false, true_or, or_true, eq_self_iff_true]) ?_ | with_reducible refine Fr.iE (by assumption) ?_ ?_ | with_reducible refine Fr.tr (ih _) (by first | decide | simp only [List.mem_cons, List.not_mem_nil, or_false, forall_eq_or_imp, forall_eq, true_or, or_true, and_self, eq_self_iff_true]) ?_)
theorem wL_X4_takeNumber_5 (n : Nat) (S : HSt)  (r : HSt) (e : L_X4_takeNumber_5 n S  = r) : Fr [(13, 5), (13, 6)] S r := by
  rw [← e]
  exact vL_X4_takeNumber_5 n S 
set_option maxRecDepth 100000 in
theorem l_X4_takeNumber_5 {p : Program} {l : Launch} {e : Env} {s : State} {m : MethodId} {args : Array Value} {below : List Frame} {meth : Method} {c : Code} {G : GG} {Q : State → Prop} (hC : ACx p s m args meth c cX4_takeNumber RX4 1 none) (hSt : St G s)   : ∀ (n : Nat) (S : HSt) , CS S → T_X4_takeNumber_5 n S  → AW p l e (rmD 1 0 0) s m args below meth c G 1 Q (L_X4_takeNumber_5 n S ) 0 0 77 [(0, .ref 13)] [] → AW p l e (rmD 1 0 0) s m args below meth c G 1 Q S 0 0 5 [(0, .ref 13)] [] := by
  intro n
  induction n with
  | zero => intro S  _ hT; exact hT.elim
  | succ n ih =>
    intro S  hM hT hk
    unfold T_X4_takeNumber_5 at hT
    obtain ⟨h0, h1, h2⟩ := hT
    refine aw_aload_n hC 0 dX4_takeNumber_5 rfl rfl ?_
    refine aw_getI hC hSt 5 (cs_lt 13 4 0 (by decide) hM) (cs_k 13 4 0 (by decide) hM) rfl (by decide) w_345 rfl dX4_takeNumber_6 ?_
    refine aw_aload_n hC 0 dX4_takeNumber_9 rfl rfl ?_
    refine aw_getI hC hSt 2 (cs_lt 13 4 0 (by decide) hM) (cs_k 13 4 0 (by decide) hM) rfl (by decide) w_328 rfl dX4_takeNumber_10 ?_
    refine aw_icmp_ge hC 77 dX4_takeNumber_13 (by decide) (fun c1002 => ?_) (fun c1002 => ?_)
    · refine aw_sub [0] rfl ?_
      have E : L_X4_takeNumber_5 (n + 1) S  = _ := (if_pos c1002).trans (rfl)
      rw [E] at hk
      exact hk
    · refine aw_aload_n hC 0 dX4_takeNumber_16 rfl rfl ?_
      refine aw_aload_n hC 0 dX4_takeNumber_17 rfl rfl ?_
      refine aw_getI hC hSt 5 (cs_lt 13 4 0 (by decide) hM) (cs_k 13 4 0 (by decide) hM) rfl (by decide) w_345 rfl dX4_takeNumber_18 ?_
      refine aw_cV1r hC hSt (t_X4_isFigure G l hM _ (h0 c1002)) w_342 w_348 w_349 w_350 w_351 rfl rfl (by decide +kernel) ⟨Nat.le_of_ble_eq_true rfl, Nat.le_of_ble_eq_true rfl⟩ (cs_lt 13 4 0 (by decide) hM) (cs_k 13 4 0 (by decide) hM) rfl (Nat.le_of_ble_eq_true rfl) dX4_takeNumber_21 ⟨Nat.zero_le _, Nat.zero_le _⟩ ?_
      refine aw_if_eq hC 77 dX4_takeNumber_24 (by decide) (fun c1003 => ?_) (fun c1003 => ?_)
      · refine aw_sub [0] rfl ?_
        have E : L_X4_takeNumber_5 (n + 1) S  = _ := (if_neg c1002).trans ((if_pos c1003).trans (rfl))
        rw [E] at hk
        exact hk
      · refine aw_aload_n hC 0 dX4_takeNumber_27 rfl rfl ?_
        refine aw_getI hC hSt 5 (cs_lt 13 4 0 (by decide) hM) (cs_k 13 4 0 (by decide) hM) rfl (by decide) w_345 rfl dX4_takeNumber_28 ?_
        refine aw_aload_n hC 0 dX4_takeNumber_31 rfl rfl ?_
        refine aw_getI hC hSt 4 (cs_lt 13 4 0 (by decide) hM) (cs_k 13 4 0 (by decide) hM) rfl (by decide) w_346 rfl dX4_takeNumber_32 ?_
        refine aw_isub hC dX4_takeNumber_35 ?_
        refine aw_iconst (v := 3) hC dX4_takeNumber_36 (by decide) ?_
        refine aw_cut (S' := (if (3 : Int32) ≤ ((gI S 13 5) - (gI S 13 4)) then S else (bd ((sI S 13 6 ((((gI S 13 6) * (10 : Int32)) + (gI S 14 (gI S 13 5).toNatClampNeg)) - (48 : Int32)))) fun S1005 => S1005))) (pc' := 64) (lv' := [(0, .ref 13)]) (st' := []) ?_ (fun Jc1004 => ?_)
        · generalize eS1006 : (if (3 : Int32) ≤ ((gI S 13 5) - (gI S 13 4)) then S else (bd ((sI S 13 6 ((((gI S 13 6) * (10 : Int32)) + (gI S 14 (gI S 13 5).toNatClampNeg)) - (48 : Int32)))) fun S1005 => S1005)) = S1006
          have hM : CS S1006 := CS.of (by rw [← eS1006]; repeat' (first | with_reducible rfl | with_reducible refine (shp_sI _ _ _ _).trans ?_ | with_reducible refine (shp_sJ _ _ _ _).trans ?_ | with_reducible refine (shp_rI _ _ _).trans ?_ | with_reducible refine shi ?_ ?_ | with_reducible refine shb (fun _ _ => ?_) | (subst_vars; with_reducible rfl) | (subst_vars; with_reducible refine (shp_sI _ _ _ _).trans ?_) | (subst_vars; with_reducible refine (shp_sJ _ _ _ _).trans ?_) | (subst_vars; with_reducible refine (shp_rI _ _ _).trans ?_) | (subst_vars; with_reducible refine shi ?_ ?_) | (subst_vars; with_reducible refine shb (fun _ _ => ?_)))) hM
          refine aw_aload_n hC 0 dX4_takeNumber_64 rfl rfl ?_
          refine aw_dup hC dX4_takeNumber_65 rfl ?_
          refine aw_getI hC hSt 5 (cs_lt 13 4 0 (by decide) hM) (cs_k 13 4 0 (by decide) hM) rfl (by decide) w_345 rfl dX4_takeNumber_66 ?_
          refine aw_iconst (v := 1) hC dX4_takeNumber_69 (by decide) ?_
          refine aw_iadd hC dX4_takeNumber_70 ?_
          refine aw_putI hC hSt 5 (cs_lt 13 4 0 (by decide) hM) (cs_k 13 4 0 (by decide) hM) rfl (by decide) w_345 rfl rfl rfl rfl dX4_takeNumber_71 ?_
          generalize eS1007 : (sI S1006 13 5 ((gI S1006 13 5) + (1 : Int32))) = S1007
          have hM : CS S1007 := CS.of (by rw [← eS1007]; exact shp_sI _ _ _ _) hM
          refine aw_goto hC 5 dX4_takeNumber_74 (by decide) ?_
          refine aw_sub [0] rfl ?_
          have hTn := (h2 c1002 c1003 S1006 eS1006 S1007 eS1007)
          have hMn : CS S1007 := hM
          have E : L_X4_takeNumber_5 (n + 1) S  = _ := (if_neg c1002).trans ((if_neg c1003).trans ((bd_eq eS1006).trans ((bd_eq eS1007).trans (rfl))))
          rw [E] at hk
          exact ih _ hMn hTn hk
        · refine aw_icmp_ge hC 64 dX4_takeNumber_37 (by decide) (fun c1004 => ?_) (fun c1004 => ?_)
          · simp only [bd_def, if_pos c1004] at Jc1004 ⊢
            exact Jc1004
          · refine aw_aload_n hC 0 dX4_takeNumber_40 rfl rfl ?_
            refine aw_aload_n hC 0 dX4_takeNumber_41 rfl rfl ?_
            refine aw_getI hC hSt 6 (cs_lt 13 4 0 (by decide) hM) (cs_k 13 4 0 (by decide) hM) rfl (by decide) w_344 rfl dX4_takeNumber_42 ?_
            refine aw_bipush (v := 10) hC dX4_takeNumber_45 (by decide) ?_
            refine aw_imul hC dX4_takeNumber_47 ?_
            refine aw_aload_n hC 0 dX4_takeNumber_48 rfl rfl ?_
            refine aw_getP (b := 14) hC hSt 0 (cs_lt 13 4 0 (by decide) hM) (cs_k 13 4 0 (by decide) hM) rfl (by decide) w_322 rfl (cs_p 13 0 14 (by decide) hM) dX4_takeNumber_49 ?_
            refine aw_aload_n hC 0 dX4_takeNumber_52 rfl rfl ?_
            refine aw_getI hC hSt 5 (cs_lt 13 4 0 (by decide) hM) (cs_k 13 4 0 (by decide) hM) rfl (by decide) w_345 rfl dX4_takeNumber_53 ?_
            refine aw_bald hC hSt (cs_lt 14 13 600 (by decide) hM) (cs_k 14 13 600 (by decide) hM) (vp_len (n := 600) (cs_l 14 13 600 (by decide) hM) (h1 c1002 c1003 c1004)) dX4_takeNumber_56 ?_
            refine aw_iadd hC dX4_takeNumber_57 ?_
            refine aw_bipush (v := 48) hC dX4_takeNumber_58 (by decide) ?_
            refine aw_isub hC dX4_takeNumber_60 ?_
            refine aw_putI hC hSt 6 (cs_lt 13 4 0 (by decide) hM) (cs_k 13 4 0 (by decide) hM) rfl (by decide) w_344 rfl rfl rfl rfl dX4_takeNumber_61 ?_
            generalize eS1005 : (sI S 13 6 ((((gI S 13 6) * (10 : Int32)) + (gI S 14 (gI S 13 5).toNatClampNeg)) - (48 : Int32))) = S1005
            have hM : CS S1005 := CS.of (by rw [← eS1005]; exact shp_sI _ _ _ _) hM
            subst eS1005
            simp only [bd_def, if_neg c1004] at Jc1004 ⊢
            exact Jc1004
noncomputable def f_X4_takeNumber (S : HSt) (_o0 : Nat) : HSt := bd ((sI S 13 6 (0 : Int32))) fun S1 => bd (L_X4_takeNumber_5 1000 S1 ) fun r2 => bd ((if (3 : Int32) < ((gI r2 13 5) - (gI r2 13 4)) then (4 : Int32) else (2 : Int32))) fun x4 => bd ((sI r2 13 3 x4)) fun S5 => S5
def p_X4_takeNumber (S : HSt) (_o0 : Nat) : Prop := (∀ S1 : HSt, (sI S 13 6 (0 : Int32)) = S1 → T_X4_takeNumber_5 1000 S1 )
set_option maxRecDepth 100000 in
theorem t_X4_takeNumber (G : GG) (l : Launch) {S : HSt} (hM : CS S)   (hp : p_X4_takeNumber S 13) : AM G l yX4_takeNumber cX4_takeNumber 1 none (rmD 1 0 0) 0 0 [.ref 13] S (FP none (f_X4_takeNumber S 13)) := by
  have h0 := hp
  unfold p_X4_takeNumber at h0
  refine AM.mk (by decide) (Nat.le_of_ble_eq_true rfl) ?_
  intro p e s m below meth c hC hSt _
  refine aw_aload_n hC 0 dX4_takeNumber_0 rfl rfl ?_
  refine aw_iconst (v := 0) hC dX4_takeNumber_1 (by decide) ?_
  refine aw_putI hC hSt 6 (cs_lt 13 4 0 (by decide) hM) (cs_k 13 4 0 (by decide) hM) rfl (by decide) w_344 rfl rfl rfl rfl dX4_takeNumber_2 ?_
  generalize eS1 : (sI S 13 6 (0 : Int32)) = S1
  have hM : CS S1 := CS.of (by rw [← eS1]; exact shp_sI _ _ _ _) hM
  refine aw_sub [0] rfl ?_
  refine l_X4_takeNumber_5 hC hSt 1000 _ hM (h0 S1 eS1) ?_
  generalize er2 : L_X4_takeNumber_5 1000 S1  = r2
  have hM : CS r2 := CS.of (by rw [← er2]; exact qL_X4_takeNumber_5 _ _) hM
  refine aw_aload_n hC 0 dX4_takeNumber_77 rfl rfl ?_
  refine aw_aload_n hC 0 dX4_takeNumber_78 rfl rfl ?_
  refine aw_getI hC hSt 5 (cs_lt 13 4 0 (by decide) hM) (cs_k 13 4 0 (by decide) hM) rfl (by decide) w_345 rfl dX4_takeNumber_79 ?_
  refine aw_aload_n hC 0 dX4_takeNumber_82 rfl rfl ?_
  refine aw_getI hC hSt 4 (cs_lt 13 4 0 (by decide) hM) (cs_k 13 4 0 (by decide) hM) rfl (by decide) w_346 rfl dX4_takeNumber_83 ?_
  refine aw_isub hC dX4_takeNumber_86 ?_
  refine aw_iconst (v := 3) hC dX4_takeNumber_87 (by decide) ?_
  refine aw_cut (S' := r2) (pc' := 96) (lv' := [(0, .ref 13)]) (st' := [.int (if (3 : Int32) < ((gI r2 13 5) - (gI r2 13 4)) then (4 : Int32) else (2 : Int32)), .ref 13]) ?_ (fun Jc3 => ?_)
  · generalize ex4 : (if (3 : Int32) < ((gI r2 13 5) - (gI r2 13 4)) then (4 : Int32) else (2 : Int32)) = x4
    refine aw_putI hC hSt 3 (cs_lt 13 4 0 (by decide) hM) (cs_k 13 4 0 (by decide) hM) rfl (by decide) w_347 rfl rfl rfl rfl dX4_takeNumber_96 ?_
    generalize eS5 : (sI r2 13 3 x4) = S5
    have hM : CS S5 := CS.of (by rw [← eS5]; exact shp_sI _ _ _ _) hM
    refine aw_vret hC dX4_takeNumber_99 (Nat.le_refl _) (Nat.le_refl _) ?_
    exact FP.qV ((bd_eq eS1).trans ((bd_eq er2).trans ((bd_eq ex4).trans ((bd_eq eS5).trans (rfl)))))
  · refine aw_icmp_gt hC 95 dX4_takeNumber_88 (by decide) (fun c3 => ?_) (fun c3 => ?_)
    · refine aw_iconst (v := 4) hC dX4_takeNumber_95 (by decide) ?_
      simp only [bd_def, if_pos c3] at Jc3 ⊢
      exact Jc3
    · refine aw_iconst (v := 2) hC dX4_takeNumber_91 (by decide) ?_
      refine aw_goto hC 96 dX4_takeNumber_92 (by decide) ?_
      simp only [bd_def, if_neg c3] at Jc3 ⊢
      exact Jc3
theorem q_X4_takeNumber (S : HSt) (_o0 : Nat) : shp (f_X4_takeNumber S _o0) = shp S := by
  unfold f_X4_takeNumber
  repeat' (first | with_reducible rfl | with_reducible refine (qL_X4_takeNumber_5 _ _).trans ?_ | with_reducible refine (shp_sI _ _ _ _).trans ?_ | with_reducible refine (shp_sJ _ _ _ _).trans ?_ | with_reducible refine (shp_rI _ _ _).trans ?_ | with_reducible refine shi ?_ ?_ | with_reducible refine shb (fun _ _ => ?_) | (subst_vars; with_reducible rfl) | (subst_vars; with_reducible refine (qL_X4_takeNumber_5 _ _).trans ?_) | (subst_vars; with_reducible refine (shp_sI _ _ _ _).trans ?_) | (subst_vars; with_reducible refine (shp_sJ _ _ _ _).trans ?_) | (subst_vars; with_reducible refine (shp_rI _ _ _).trans ?_) | (subst_vars; with_reducible refine shi ?_ ?_) | (subst_vars; with_reducible refine shb (fun _ _ => ?_)))
theorem v_X4_takeNumber (S : HSt) (_o0 : Nat) : Fr [(13, 3), (13, 5), (13, 6)] S (f_X4_takeNumber S _o0) := by
  unfold f_X4_takeNumber
  repeat' (first | with_reducible exact Fr.refl _ _ | with_reducible refine Fr.l1 (fun _ _ => ?_) | with_reducible refine Fr.ite ?_ ?_ | with_reducible refine Fr.sE (by assumption) (by first | decide | simp only [List.mem_cons, List.not_mem_nil, or_false, true_or, or_true, eq_self_iff_true]) ?_ | with_reducible refine Fr.jE (by assumption) ?_ | with_reducible refine Fr.rE (by assumption) (by first | decide | simp only [List.mem_cons, List.not_mem_nil, or_false, true_or, or_true, eq_self_iff_true]) ?_ | with_reducible refine Fr.iE (by assumption) ?_ ?_ | with_reducible refine Fr.tr (wL_X4_takeNumber_5 _ _ _ (by assumption)) (by first | decide | simp only [List.mem_cons, List.not_mem_nil, or_false, forall_eq_or_imp, forall_eq, true_or, or_true, and_self, eq_self_iff_true]) ?_)
theorem w_X4_takeNumber (S : HSt) (_o0 : Nat) (r : HSt) (e : f_X4_takeNumber S _o0 = r) : Fr [(13, 3), (13, 5), (13, 6)] S r := by
  rw [← e]
  exact v_X4_takeNumber S _o0
noncomputable def L_X4_next_8 : Nat → HSt → HSt
  | 0, S => (S)
  | n + 1, S =>
    if (gI S 13 2) ≤ (gI S 13 4) then (S) else (if (gI S 14 (gI S 13 4).toNatClampNeg) = (32 : Int32) then (bd ((sI S 13 4 ((gI S 13 4) + (1 : Int32)))) fun S1004 => L_X4_next_8 n S1004 ) else (if (gI S 14 (gI S 13 4).toNatClampNeg) = (10 : Int32) then (bd ((sI S 13 4 ((gI S 13 4) + (1 : Int32)))) fun S1006 => L_X4_next_8 n S1006 ) else (S)))
def T_X4_next_8 : Nat → HSt → Prop
  | 0, _ => False
  | n + 1, S => ((¬ (gI S 13 2) ≤ (gI S 13 4)) → vp_in (gI S 13 4) 600) ∧ ((¬ (gI S 13 2) ≤ (gI S 13 4)) → ((gI S 14 (gI S 13 4).toNatClampNeg) = (32 : Int32)) → ∀ S1004 : HSt, (sI S 13 4 ((gI S 13 4) + (1 : Int32))) = S1004 → T_X4_next_8 n S1004 ) ∧ ((¬ (gI S 13 2) ≤ (gI S 13 4)) → (¬ (gI S 14 (gI S 13 4).toNatClampNeg) = (32 : Int32)) → vp_in (gI S 13 4) 600) ∧ ((¬ (gI S 13 2) ≤ (gI S 13 4)) → (¬ (gI S 14 (gI S 13 4).toNatClampNeg) = (32 : Int32)) → ((gI S 14 (gI S 13 4).toNatClampNeg) = (10 : Int32)) → ∀ S1006 : HSt, (sI S 13 4 ((gI S 13 4) + (1 : Int32))) = S1006 → T_X4_next_8 n S1006 )
theorem qL_X4_next_8 : ∀ (n : Nat) (S : HSt) , shp (L_X4_next_8 n S ) = shp S := by
  intro n
  induction n with
  | zero => intros; rfl
  | succ n ih =>
    intro S 
    unfold L_X4_next_8
    repeat' (first | with_reducible rfl | with_reducible refine (ih _).trans ?_ | with_reducible refine (q_X4_takeNumber _ _).trans ?_ | with_reducible refine (shp_sI _ _ _ _).trans ?_ | with_reducible refine (shp_sJ _ _ _ _).trans ?_ | with_reducible refine (shp_rI _ _ _).trans ?_ | with_reducible refine shi ?_ ?_ | with_reducible refine shb (fun _ _ => ?_) | (subst_vars; with_reducible rfl) | (subst_vars; with_reducible refine (ih _).trans ?_) | (subst_vars; with_reducible refine (q_X4_takeNumber _ _).trans ?_) | (subst_vars; with_reducible refine (shp_sI _ _ _ _).trans ?_) | (subst_vars; with_reducible refine (shp_sJ _ _ _ _).trans ?_) | (subst_vars; with_reducible refine (shp_rI _ _ _).trans ?_) | (subst_vars; with_reducible refine shi ?_ ?_) | (subst_vars; with_reducible refine shb (fun _ _ => ?_)))
theorem vL_X4_next_8 : ∀ (n : Nat) (S : HSt) , Fr [(13, 4)] S (L_X4_next_8 n S ) := by
  intro n
  induction n with
  | zero => intros; exact Fr.refl _ _
  | succ n ih =>
    intro S 
    unfold L_X4_next_8
    repeat' (first | with_reducible exact Fr.refl _ _ | with_reducible refine Fr.l1 (fun _ _ => ?_) | with_reducible refine Fr.ite ?_ ?_ | with_reducible refine Fr.sE (by assumption) (by first | decide | simp only [List.mem_cons, List.not_mem_nil, or_false, true_or, or_true, eq_self_iff_true]) ?_ | with_reducible refine Fr.jE (by assumption) ?_ | with_reducible refine Fr.rE (by assumption) (by first | decide | simp only [List.mem_cons, List.not_mem_nil, or_false, true_or, or_true, eq_self_iff_true]) ?_ | with_reducible refine Fr.iE (by assumption) ?_ ?_ | with_reducible refine Fr.tr (ih _) (by first | decide | simp only [List.mem_cons, List.not_mem_nil, or_false, forall_eq_or_imp, forall_eq, true_or, or_true, and_self, eq_self_iff_true]) ?_ | with_reducible refine Fr.tr (w_X4_takeNumber _ _ _ (by assumption)) (by first | decide | simp only [List.mem_cons, List.not_mem_nil, or_false, forall_eq_or_imp, forall_eq, true_or, or_true, and_self, eq_self_iff_true]) ?_)
theorem wL_X4_next_8 (n : Nat) (S : HSt)  (r : HSt) (e : L_X4_next_8 n S  = r) : Fr [(13, 4)] S r := by
  rw [← e]
  exact vL_X4_next_8 n S 
set_option maxRecDepth 100000 in
theorem l_X4_next_8 {p : Program} {l : Launch} {e : Env} {s : State} {m : MethodId} {args : Array Value} {below : List Frame} {meth : Method} {c : Code} {G : GG} {Q : State → Prop} (hC : ACx p s m args meth c cX4_next RX4 1 none) (hSt : St G s)   : ∀ (n : Nat) (S : HSt) , CS S → T_X4_next_8 n S  → AW p l e (rmD 2 0 0) s m args below meth c G 1 Q (L_X4_next_8 n S ) 0 0 60 [(0, .ref 13)] [] → AW p l e (rmD 2 0 0) s m args below meth c G 1 Q S 0 0 8 [(0, .ref 13)] [] := by
  intro n
  induction n with
  | zero => intro S  _ hT; exact hT.elim
  | succ n ih =>
    intro S  hM hT hk
    unfold T_X4_next_8 at hT
    obtain ⟨h0, h1, h2, h3⟩ := hT
    refine aw_aload_n hC 0 dX4_next_8 rfl rfl ?_
    refine aw_getI hC hSt 4 (cs_lt 13 4 0 (by decide) hM) (cs_k 13 4 0 (by decide) hM) rfl (by decide) w_346 rfl dX4_next_9 ?_
    refine aw_aload_n hC 0 dX4_next_12 rfl rfl ?_
    refine aw_getI hC hSt 2 (cs_lt 13 4 0 (by decide) hM) (cs_k 13 4 0 (by decide) hM) rfl (by decide) w_328 rfl dX4_next_13 ?_
    refine aw_icmp_ge hC 60 dX4_next_16 (by decide) (fun c1002 => ?_) (fun c1002 => ?_)
    · refine aw_sub [0] rfl ?_
      have E : L_X4_next_8 (n + 1) S  = _ := (if_pos c1002).trans (rfl)
      rw [E] at hk
      exact hk
    · refine aw_aload_n hC 0 dX4_next_19 rfl rfl ?_
      refine aw_getP (b := 14) hC hSt 0 (cs_lt 13 4 0 (by decide) hM) (cs_k 13 4 0 (by decide) hM) rfl (by decide) w_322 rfl (cs_p 13 0 14 (by decide) hM) dX4_next_20 ?_
      refine aw_aload_n hC 0 dX4_next_23 rfl rfl ?_
      refine aw_getI hC hSt 4 (cs_lt 13 4 0 (by decide) hM) (cs_k 13 4 0 (by decide) hM) rfl (by decide) w_346 rfl dX4_next_24 ?_
      refine aw_bald hC hSt (cs_lt 14 13 600 (by decide) hM) (cs_k 14 13 600 (by decide) hM) (vp_len (n := 600) (cs_l 14 13 600 (by decide) hM) (h0 c1002)) dX4_next_27 ?_
      refine aw_bipush (v := 32) hC dX4_next_28 (by decide) ?_
      refine aw_icmp_eq hC 47 dX4_next_30 (by decide) (fun c1003 => ?_) (fun c1003 => ?_)
      · refine aw_aload_n hC 0 dX4_next_47 rfl rfl ?_
        refine aw_dup hC dX4_next_48 rfl ?_
        refine aw_getI hC hSt 4 (cs_lt 13 4 0 (by decide) hM) (cs_k 13 4 0 (by decide) hM) rfl (by decide) w_346 rfl dX4_next_49 ?_
        refine aw_iconst (v := 1) hC dX4_next_52 (by decide) ?_
        refine aw_iadd hC dX4_next_53 ?_
        refine aw_putI hC hSt 4 (cs_lt 13 4 0 (by decide) hM) (cs_k 13 4 0 (by decide) hM) rfl (by decide) w_346 rfl rfl rfl rfl dX4_next_54 ?_
        generalize eS1004 : (sI S 13 4 ((gI S 13 4) + (1 : Int32))) = S1004
        have hM : CS S1004 := CS.of (by rw [← eS1004]; exact shp_sI _ _ _ _) hM
        refine aw_goto hC 8 dX4_next_57 (by decide) ?_
        refine aw_sub [0] rfl ?_
        have hTn := (h1 c1002 c1003 S1004 eS1004)
        have hMn : CS S1004 := hM
        have E : L_X4_next_8 (n + 1) S  = _ := (if_neg c1002).trans ((if_pos c1003).trans ((bd_eq eS1004).trans (rfl)))
        rw [E] at hk
        exact ih _ hMn hTn hk
      · refine aw_aload_n hC 0 dX4_next_33 rfl rfl ?_
        refine aw_getP (b := 14) hC hSt 0 (cs_lt 13 4 0 (by decide) hM) (cs_k 13 4 0 (by decide) hM) rfl (by decide) w_322 rfl (cs_p 13 0 14 (by decide) hM) dX4_next_34 ?_
        refine aw_aload_n hC 0 dX4_next_37 rfl rfl ?_
        refine aw_getI hC hSt 4 (cs_lt 13 4 0 (by decide) hM) (cs_k 13 4 0 (by decide) hM) rfl (by decide) w_346 rfl dX4_next_38 ?_
        refine aw_bald hC hSt (cs_lt 14 13 600 (by decide) hM) (cs_k 14 13 600 (by decide) hM) (vp_len (n := 600) (cs_l 14 13 600 (by decide) hM) (h2 c1002 c1003)) dX4_next_41 ?_
        refine aw_bipush (v := 10) hC dX4_next_42 (by decide) ?_
        refine aw_icmp_ne hC 60 dX4_next_44 (by decide) (fun c1005 => ?_) (fun c1005 => ?_)
        · refine aw_sub [0] rfl ?_
          have E : L_X4_next_8 (n + 1) S  = _ := (if_neg c1002).trans ((if_neg c1003).trans ((if_neg c1005).trans (rfl)))
          rw [E] at hk
          exact hk
        · refine aw_aload_n hC 0 dX4_next_47 rfl rfl ?_
          refine aw_dup hC dX4_next_48 rfl ?_
          refine aw_getI hC hSt 4 (cs_lt 13 4 0 (by decide) hM) (cs_k 13 4 0 (by decide) hM) rfl (by decide) w_346 rfl dX4_next_49 ?_
          refine aw_iconst (v := 1) hC dX4_next_52 (by decide) ?_
          refine aw_iadd hC dX4_next_53 ?_
          refine aw_putI hC hSt 4 (cs_lt 13 4 0 (by decide) hM) (cs_k 13 4 0 (by decide) hM) rfl (by decide) w_346 rfl rfl rfl rfl dX4_next_54 ?_
          generalize eS1006 : (sI S 13 4 ((gI S 13 4) + (1 : Int32))) = S1006
          have hM : CS S1006 := CS.of (by rw [← eS1006]; exact shp_sI _ _ _ _) hM
          refine aw_goto hC 8 dX4_next_57 (by decide) ?_
          refine aw_sub [0] rfl ?_
          have hTn := (h3 c1002 c1003 c1005 S1006 eS1006)
          have hMn : CS S1006 := hM
          have E : L_X4_next_8 (n + 1) S  = _ := (if_neg c1002).trans ((if_neg c1003).trans ((if_pos c1005).trans ((bd_eq eS1006).trans (rfl))))
          rw [E] at hk
          exact ih _ hMn hTn hk
noncomputable def L_X4_next_103 : Nat → HSt → HSt
  | 0, S => (S)
  | n + 1, S =>
    if (gI S 13 2) ≤ (gI S 13 5) then (S) else (if (f_X4_isLetter S 13 (gI S 13 5)) = 0 then (S) else (bd ((sI S 13 5 ((gI S 13 5) + (1 : Int32)))) fun S1015 => L_X4_next_103 n S1015 ))
def T_X4_next_103 : Nat → HSt → Prop
  | 0, _ => False
  | n + 1, S => ((¬ (gI S 13 2) ≤ (gI S 13 5)) → p_X4_isLetter S 13 (gI S 13 5)) ∧ ((¬ (gI S 13 2) ≤ (gI S 13 5)) → (¬ (f_X4_isLetter S 13 (gI S 13 5)) = 0) → ∀ S1015 : HSt, (sI S 13 5 ((gI S 13 5) + (1 : Int32))) = S1015 → T_X4_next_103 n S1015 )
theorem qL_X4_next_103 : ∀ (n : Nat) (S : HSt) , shp (L_X4_next_103 n S ) = shp S := by
  intro n
  induction n with
  | zero => intros; rfl
  | succ n ih =>
    intro S 
    unfold L_X4_next_103
    repeat' (first | with_reducible rfl | with_reducible refine (ih _).trans ?_ | with_reducible refine (q_X4_takeNumber _ _).trans ?_ | with_reducible refine (qL_X4_next_8 _ _).trans ?_ | with_reducible refine (shp_sI _ _ _ _).trans ?_ | with_reducible refine (shp_sJ _ _ _ _).trans ?_ | with_reducible refine (shp_rI _ _ _).trans ?_ | with_reducible refine shi ?_ ?_ | with_reducible refine shb (fun _ _ => ?_) | (subst_vars; with_reducible rfl) | (subst_vars; with_reducible refine (ih _).trans ?_) | (subst_vars; with_reducible refine (q_X4_takeNumber _ _).trans ?_) | (subst_vars; with_reducible refine (qL_X4_next_8 _ _).trans ?_) | (subst_vars; with_reducible refine (shp_sI _ _ _ _).trans ?_) | (subst_vars; with_reducible refine (shp_sJ _ _ _ _).trans ?_) | (subst_vars; with_reducible refine (shp_rI _ _ _).trans ?_) | (subst_vars; with_reducible refine shi ?_ ?_) | (subst_vars; with_reducible refine shb (fun _ _ => ?_)))
theorem vL_X4_next_103 : ∀ (n : Nat) (S : HSt) , Fr [(13, 5)] S (L_X4_next_103 n S ) := by
  intro n
  induction n with
  | zero => intros; exact Fr.refl _ _
  | succ n ih =>
    intro S 
    unfold L_X4_next_103
    repeat' (first | with_reducible exact Fr.refl _ _ | with_reducible refine Fr.l1 (fun _ _ => ?_) | with_reducible refine Fr.ite ?_ ?_ | with_reducible refine Fr.sE (by assumption) (by first | decide | simp only [List.mem_cons, List.not_mem_nil, or_false, true_or, or_true, eq_self_iff_true]) ?_ | with_reducible refine Fr.jE (by assumption) ?_ | with_reducible refine Fr.rE (by assumption) (by first | decide | simp only [List.mem_cons, List.not_mem_nil, or_false, true_or, or_true, eq_self_iff_true]) ?_ | with_reducible refine Fr.iE (by assumption) ?_ ?_ | with_reducible refine Fr.tr (ih _) (by first | decide | simp only [List.mem_cons, List.not_mem_nil, or_false, forall_eq_or_imp, forall_eq, true_or, or_true, and_self, eq_self_iff_true]) ?_ | with_reducible refine Fr.tr (w_X4_takeNumber _ _ _ (by assumption)) (by first | decide | simp only [List.mem_cons, List.not_mem_nil, or_false, forall_eq_or_imp, forall_eq, true_or, or_true, and_self, eq_self_iff_true]) ?_ | with_reducible refine Fr.tr (wL_X4_next_8 _ _ _ (by assumption)) (by first | decide | simp only [List.mem_cons, List.not_mem_nil, or_false, forall_eq_or_imp, forall_eq, true_or, or_true, and_self, eq_self_iff_true]) ?_)
theorem wL_X4_next_103 (n : Nat) (S : HSt)  (r : HSt) (e : L_X4_next_103 n S  = r) : Fr [(13, 5)] S r := by
  rw [← e]
  exact vL_X4_next_103 n S 
set_option maxRecDepth 100000 in
theorem l_X4_next_103 {p : Program} {l : Launch} {e : Env} {s : State} {m : MethodId} {args : Array Value} {below : List Frame} {meth : Method} {c : Code} {G : GG} {Q : State → Prop} (hC : ACx p s m args meth c cX4_next RX4 1 none) (hSt : St G s)   : ∀ (n : Nat) (S : HSt) , CS S → T_X4_next_103 n S  → AW p l e (rmD 2 0 0) s m args below meth c G 1 Q (L_X4_next_103 n S ) 0 0 189 [(0, .ref 13)] [] → AW p l e (rmD 2 0 0) s m args below meth c G 1 Q S 0 0 103 [(0, .ref 13)] [] := by
  intro n
  induction n with
  | zero => intro S  _ hT; exact hT.elim
  | succ n ih =>
    intro S  hM hT hk
    unfold T_X4_next_103 at hT
    obtain ⟨h0, h1⟩ := hT
    refine aw_aload_n hC 0 dX4_next_103 rfl rfl ?_
    refine aw_getI hC hSt 5 (cs_lt 13 4 0 (by decide) hM) (cs_k 13 4 0 (by decide) hM) rfl (by decide) w_345 rfl dX4_next_104 ?_
    refine aw_aload_n hC 0 dX4_next_107 rfl rfl ?_
    refine aw_getI hC hSt 2 (cs_lt 13 4 0 (by decide) hM) (cs_k 13 4 0 (by decide) hM) rfl (by decide) w_328 rfl dX4_next_108 ?_
    refine aw_icmp_ge hC 189 dX4_next_111 (by decide) (fun c1013 => ?_) (fun c1013 => ?_)
    · refine aw_sub [0] rfl ?_
      have E : L_X4_next_103 (n + 1) S  = _ := (if_pos c1013).trans (rfl)
      rw [E] at hk
      exact hk
    · refine aw_aload_n hC 0 dX4_next_114 rfl rfl ?_
      refine aw_aload_n hC 0 dX4_next_115 rfl rfl ?_
      refine aw_getI hC hSt 5 (cs_lt 13 4 0 (by decide) hM) (cs_k 13 4 0 (by decide) hM) rfl (by decide) w_345 rfl dX4_next_116 ?_
      refine aw_cV1r hC hSt (t_X4_isLetter G l hM _ (h0 c1013)) w_341 w_353 w_354 w_355 w_351 rfl rfl (by decide +kernel) ⟨Nat.le_of_ble_eq_true rfl, Nat.le_of_ble_eq_true rfl⟩ (cs_lt 13 4 0 (by decide) hM) (cs_k 13 4 0 (by decide) hM) rfl (Nat.le_of_ble_eq_true rfl) dX4_next_119 ⟨Nat.zero_le _, Nat.zero_le _⟩ ?_
      refine aw_if_eq hC 189 dX4_next_122 (by decide) (fun c1014 => ?_) (fun c1014 => ?_)
      · refine aw_sub [0] rfl ?_
        have E : L_X4_next_103 (n + 1) S  = _ := (if_neg c1013).trans ((if_pos c1014).trans (rfl))
        rw [E] at hk
        exact hk
      · refine aw_aload_n hC 0 dX4_next_125 rfl rfl ?_
        refine aw_dup hC dX4_next_126 rfl ?_
        refine aw_getI hC hSt 5 (cs_lt 13 4 0 (by decide) hM) (cs_k 13 4 0 (by decide) hM) rfl (by decide) w_345 rfl dX4_next_127 ?_
        refine aw_iconst (v := 1) hC dX4_next_130 (by decide) ?_
        refine aw_iadd hC dX4_next_131 ?_
        refine aw_putI hC hSt 5 (cs_lt 13 4 0 (by decide) hM) (cs_k 13 4 0 (by decide) hM) rfl (by decide) w_345 rfl rfl rfl rfl dX4_next_132 ?_
        generalize eS1015 : (sI S 13 5 ((gI S 13 5) + (1 : Int32))) = S1015
        have hM : CS S1015 := CS.of (by rw [← eS1015]; exact shp_sI _ _ _ _) hM
        refine aw_goto hC 103 dX4_next_135 (by decide) ?_
        refine aw_sub [0] rfl ?_
        have hTn := (h1 c1013 c1014 S1015 eS1015)
        have hMn : CS S1015 := hM
        have E : L_X4_next_103 (n + 1) S  = _ := (if_neg c1013).trans ((if_neg c1014).trans ((bd_eq eS1015).trans (rfl)))
        rw [E] at hk
        exact ih _ hMn hTn hk
noncomputable def f_X4_next (S : HSt) (_o0 : Nat) : HSt := bd ((sI S 13 4 (gI S 13 5))) fun S1 => bd (L_X4_next_8 1000 S1 ) fun r2 => bd ((sI r2 13 5 (gI r2 13 4))) fun S3 => bd ((if (gI S3 13 4) < (gI S3 13 2) then (if (f_X4_isLetter S3 13 (gI S3 13 4)) = 0 then (if (f_X4_isFigure S3 13 (gI S3 13 4)) = 0 then (bd ((if (gI S3 14 (gI S3 13 4).toNatClampNeg) = (59 : Int32) then (3 : Int32) else (4 : Int32))) fun x8 => bd ((sI S3 13 3 x8)) fun S9 => bd ((sI S9 13 5 ((gI S9 13 5) + (1 : Int32)))) fun S10 => S10) else (bd (f_X4_takeNumber S3 13) fun r11 => r11)) else (bd ((sI S3 13 3 (1 : Int32))) fun S12 => bd (L_X4_next_103 1000 S12 ) fun r13 => r13)) else (bd ((sI S3 13 3 (0 : Int32))) fun S14 => S14))) fun S15 => S15
def p_X4_next (S : HSt) (_o0 : Nat) : Prop := (∀ S1 : HSt, (sI S 13 4 (gI S 13 5)) = S1 → T_X4_next_8 1000 S1 ) ∧ (∀ S1 : HSt, (sI S 13 4 (gI S 13 5)) = S1 → ∀ r2, L_X4_next_8 1000 S1  = r2 → ∀ S3 : HSt, (sI r2 13 5 (gI r2 13 4)) = S3 → ((gI S3 13 4) < (gI S3 13 2)) → p_X4_isLetter S3 13 (gI S3 13 4)) ∧ (∀ S1 : HSt, (sI S 13 4 (gI S 13 5)) = S1 → ∀ r2, L_X4_next_8 1000 S1  = r2 → ∀ S3 : HSt, (sI r2 13 5 (gI r2 13 4)) = S3 → ((gI S3 13 4) < (gI S3 13 2)) → ((f_X4_isLetter S3 13 (gI S3 13 4)) = 0) → p_X4_isFigure S3 13 (gI S3 13 4)) ∧ (∀ S1 : HSt, (sI S 13 4 (gI S 13 5)) = S1 → ∀ r2, L_X4_next_8 1000 S1  = r2 → ∀ S3 : HSt, (sI r2 13 5 (gI r2 13 4)) = S3 → ((gI S3 13 4) < (gI S3 13 2)) → ((f_X4_isLetter S3 13 (gI S3 13 4)) = 0) → ((f_X4_isFigure S3 13 (gI S3 13 4)) = 0) → vp_in (gI S3 13 4) 600) ∧ (∀ S1 : HSt, (sI S 13 4 (gI S 13 5)) = S1 → ∀ r2, L_X4_next_8 1000 S1  = r2 → ∀ S3 : HSt, (sI r2 13 5 (gI r2 13 4)) = S3 → ((gI S3 13 4) < (gI S3 13 2)) → ((f_X4_isLetter S3 13 (gI S3 13 4)) = 0) → (¬ (f_X4_isFigure S3 13 (gI S3 13 4)) = 0) → p_X4_takeNumber S3 13) ∧ (∀ S1 : HSt, (sI S 13 4 (gI S 13 5)) = S1 → ∀ r2, L_X4_next_8 1000 S1  = r2 → ∀ S3 : HSt, (sI r2 13 5 (gI r2 13 4)) = S3 → ((gI S3 13 4) < (gI S3 13 2)) → (¬ (f_X4_isLetter S3 13 (gI S3 13 4)) = 0) → ∀ S12 : HSt, (sI S3 13 3 (1 : Int32)) = S12 → T_X4_next_103 1000 S12 )
set_option maxRecDepth 100000 in
theorem t_X4_next (G : GG) (l : Launch) {S : HSt} (hM : CS S)   (hp : p_X4_next S 13) : AM G l yX4_next cX4_next 1 none (rmD 2 0 0) 0 0 [.ref 13] S (FP none (f_X4_next S 13)) := by
  obtain ⟨h0, h1, h2, h3, h4, h5⟩ := hp
  refine AM.mk (by decide) (Nat.le_of_ble_eq_true rfl) ?_
  intro p e s m below meth c hC hSt _
  refine aw_aload_n hC 0 dX4_next_0 rfl rfl ?_
  refine aw_aload_n hC 0 dX4_next_1 rfl rfl ?_
  refine aw_getI hC hSt 5 (cs_lt 13 4 0 (by decide) hM) (cs_k 13 4 0 (by decide) hM) rfl (by decide) w_345 rfl dX4_next_2 ?_
  refine aw_putI hC hSt 4 (cs_lt 13 4 0 (by decide) hM) (cs_k 13 4 0 (by decide) hM) rfl (by decide) w_346 rfl rfl rfl rfl dX4_next_5 ?_
  generalize eS1 : (sI S 13 4 (gI S 13 5)) = S1
  have hM : CS S1 := CS.of (by rw [← eS1]; exact shp_sI _ _ _ _) hM
  refine aw_sub [0] rfl ?_
  refine l_X4_next_8 hC hSt 1000 _ hM (h0 S1 eS1) ?_
  generalize er2 : L_X4_next_8 1000 S1  = r2
  have hM : CS r2 := CS.of (by rw [← er2]; exact qL_X4_next_8 _ _) hM
  refine aw_aload_n hC 0 dX4_next_60 rfl rfl ?_
  refine aw_aload_n hC 0 dX4_next_61 rfl rfl ?_
  refine aw_getI hC hSt 4 (cs_lt 13 4 0 (by decide) hM) (cs_k 13 4 0 (by decide) hM) rfl (by decide) w_346 rfl dX4_next_62 ?_
  refine aw_putI hC hSt 5 (cs_lt 13 4 0 (by decide) hM) (cs_k 13 4 0 (by decide) hM) rfl (by decide) w_345 rfl rfl rfl rfl dX4_next_65 ?_
  generalize eS3 : (sI r2 13 5 (gI r2 13 4)) = S3
  have hM : CS S3 := CS.of (by rw [← eS3]; exact shp_sI _ _ _ _) hM
  refine aw_aload_n hC 0 dX4_next_68 rfl rfl ?_
  refine aw_getI hC hSt 4 (cs_lt 13 4 0 (by decide) hM) (cs_k 13 4 0 (by decide) hM) rfl (by decide) w_346 rfl dX4_next_69 ?_
  refine aw_aload_n hC 0 dX4_next_72 rfl rfl ?_
  refine aw_getI hC hSt 2 (cs_lt 13 4 0 (by decide) hM) (cs_k 13 4 0 (by decide) hM) rfl (by decide) w_328 rfl dX4_next_73 ?_
  refine aw_cut (S' := (if (gI S3 13 4) < (gI S3 13 2) then (if (f_X4_isLetter S3 13 (gI S3 13 4)) = 0 then (if (f_X4_isFigure S3 13 (gI S3 13 4)) = 0 then (bd ((if (gI S3 14 (gI S3 13 4).toNatClampNeg) = (59 : Int32) then (3 : Int32) else (4 : Int32))) fun x8 => bd ((sI S3 13 3 x8)) fun S9 => bd ((sI S9 13 5 ((gI S9 13 5) + (1 : Int32)))) fun S10 => S10) else (bd (f_X4_takeNumber S3 13) fun r11 => r11)) else (bd ((sI S3 13 3 (1 : Int32))) fun S12 => bd (L_X4_next_103 1000 S12 ) fun r13 => r13)) else (bd ((sI S3 13 3 (0 : Int32))) fun S14 => S14))) (pc' := 189) (lv' := [(0, .ref 13)]) (st' := []) ?_ (fun Jc4 => ?_)
  · generalize eS15 : (if (gI S3 13 4) < (gI S3 13 2) then (if (f_X4_isLetter S3 13 (gI S3 13 4)) = 0 then (if (f_X4_isFigure S3 13 (gI S3 13 4)) = 0 then (bd ((if (gI S3 14 (gI S3 13 4).toNatClampNeg) = (59 : Int32) then (3 : Int32) else (4 : Int32))) fun x8 => bd ((sI S3 13 3 x8)) fun S9 => bd ((sI S9 13 5 ((gI S9 13 5) + (1 : Int32)))) fun S10 => S10) else (bd (f_X4_takeNumber S3 13) fun r11 => r11)) else (bd ((sI S3 13 3 (1 : Int32))) fun S12 => bd (L_X4_next_103 1000 S12 ) fun r13 => r13)) else (bd ((sI S3 13 3 (0 : Int32))) fun S14 => S14)) = S15
    have hM : CS S15 := CS.of (by rw [← eS15]; repeat' (first | with_reducible rfl | with_reducible refine (qL_X4_next_103 _ _).trans ?_ | with_reducible refine (qL_X4_next_8 _ _).trans ?_ | with_reducible refine (q_X4_takeNumber _ _).trans ?_ | with_reducible refine (shp_sI _ _ _ _).trans ?_ | with_reducible refine (shp_sJ _ _ _ _).trans ?_ | with_reducible refine (shp_rI _ _ _).trans ?_ | with_reducible refine shi ?_ ?_ | with_reducible refine shb (fun _ _ => ?_) | (subst_vars; with_reducible rfl) | (subst_vars; with_reducible refine (qL_X4_next_103 _ _).trans ?_) | (subst_vars; with_reducible refine (qL_X4_next_8 _ _).trans ?_) | (subst_vars; with_reducible refine (q_X4_takeNumber _ _).trans ?_) | (subst_vars; with_reducible refine (shp_sI _ _ _ _).trans ?_) | (subst_vars; with_reducible refine (shp_sJ _ _ _ _).trans ?_) | (subst_vars; with_reducible refine (shp_rI _ _ _).trans ?_) | (subst_vars; with_reducible refine shi ?_ ?_) | (subst_vars; with_reducible refine shb (fun _ _ => ?_)))) hM
    refine aw_vret hC dX4_next_189 (Nat.le_refl _) (Nat.le_refl _) ?_
    exact FP.qV ((bd_eq eS1).trans ((bd_eq er2).trans ((bd_eq eS3).trans ((bd_eq eS15).trans (rfl)))))
  · refine aw_icmp_lt hC 87 dX4_next_76 (by decide) (fun c4 => ?_) (fun c4 => ?_)
    · refine aw_aload_n hC 0 dX4_next_87 rfl rfl ?_
      refine aw_aload_n hC 0 dX4_next_88 rfl rfl ?_
      refine aw_getI hC hSt 4 (cs_lt 13 4 0 (by decide) hM) (cs_k 13 4 0 (by decide) hM) rfl (by decide) w_346 rfl dX4_next_89 ?_
      refine aw_cV1r hC hSt (t_X4_isLetter G l hM _ (h1 S1 eS1 r2 er2 S3 eS3 c4)) w_341 w_353 w_354 w_355 w_351 rfl rfl (by decide +kernel) ⟨Nat.le_of_ble_eq_true rfl, Nat.le_of_ble_eq_true rfl⟩ (cs_lt 13 4 0 (by decide) hM) (cs_k 13 4 0 (by decide) hM) rfl (Nat.le_of_ble_eq_true rfl) dX4_next_92 ⟨Nat.zero_le _, Nat.zero_le _⟩ ?_
      refine aw_if_eq hC 138 dX4_next_95 (by decide) (fun c5 => ?_) (fun c5 => ?_)
      · refine aw_aload_n hC 0 dX4_next_138 rfl rfl ?_
        refine aw_aload_n hC 0 dX4_next_139 rfl rfl ?_
        refine aw_getI hC hSt 4 (cs_lt 13 4 0 (by decide) hM) (cs_k 13 4 0 (by decide) hM) rfl (by decide) w_346 rfl dX4_next_140 ?_
        refine aw_cV1r hC hSt (t_X4_isFigure G l hM _ (h2 S1 eS1 r2 er2 S3 eS3 c4 c5)) w_342 w_348 w_349 w_350 w_351 rfl rfl (by decide +kernel) ⟨Nat.le_of_ble_eq_true rfl, Nat.le_of_ble_eq_true rfl⟩ (cs_lt 13 4 0 (by decide) hM) (cs_k 13 4 0 (by decide) hM) rfl (Nat.le_of_ble_eq_true rfl) dX4_next_143 ⟨Nat.zero_le _, Nat.zero_le _⟩ ?_
        refine aw_if_eq hC 156 dX4_next_146 (by decide) (fun c6 => ?_) (fun c6 => ?_)
        · refine aw_aload_n hC 0 dX4_next_156 rfl rfl ?_
          refine aw_aload_n hC 0 dX4_next_157 rfl rfl ?_
          refine aw_getP (b := 14) hC hSt 0 (cs_lt 13 4 0 (by decide) hM) (cs_k 13 4 0 (by decide) hM) rfl (by decide) w_322 rfl (cs_p 13 0 14 (by decide) hM) dX4_next_158 ?_
          refine aw_aload_n hC 0 dX4_next_161 rfl rfl ?_
          refine aw_getI hC hSt 4 (cs_lt 13 4 0 (by decide) hM) (cs_k 13 4 0 (by decide) hM) rfl (by decide) w_346 rfl dX4_next_162 ?_
          refine aw_bald hC hSt (cs_lt 14 13 600 (by decide) hM) (cs_k 14 13 600 (by decide) hM) (vp_len (n := 600) (cs_l 14 13 600 (by decide) hM) (h3 S1 eS1 r2 er2 S3 eS3 c4 c5 c6)) dX4_next_165 ?_
          refine aw_bipush (v := 59) hC dX4_next_166 (by decide) ?_
          refine aw_cut (S' := S3) (pc' := 176) (lv' := [(0, .ref 13)]) (st' := [.int (if (gI S3 14 (gI S3 13 4).toNatClampNeg) = (59 : Int32) then (3 : Int32) else (4 : Int32)), .ref 13]) ?_ (fun Jc7 => ?_)
          · generalize ex8 : (if (gI S3 14 (gI S3 13 4).toNatClampNeg) = (59 : Int32) then (3 : Int32) else (4 : Int32)) = x8
            refine aw_putI hC hSt 3 (cs_lt 13 4 0 (by decide) hM) (cs_k 13 4 0 (by decide) hM) rfl (by decide) w_347 rfl rfl rfl rfl dX4_next_176 ?_
            generalize eS9 : (sI S3 13 3 x8) = S9
            have hM : CS S9 := CS.of (by rw [← eS9]; exact shp_sI _ _ _ _) hM
            refine aw_aload_n hC 0 dX4_next_179 rfl rfl ?_
            refine aw_dup hC dX4_next_180 rfl ?_
            refine aw_getI hC hSt 5 (cs_lt 13 4 0 (by decide) hM) (cs_k 13 4 0 (by decide) hM) rfl (by decide) w_345 rfl dX4_next_181 ?_
            refine aw_iconst (v := 1) hC dX4_next_184 (by decide) ?_
            refine aw_iadd hC dX4_next_185 ?_
            refine aw_putI hC hSt 5 (cs_lt 13 4 0 (by decide) hM) (cs_k 13 4 0 (by decide) hM) rfl (by decide) w_345 rfl rfl rfl rfl dX4_next_186 ?_
            generalize eS10 : (sI S9 13 5 ((gI S9 13 5) + (1 : Int32))) = S10
            have hM : CS S10 := CS.of (by rw [← eS10]; exact shp_sI _ _ _ _) hM
            subst eS10
            subst eS9
            subst ex8
            simp only [bd_def, if_pos c4, if_pos c5, if_pos c6] at Jc4 ⊢
            exact Jc4
          · refine aw_icmp_ne hC 175 dX4_next_168 (by decide) (fun c7 => ?_) (fun c7 => ?_)
            · refine aw_iconst (v := 4) hC dX4_next_175 (by decide) ?_
              simp only [bd_def, if_neg c7] at Jc7 ⊢
              exact Jc7
            · refine aw_iconst (v := 3) hC dX4_next_171 (by decide) ?_
              refine aw_goto hC 176 dX4_next_172 (by decide) ?_
              simp only [bd_def, if_pos c7] at Jc7 ⊢
              exact Jc7
        · refine aw_aload_n hC 0 dX4_next_149 rfl rfl ?_
          refine aw_cV0v hC hSt (t_X4_takeNumber G l hM  (h4 S1 eS1 r2 er2 S3 eS3 c4 c5 c6)) w_343 w_356 w_357 w_358 w_351 rfl rfl (by decide +kernel) ⟨Nat.le_of_ble_eq_true rfl, Nat.le_of_ble_eq_true rfl⟩ (cs_lt 13 4 0 (by decide) hM) (cs_k 13 4 0 (by decide) hM) rfl (Nat.le_of_ble_eq_true rfl) dX4_next_150 ⟨Nat.zero_le _, Nat.zero_le _⟩ ?_
          generalize er11 : f_X4_takeNumber S3 13 = r11
          have hM : CS r11 := CS.of (by rw [← er11]; exact q_X4_takeNumber _ _) hM
          refine aw_goto hC 189 dX4_next_153 (by decide) ?_
          subst er11
          simp only [bd_def, if_pos c4, if_pos c5, if_neg c6] at Jc4 ⊢
          exact Jc4
      · refine aw_aload_n hC 0 dX4_next_98 rfl rfl ?_
        refine aw_iconst (v := 1) hC dX4_next_99 (by decide) ?_
        refine aw_putI hC hSt 3 (cs_lt 13 4 0 (by decide) hM) (cs_k 13 4 0 (by decide) hM) rfl (by decide) w_347 rfl rfl rfl rfl dX4_next_100 ?_
        generalize eS12 : (sI S3 13 3 (1 : Int32)) = S12
        have hM : CS S12 := CS.of (by rw [← eS12]; exact shp_sI _ _ _ _) hM
        refine aw_sub [0] rfl ?_
        refine l_X4_next_103 hC hSt 1000 _ hM (h5 S1 eS1 r2 er2 S3 eS3 c4 c5 S12 eS12) ?_
        generalize er13 : L_X4_next_103 1000 S12  = r13
        have hM : CS r13 := CS.of (by rw [← er13]; exact qL_X4_next_103 _ _) hM
        subst er13
        subst eS12
        simp only [bd_def, if_pos c4, if_neg c5] at Jc4 ⊢
        exact Jc4
    · refine aw_aload_n hC 0 dX4_next_79 rfl rfl ?_
      refine aw_iconst (v := 0) hC dX4_next_80 (by decide) ?_
      refine aw_putI hC hSt 3 (cs_lt 13 4 0 (by decide) hM) (cs_k 13 4 0 (by decide) hM) rfl (by decide) w_347 rfl rfl rfl rfl dX4_next_81 ?_
      generalize eS14 : (sI S3 13 3 (0 : Int32)) = S14
      have hM : CS S14 := CS.of (by rw [← eS14]; exact shp_sI _ _ _ _) hM
      refine aw_goto hC 189 dX4_next_84 (by decide) ?_
      subst eS14
      simp only [bd_def, if_neg c4] at Jc4 ⊢
      exact Jc4
theorem q_X4_next (S : HSt) (_o0 : Nat) : shp (f_X4_next S _o0) = shp S := by
  unfold f_X4_next
  repeat' (first | with_reducible rfl | with_reducible refine (q_X4_takeNumber _ _).trans ?_ | with_reducible refine (qL_X4_next_8 _ _).trans ?_ | with_reducible refine (qL_X4_next_103 _ _).trans ?_ | with_reducible refine (shp_sI _ _ _ _).trans ?_ | with_reducible refine (shp_sJ _ _ _ _).trans ?_ | with_reducible refine (shp_rI _ _ _).trans ?_ | with_reducible refine shi ?_ ?_ | with_reducible refine shb (fun _ _ => ?_) | (subst_vars; with_reducible rfl) | (subst_vars; with_reducible refine (q_X4_takeNumber _ _).trans ?_) | (subst_vars; with_reducible refine (qL_X4_next_8 _ _).trans ?_) | (subst_vars; with_reducible refine (qL_X4_next_103 _ _).trans ?_) | (subst_vars; with_reducible refine (shp_sI _ _ _ _).trans ?_) | (subst_vars; with_reducible refine (shp_sJ _ _ _ _).trans ?_) | (subst_vars; with_reducible refine (shp_rI _ _ _).trans ?_) | (subst_vars; with_reducible refine shi ?_ ?_) | (subst_vars; with_reducible refine shb (fun _ _ => ?_)))
theorem v_X4_next (S : HSt) (_o0 : Nat) : Fr [(13, 3), (13, 4), (13, 5), (13, 6)] S (f_X4_next S _o0) := by
  unfold f_X4_next
  repeat' (first | with_reducible exact Fr.refl _ _ | with_reducible refine Fr.l1 (fun _ _ => ?_) | with_reducible refine Fr.ite ?_ ?_ | with_reducible refine Fr.sE (by assumption) (by first | decide | simp only [List.mem_cons, List.not_mem_nil, or_false, true_or, or_true, eq_self_iff_true]) ?_ | with_reducible refine Fr.jE (by assumption) ?_ | with_reducible refine Fr.rE (by assumption) (by first | decide | simp only [List.mem_cons, List.not_mem_nil, or_false, true_or, or_true, eq_self_iff_true]) ?_ | with_reducible refine Fr.iE (by assumption) ?_ ?_ | with_reducible refine Fr.tr (w_X4_takeNumber _ _ _ (by assumption)) (by first | decide | simp only [List.mem_cons, List.not_mem_nil, or_false, forall_eq_or_imp, forall_eq, true_or, or_true, and_self, eq_self_iff_true]) ?_ | with_reducible refine Fr.tr (wL_X4_next_8 _ _ _ (by assumption)) (by first | decide | simp only [List.mem_cons, List.not_mem_nil, or_false, forall_eq_or_imp, forall_eq, true_or, or_true, and_self, eq_self_iff_true]) ?_ | with_reducible refine Fr.tr (wL_X4_next_103 _ _ _ (by assumption)) (by first | decide | simp only [List.mem_cons, List.not_mem_nil, or_false, forall_eq_or_imp, forall_eq, true_or, or_true, and_self, eq_self_iff_true]) ?_)
theorem w_X4_next (S : HSt) (_o0 : Nat) (r : HSt) (e : f_X4_next S _o0 = r) : Fr [(13, 3), (13, 4), (13, 5), (13, 6)] S r := by
  rw [← e]
  exact v_X4_next S _o0