noncomputable def L_J7_fill_53178_5 (r1q : Nat) : Nat → HSt → Int32 → Int32 → Int32 → Int32 × Int32 × Int32 × HSt
  | 0, S, v1, v2, v3 => (v1, v2, v3, S)
  | n + 1, S, v1, v2, v3 =>
    if v3 ≤ v2 then ((pr (v1) (pr (v2) (pr (v3) (S))))) else (bd ((sI S r1q v2.toNatClampNeg v1)) fun S1003 => L_J7_fill_53178_5 r1q n S1003 v1 (v2 + (1 : Int32)) v3)
def T_J7_fill_53178_5 (r1q : Nat) : Nat → HSt → Int32 → Int32 → Int32 → Prop
  | 0, _, _, _, _ => False
  | n + 1, S, v1, v2, v3 => ((¬ v3 ≤ v2) → vp_in v2 (gL S r1q)) ∧ ((¬ v3 ≤ v2) → ∀ S1003 : HSt, (sI S r1q v2.toNatClampNeg v1) = S1003 → T_J7_fill_53178_5 r1q n S1003 v1 (v2 + (1 : Int32)) v3)
theorem qL_J7_fill_53178_5 (r1q : Nat) : ∀ (n : Nat) (S : HSt) (v1 : Int32) (v2 : Int32) (v3 : Int32), shp (L_J7_fill_53178_5 r1q n S v1 v2 v3).2.2.2 = shp S := by
  intro n
  induction n with
  | zero => intros; rfl
  | succ n ih =>
    intro S v1 v2 v3
    unfold L_J7_fill_53178_5
    repeat' (first | with_reducible refine shpr3 ?_ | with_reducible rfl | with_reducible refine (ih _ _ _ _).trans ?_ | with_reducible refine (shp_sI _ _ _ _).trans ?_ | with_reducible refine (shp_sJ _ _ _ _).trans ?_ | with_reducible refine (shp_rI _ _ _).trans ?_ | with_reducible refine shi ?_ ?_ | with_reducible refine shb (fun _ _ => ?_) | with_reducible refine shiP (fun q : Int32 × Int32 × Int32 × HSt => q.2.2.2) ?_ ?_ | with_reducible refine shbP (fun q : Int32 × Int32 × Int32 × HSt => q.2.2.2) (fun _ _ => ?_) | (subst_vars; with_reducible rfl) | (subst_vars; with_reducible refine (ih _ _ _ _).trans ?_) | (subst_vars; with_reducible refine (shp_sI _ _ _ _).trans ?_) | (subst_vars; with_reducible refine (shp_sJ _ _ _ _).trans ?_) | (subst_vars; with_reducible refine (shp_rI _ _ _).trans ?_) | (subst_vars; with_reducible refine shi ?_ ?_) | (subst_vars; with_reducible refine shb (fun _ _ => ?_)))
theorem vL_J7_fill_53178_5 (r1q : Nat) : ∀ (n : Nat) (S : HSt) (v1 : Int32) (v2 : Int32) (v3 : Int32), Fr [(r1q, 1000)] S (L_J7_fill_53178_5 r1q n S v1 v2 v3).2.2.2 := by
  intro n
  induction n with
  | zero => intros; exact Fr.refl _ _
  | succ n ih =>
    intro S v1 v2 v3
    unfold L_J7_fill_53178_5
    repeat' (first | with_reducible refine frpr3 ?_ | with_reducible exact Fr.refl _ _ | with_reducible refine Fr.lP (fun q : Int32 × Int32 × Int32 × HSt => q.2.2.2) (fun _ _ => ?_) | with_reducible refine Fr.iteP (fun q : Int32 × Int32 × Int32 × HSt => q.2.2.2) ?_ ?_ | with_reducible refine Fr.l1 (fun _ _ => ?_) | with_reducible refine Fr.ite ?_ ?_ | with_reducible refine Fr.sE (by assumption) (by first | decide | simp only [List.mem_cons, List.not_mem_nil, or_false, true_or, or_true, eq_self_iff_true]) ?_ | with_reducible refine Fr.jE (by assumption) ?_ | with_reducible refine Fr.rE (by assumption) (by first | decide | simp only [List.mem_cons, List.not_mem_nil, or_false, true_or, or_true, eq_self_iff_true]) ?_ | with_reducible refine Fr.iE (by assumption) ?_ ?_ | with_reducible refine Fr.tr (ih _ _ _ _) (by first | decide | simp only [List.mem_cons, List.not_mem_nil, or_false, forall_eq_or_imp, forall_eq, true_or, or_true, and_self, eq_self_iff_true]) ?_)
theorem wL_J7_fill_53178_5 (r1q : Nat) (n : Nat) (S : HSt) (v1 : Int32) (v2 : Int32) (v3 : Int32) (r : Int32 × Int32 × Int32 × HSt) (e : L_J7_fill_53178_5 r1q n S v1 v2 v3 = r) : Fr [(r1q, 1000)] S r.2.2.2 := by
  rw [← e]
  exact vL_J7_fill_53178_5 r1q n S v1 v2 v3
set_option maxRecDepth 100000 in
theorem l_J7_fill_53178_5 {p : Program} {l : Launch} {e : Env} {s : State} {m : MethodId} {args : Array Value} {below : List Frame} {meth : Method} {c : Code} {G : GG} {Q : State → Prop} (hC : ACx p s m args meth c cJ7_fill_53178 RJ7 4 none) (hSt : St G s) {r1q : Nat} (hr1q : ∃ z, (r1q, 14, z) ∈ cKT) : ∀ (n : Nat) (S : HSt) (v1 : Int32) (v2 : Int32) (v3 : Int32), CS S → T_J7_fill_53178_5 r1q n S v1 v2 v3 → AW p l e (rmD 0 0 0) s m args below meth c G 4 Q (L_J7_fill_53178_5 r1q n S v1 v2 v3).2.2.2 0 0 20 [(0, .ref r1q), (1, .int (L_J7_fill_53178_5 r1q n S v1 v2 v3).1), (2, .int (L_J7_fill_53178_5 r1q n S v1 v2 v3).2.1), (3, .int (L_J7_fill_53178_5 r1q n S v1 v2 v3).2.2.1)] [] → AW p l e (rmD 0 0 0) s m args below meth c G 4 Q S 0 0 5 [(0, .ref r1q), (1, .int v1), (2, .int v2), (3, .int v3)] [] := by
  intro n
  induction n with
  | zero => intro S v1 v2 v3 _ hT; exact hT.elim
  | succ n ih =>
    intro S v1 v2 v3 hM hT hk
    unfold T_J7_fill_53178_5 at hT
    obtain ⟨h0, h1⟩ := hT
    refine aw_iload_n hC 2 dJ7_fill_53178_5 rfl rfl ?_
    refine aw_iload_n hC 3 dJ7_fill_53178_6 rfl rfl ?_
    refine aw_icmp_ge hC 20 dJ7_fill_53178_7 (by decide) (fun c1002 => ?_) (fun c1002 => ?_)
    · refine aw_sub [0, 1, 2, 3] rfl ?_
      have E : L_J7_fill_53178_5 r1q (n + 1) S v1 v2 v3 = _ := (if_pos c1002).trans (rfl)
      rw [E] at hk
      exact hk
    · refine aw_aload_n hC 0 dJ7_fill_53178_10 rfl rfl ?_
      refine aw_iload_n hC 2 dJ7_fill_53178_11 rfl rfl ?_
      refine aw_iload_n hC 1 dJ7_fill_53178_12 rfl rfl ?_
      refine aw_iast hC hSt (cs_ltE r1q 14 hr1q hM) (cs_kE r1q 14 hr1q hM) (vp_len (n := (gL S r1q)) rfl (h0 c1002)) dJ7_fill_53178_13 ?_
      generalize eS1003 : (sI S r1q v2.toNatClampNeg v1) = S1003
      have hM : CS S1003 := CS.of (by rw [← eS1003]; exact shp_sI _ _ _ _) hM
      refine aw_iinc (v := (v2 + (1 : Int32))) hC 2 [(2, .int _), (0, .ref r1q), (1, .int _), (3, .int _)] dJ7_fill_53178_14 rfl rfl (by decide) rfl ?_
      refine aw_goto hC 5 dJ7_fill_53178_17 (by decide) ?_
      refine aw_sub [1, 2, 0, 3] rfl ?_
      have hTn := (h1 c1002 S1003 eS1003)
      have hMn : CS S1003 := hM
      have E : L_J7_fill_53178_5 r1q (n + 1) S v1 v2 v3 = _ := (if_neg c1002).trans ((bd_eq eS1003).trans (rfl))
      rw [E] at hk
      exact ih _ _ _ _ hMn hTn hk
noncomputable def f_J7_fill_53178 (S : HSt) (r1q : Nat) (a2 : Int32) : HSt := bd ((nI (gL S r1q))) fun x1 => bd (L_J7_fill_53178_5 r1q 1000 S a2 (0 : Int32) x1) fun r2 => r2.2.2.2
def p_J7_fill_53178 (S : HSt) (r1q : Nat) (a2 : Int32) : Prop := (∀ x1 : Int32, (nI (gL S r1q)) = x1 → T_J7_fill_53178_5 r1q 1000 S a2 (0 : Int32) x1)
set_option maxRecDepth 100000 in
theorem t_J7_fill_53178 (G : GG) (l : Launch) {S : HSt} (hM : CS S) (r1q : Nat) (a2 : Int32) (hr1q : ∃ z, (r1q, 14, z) ∈ cKT) (hp : p_J7_fill_53178 S r1q a2) : AM G l yJ7_fill_53178 cJ7_fill_53178 4 none (rmD 0 0 0) 0 0 [.ref r1q, .int a2] S (FP none (f_J7_fill_53178 S r1q a2)) := by
  have h0 := hp
  unfold p_J7_fill_53178 at h0
  refine AM.mk (by decide) (Nat.le_of_ble_eq_true rfl) ?_
  intro p e s m below meth c hC hSt _
  refine aw_iconst (v := 0) hC dJ7_fill_53178_0 (by decide) ?_
  refine aw_istore_n hC [(2, .int _), (0, .ref r1q), (1, .int _)] dJ7_fill_53178_1 rfl (by decide) rfl ?_
  refine aw_aload_n hC 1 dJ7_fill_53178_2 rfl rfl ?_
  refine aw_alen hC hSt (cs_ltE r1q 14 hr1q hM) (cs_kE r1q 14 hr1q hM) (by decide) (by decide) dJ7_fill_53178_3 ?_
  refine aw_istore_n hC [(3, .int _), (2, .int _), (0, .ref r1q), (1, .int _)] dJ7_fill_53178_4 rfl (by decide) rfl ?_
  generalize ex1 : (nI (gL S r1q)) = x1
  refine aw_sub [2, 3, 1, 0] rfl ?_
  refine l_J7_fill_53178_5 hC hSt hr1q 1000 _ _ _ _ hM (h0 x1 ex1) ?_
  generalize er2 : L_J7_fill_53178_5 r1q 1000 S a2 (0 : Int32) x1 = r2
  have hM : CS r2.2.2.2 := CS.of (by rw [← er2]; exact qL_J7_fill_53178_5 r1q _ _ _ _ _) hM
  refine aw_vret hC dJ7_fill_53178_20 (Nat.le_refl _) (Nat.le_refl _) ?_
  exact FP.qV ((bd_eq ex1).trans ((bd_eq er2).trans (rfl)))
theorem q_J7_fill_53178 (S : HSt) (r1q : Nat) (a2 : Int32) : shp (f_J7_fill_53178 S r1q a2) = shp S := by
  unfold f_J7_fill_53178
  repeat' (first | with_reducible rfl | with_reducible refine (qL_J7_fill_53178_5 r1q _ _ _ _ _).trans ?_ | with_reducible refine (shp_sI _ _ _ _).trans ?_ | with_reducible refine (shp_sJ _ _ _ _).trans ?_ | with_reducible refine (shp_rI _ _ _).trans ?_ | with_reducible refine shi ?_ ?_ | with_reducible refine shb (fun _ _ => ?_) | (subst_vars; with_reducible rfl) | (subst_vars; with_reducible refine (qL_J7_fill_53178_5 r1q _ _ _ _ _).trans ?_) | (subst_vars; with_reducible refine (shp_sI _ _ _ _).trans ?_) | (subst_vars; with_reducible refine (shp_sJ _ _ _ _).trans ?_) | (subst_vars; with_reducible refine (shp_rI _ _ _).trans ?_) | (subst_vars; with_reducible refine shi ?_ ?_) | (subst_vars; with_reducible refine shb (fun _ _ => ?_)))
theorem v_J7_fill_53178 (S : HSt) (r1q : Nat) (a2 : Int32) : Fr [(r1q, 1000)] S (f_J7_fill_53178 S r1q a2) := by
  unfold f_J7_fill_53178
  repeat' (first | with_reducible exact Fr.refl _ _ | with_reducible refine Fr.l1 (fun _ _ => ?_) | with_reducible refine Fr.ite ?_ ?_ | with_reducible refine Fr.sE (by assumption) (by first | decide | simp only [List.mem_cons, List.not_mem_nil, or_false, true_or, or_true, eq_self_iff_true]) ?_ | with_reducible refine Fr.jE (by assumption) ?_ | with_reducible refine Fr.rE (by assumption) (by first | decide | simp only [List.mem_cons, List.not_mem_nil, or_false, true_or, or_true, eq_self_iff_true]) ?_ | with_reducible refine Fr.iE (by assumption) ?_ ?_ | with_reducible refine Fr.tr (wL_J7_fill_53178_5 r1q _ _ _ _ _ _ (by assumption)) (by first | decide | simp only [List.mem_cons, List.not_mem_nil, or_false, forall_eq_or_imp, forall_eq, true_or, or_true, and_self, eq_self_iff_true]) ?_)
theorem w_J7_fill_53178 (S : HSt) (r1q : Nat) (a2 : Int32) (r : HSt) (e : f_J7_fill_53178 S r1q a2 = r) : Fr [(r1q, 1000)] S r := by
  rw [← e]
  exact v_J7_fill_53178 S r1q a2
noncomputable def F_X10_howMany (S : HSt) (o : Nat) (a1 : Int32) : Int32 × HSt := bd ((if a1 < 0 then (0 : Int32) else (if (6 : Int32) ≤ a1 then (0 : Int32) else (gI S (o + 1) a1.toNatClampNeg)))) fun x3 => pr (x3) (S)
noncomputable def f_X10_howMany (S : HSt) (o : Nat) (a1 : Int32) : Int32 := (F_X10_howMany S o a1).1
def p_X10_howMany (S : HSt) (o : Nat) (a1 : Int32) : Prop := ((¬ a1 < 0) → (¬ (6 : Int32) ≤ a1) → vp_in a1 6)
set_option maxRecDepth 100000 in
theorem t_X10_howMany (G : GG) (l : Launch) {S : HSt} (hM : CS S) (o : Nat) (a1 : Int32) (ho : (o, 10, 0) ∈ cKT) (hp : p_X10_howMany S o a1) : AM G l yX10_howMany cX10_howMany 2 (some .int) (rmD 0 0 0) 0 0 [.ref o, .int a1] S (FP (some (.int (f_X10_howMany S o a1))) (S)) := by
  have h0 := hp
  unfold p_X10_howMany at h0
  refine AM.mk (by decide) (Nat.le_of_ble_eq_true rfl) ?_
  intro p e s m below meth c hC hSt _
  refine aw_iload_n hC 1 dX10_howMany_0 rfl rfl ?_
  refine aw_cut (S' := S) (pc' := 20) (lv' := [(0, .ref o), (1, .int a1)]) (st' := [.int (if a1 < 0 then (0 : Int32) else (if (6 : Int32) ≤ a1 then (0 : Int32) else (gI S (o + 1) a1.toNatClampNeg)))]) ?_ (fun Jc1 => ?_)
  · generalize ex3 : (if a1 < 0 then (0 : Int32) else (if (6 : Int32) ≤ a1 then (0 : Int32) else (gI S (o + 1) a1.toNatClampNeg))) = x3
    refine aw_iret hC dX10_howMany_20 (Nat.le_refl _) (Nat.le_refl _) ?_
    exact FP.pI ((bd_eq ex3).trans (rfl))
  · refine aw_if_lt hC 19 dX10_howMany_1 (by decide) (fun c1 => ?_) (fun c1 => ?_)
    · refine aw_iconst (v := 0) hC dX10_howMany_19 (by decide) ?_
      simp only [bd_def, if_pos c1] at Jc1 ⊢
      exact Jc1
    · refine aw_iload_n hC 1 dX10_howMany_4 rfl rfl ?_
      refine aw_bipush (v := 6) hC dX10_howMany_5 (by decide) ?_
      refine aw_icmp_ge hC 19 dX10_howMany_7 (by decide) (fun c2 => ?_) (fun c2 => ?_)
      · refine aw_iconst (v := 0) hC dX10_howMany_19 (by decide) ?_
        simp only [bd_def, if_neg c1, if_pos c2] at Jc1 ⊢
        exact Jc1
      · refine aw_aload_n hC 0 dX10_howMany_10 rfl rfl ?_
        refine aw_getP (b := (o + 1)) hC hSt 0 (cs_lt o 10 0 ho hM) (cs_k o 10 0 ho hM) rfl (by decide) w_153 rfl (cs_p o 0 (o + 1) (wy_pcounts ho) hM) dX10_howMany_11 ?_
        refine aw_iload_n hC 1 dX10_howMany_14 rfl rfl ?_
        refine aw_iald hC hSt (cs_lt (o + 1) 14 6 (wy_counts ho) hM) (cs_k (o + 1) 14 6 (wy_counts ho) hM) (vp_len (n := 6) (cs_l (o + 1) 14 6 (wy_counts ho) hM) (h0 c1 c2)) dX10_howMany_15 ?_
        refine aw_goto hC 20 dX10_howMany_16 (by decide) ?_
        simp only [bd_def, if_neg c1, if_neg c2] at Jc1 ⊢
        exact Jc1
noncomputable def F_X10_has (S : HSt) (o : Nat) (a1 : Int32) (a2 : Int32) : Int32 × HSt := bd ((if a2 < 0 then (0 : Int32) else (if (f_X10_howMany S o a1) ≤ a2 then (0 : Int32) else (1 : Int32)))) fun x3 => pr (x3) (S)
noncomputable def f_X10_has (S : HSt) (o : Nat) (a1 : Int32) (a2 : Int32) : Int32 := (F_X10_has S o a1 a2).1
def p_X10_has (S : HSt) (o : Nat) (a1 : Int32) (a2 : Int32) : Prop := ((¬ a2 < 0) → p_X10_howMany S o a1)
set_option maxRecDepth 100000 in
theorem t_X10_has (G : GG) (l : Launch) {S : HSt} (hM : CS S) (o : Nat) (a1 : Int32) (a2 : Int32) (ho : (o, 10, 0) ∈ cKT) (hp : p_X10_has S o a1 a2) : AM G l yX10_has cX10_has 3 (some .boolean) (rmD 1 0 0) 0 0 [.ref o, .int a1, .int a2] S (FP (some (.int (f_X10_has S o a1 a2))) (S)) := by
  have h0 := hp
  unfold p_X10_has at h0
  refine AM.mk (by decide) (Nat.le_of_ble_eq_true rfl) ?_
  intro p e s m below meth c hC hSt _
  refine aw_iload_n hC 2 dX10_has_0 rfl rfl ?_
  refine aw_cut (S' := S) (pc' := 18) (lv' := [(0, .ref o), (1, .int a1), (2, .int a2)]) (st' := [.int (if a2 < 0 then (0 : Int32) else (if (f_X10_howMany S o a1) ≤ a2 then (0 : Int32) else (1 : Int32)))]) ?_ (fun Jc1 => ?_)
  · generalize ex3 : (if a2 < 0 then (0 : Int32) else (if (f_X10_howMany S o a1) ≤ a2 then (0 : Int32) else (1 : Int32))) = x3
    refine aw_zret hC dX10_has_18 (Nat.le_refl _) (Nat.le_refl _) (Bz.n (ex3 ▸ (Bz.ite (Or.inl rfl) (Bz.ite (Or.inl rfl) (Or.inr rfl))))) ?_
    exact FP.pI ((bd_eq ex3).trans (rfl))
  · refine aw_if_lt hC 17 dX10_has_1 (by decide) (fun c1 => ?_) (fun c1 => ?_)
    · refine aw_iconst (v := 0) hC dX10_has_17 (by decide) ?_
      simp only [bd_def, if_pos c1] at Jc1 ⊢
      exact Jc1
    · refine aw_iload_n hC 2 dX10_has_4 rfl rfl ?_
      refine aw_aload_n hC 0 dX10_has_5 rfl rfl ?_
      refine aw_iload_n hC 1 dX10_has_6 rfl rfl ?_
      refine aw_cV1r hC hSt (t_X10_howMany G l hM _ _ ho (h0 c1)) w_152 w_666 w_237 w_238 w_18 rfl rfl (by decide +kernel) ⟨Nat.le_of_ble_eq_true rfl, Nat.le_of_ble_eq_true rfl⟩ (cs_lt o 10 0 ho hM) (cs_k o 10 0 ho hM) rfl (Nat.le_of_ble_eq_true rfl) dX10_has_7 ⟨Nat.zero_le _, Nat.zero_le _⟩ ?_
      refine aw_icmp_ge hC 17 dX10_has_10 (by decide) (fun c2 => ?_) (fun c2 => ?_)
      · refine aw_iconst (v := 0) hC dX10_has_17 (by decide) ?_
        simp only [bd_def, if_neg c1, if_pos c2] at Jc1 ⊢
        exact Jc1
      · refine aw_iconst (v := 1) hC dX10_has_13 (by decide) ?_
        refine aw_goto hC 18 dX10_has_14 (by decide) ?_
        simp only [bd_def, if_neg c1, if_neg c2] at Jc1 ⊢
        exact Jc1
theorem b_X10_has (S : HSt) (o : Nat) (a1 : Int32) (a2 : Int32) : Bz (f_X10_has S o a1 a2) := by
  unfold f_X10_has F_X10_has
  (try dsimp only [bd])
  (repeat' split) <;> first | exact Or.inl rfl | exact Or.inr rfl
noncomputable def F_X10_isFull (S : HSt) (o : Nat) (a1 : Int32) : Int32 × HSt := bd ((if a1 < 0 then (1 : Int32) else (if (6 : Int32) ≤ a1 then (1 : Int32) else (if (gI S (o + 1) a1.toNatClampNeg) < ((tbF 2).getD a1.toNatClampNeg 0) then (0 : Int32) else (1 : Int32))))) fun x4 => pr (x4) (S)
noncomputable def f_X10_isFull (S : HSt) (o : Nat) (a1 : Int32) : Int32 := (F_X10_isFull S o a1).1
def p_X10_isFull (S : HSt) (o : Nat) (a1 : Int32) : Prop := ((¬ a1 < 0) → (¬ (6 : Int32) ≤ a1) → vp_in a1 6) ∧ ((¬ a1 < 0) → (¬ (6 : Int32) ≤ a1) → vp_in a1 (tbF 2).length)
set_option maxRecDepth 100000 in
theorem t_X10_isFull (G : GG) (l : Launch) {S : HSt} (hM : CS S) (o : Nat) (a1 : Int32) (ho : (o, 10, 0) ∈ cKT) (hp : p_X10_isFull S o a1) : AM G l yX10_isFull cX10_isFull 2 (some .boolean) (rmD 0 0 0) 0 0 [.ref o, .int a1] S (FP (some (.int (f_X10_isFull S o a1))) (S)) := by
  obtain ⟨h0, h1⟩ := hp
  refine AM.mk (by decide) (Nat.le_of_ble_eq_true rfl) ?_
  intro p e s m below meth c hC hSt _
  refine aw_iload_n hC 1 dX10_isFull_0 rfl rfl ?_
  refine aw_cut (S' := S) (pc' := 29) (lv' := [(0, .ref o), (1, .int a1)]) (st' := [.int (if a1 < 0 then (1 : Int32) else (if (6 : Int32) ≤ a1 then (1 : Int32) else (if (gI S (o + 1) a1.toNatClampNeg) < ((tbF 2).getD a1.toNatClampNeg 0) then (0 : Int32) else (1 : Int32))))]) ?_ (fun Jc1 => ?_)
  · generalize ex4 : (if a1 < 0 then (1 : Int32) else (if (6 : Int32) ≤ a1 then (1 : Int32) else (if (gI S (o + 1) a1.toNatClampNeg) < ((tbF 2).getD a1.toNatClampNeg 0) then (0 : Int32) else (1 : Int32)))) = x4
    refine aw_zret hC dX10_isFull_29 (Nat.le_refl _) (Nat.le_refl _) (Bz.n (ex4 ▸ (Bz.ite (Or.inr rfl) (Bz.ite (Or.inr rfl) (Bz.ite (Or.inl rfl) (Or.inr rfl)))))) ?_
    exact FP.pI ((bd_eq ex4).trans (rfl))
  · refine aw_if_lt hC 24 dX10_isFull_1 (by decide) (fun c1 => ?_) (fun c1 => ?_)
    · refine aw_iconst (v := 1) hC dX10_isFull_24 (by decide) ?_
      refine aw_goto hC 29 dX10_isFull_25 (by decide) ?_
      simp only [bd_def, if_pos c1] at Jc1 ⊢
      exact Jc1
    · refine aw_iload_n hC 1 dX10_isFull_4 rfl rfl ?_
      refine aw_bipush (v := 6) hC dX10_isFull_5 (by decide) ?_
      refine aw_icmp_ge hC 24 dX10_isFull_7 (by decide) (fun c2 => ?_) (fun c2 => ?_)
      · refine aw_iconst (v := 1) hC dX10_isFull_24 (by decide) ?_
        refine aw_goto hC 29 dX10_isFull_25 (by decide) ?_
        simp only [bd_def, if_neg c1, if_pos c2] at Jc1 ⊢
        exact Jc1
      · refine aw_aload_n hC 0 dX10_isFull_10 rfl rfl ?_
        refine aw_getP (b := (o + 1)) hC hSt 0 (cs_lt o 10 0 ho hM) (cs_k o 10 0 ho hM) rfl (by decide) w_153 rfl (cs_p o 0 (o + 1) (wy_pcounts ho) hM) dX10_isFull_11 ?_
        refine aw_iload_n hC 1 dX10_isFull_14 rfl rfl ?_
        refine aw_iald hC hSt (cs_lt (o + 1) 14 6 (wy_counts ho) hM) (cs_k (o + 1) 14 6 (wy_counts ho) hM) (vp_len (n := 6) (cs_l (o + 1) 14 6 (wy_counts ho) hM) (h0 c1 c2)) dX10_isFull_15 ?_
        refine aw_gets hC hSt 2 (by decide) w_11 dX10_isFull_16 ?_
        refine aw_iload_n hC 1 dX10_isFull_19 rfl rfl ?_
        refine aw_tld hC hSt 2 (by decide) ((h1 c1 c2)) dX10_isFull_20 ?_
        refine aw_icmp_lt hC 28 dX10_isFull_21 (by decide) (fun c3 => ?_) (fun c3 => ?_)
        · refine aw_iconst (v := 0) hC dX10_isFull_28 (by decide) ?_
          simp only [bd_def, if_neg c1, if_neg c2, if_pos c3] at Jc1 ⊢
          exact Jc1
        · refine aw_iconst (v := 1) hC dX10_isFull_24 (by decide) ?_
          refine aw_goto hC 29 dX10_isFull_25 (by decide) ?_
          simp only [bd_def, if_neg c1, if_neg c2, if_neg c3] at Jc1 ⊢
          exact Jc1
theorem b_X10_isFull (S : HSt) (o : Nat) (a1 : Int32) : Bz (f_X10_isFull S o a1) := by
  unfold f_X10_isFull F_X10_isFull
  (try dsimp only [bd])
  (repeat' split) <;> first | exact Or.inl rfl | exact Or.inr rfl
noncomputable def f_X10_add (S : HSt) (o : Nat) (a1 : Int32) : HSt := bd ((if (f_X10_isFull S o a1) = 0 then (bd ((sI S (o + 1) a1.toNatClampNeg ((gI S (o + 1) a1.toNatClampNeg) + (1 : Int32)))) fun S2 => S2) else S)) fun S3 => S3
def p_X10_add (S : HSt) (o : Nat) (a1 : Int32) : Prop := (p_X10_isFull S o a1) ∧ (((f_X10_isFull S o a1) = 0) → vp_in a1 6) ∧ (((f_X10_isFull S o a1) = 0) → vp_in a1 6)
set_option maxRecDepth 100000 in
theorem t_X10_add (G : GG) (l : Launch) {S : HSt} (hM : CS S) (o : Nat) (a1 : Int32) (ho : (o, 10, 0) ∈ cKT) (hp : p_X10_add S o a1) : AM G l yX10_add cX10_add 2 none (rmD 1 0 0) 0 0 [.ref o, .int a1] S (FP none (f_X10_add S o a1)) := by
  obtain ⟨h0, h1, h2⟩ := hp
  refine AM.mk (by decide) (Nat.le_of_ble_eq_true rfl) ?_
  intro p e s m below meth c hC hSt _
  refine aw_aload_n hC 0 dX10_add_0 rfl rfl ?_
  refine aw_iload_n hC 1 dX10_add_1 rfl rfl ?_
  refine aw_cV1r hC hSt (t_X10_isFull G l hM _ _ ho (h0)) w_416 w_425 w_426 w_427 w_18 rfl rfl (by decide +kernel) ⟨Nat.le_of_ble_eq_true rfl, Nat.le_of_ble_eq_true rfl⟩ (cs_lt o 10 0 ho hM) (cs_k o 10 0 ho hM) rfl (Nat.le_of_ble_eq_true rfl) dX10_add_2 ⟨Nat.zero_le _, Nat.zero_le _⟩ ?_
  refine aw_cut (S' := (if (f_X10_isFull S o a1) = 0 then (bd ((sI S (o + 1) a1.toNatClampNeg ((gI S (o + 1) a1.toNatClampNeg) + (1 : Int32)))) fun S2 => S2) else S)) (pc' := 18) (lv' := [(0, .ref o), (1, .int a1)]) (st' := []) ?_ (fun Jc1 => ?_)
  · generalize eS3 : (if (f_X10_isFull S o a1) = 0 then (bd ((sI S (o + 1) a1.toNatClampNeg ((gI S (o + 1) a1.toNatClampNeg) + (1 : Int32)))) fun S2 => S2) else S) = S3
    have hM : CS S3 := CS.of (by rw [← eS3]; repeat' (first | with_reducible rfl | with_reducible refine (shp_sI _ _ _ _).trans ?_ | with_reducible refine (shp_sJ _ _ _ _).trans ?_ | with_reducible refine (shp_rI _ _ _).trans ?_ | with_reducible refine shi ?_ ?_ | with_reducible refine shb (fun _ _ => ?_) | (subst_vars; with_reducible rfl) | (subst_vars; with_reducible refine (shp_sI _ _ _ _).trans ?_) | (subst_vars; with_reducible refine (shp_sJ _ _ _ _).trans ?_) | (subst_vars; with_reducible refine (shp_rI _ _ _).trans ?_) | (subst_vars; with_reducible refine shi ?_ ?_) | (subst_vars; with_reducible refine shb (fun _ _ => ?_)))) hM
    refine aw_vret hC dX10_add_18 (Nat.le_refl _) (Nat.le_refl _) ?_
    exact FP.qV ((bd_eq eS3).trans (rfl))
  · refine aw_if_ne hC 18 dX10_add_5 (by decide) (fun c1 => ?_) (fun c1 => ?_)
    · simp only [bd_def, if_neg c1] at Jc1 ⊢
      exact Jc1
    · refine aw_aload_n hC 0 dX10_add_8 rfl rfl ?_
      refine aw_getP (b := (o + 1)) hC hSt 0 (cs_lt o 10 0 ho hM) (cs_k o 10 0 ho hM) rfl (by decide) w_153 rfl (cs_p o 0 (o + 1) (wy_pcounts ho) hM) dX10_add_9 ?_
      refine aw_iload_n hC 1 dX10_add_12 rfl rfl ?_
      refine aw_dup2_11 hC dX10_add_13 rfl rfl ?_
      refine aw_iald hC hSt (cs_lt (o + 1) 14 6 (wy_counts ho) hM) (cs_k (o + 1) 14 6 (wy_counts ho) hM) (vp_len (n := 6) (cs_l (o + 1) 14 6 (wy_counts ho) hM) (h1 c1)) dX10_add_14 ?_
      refine aw_iconst (v := 1) hC dX10_add_15 (by decide) ?_
      refine aw_iadd hC dX10_add_16 ?_
      refine aw_iast hC hSt (cs_lt (o + 1) 14 6 (wy_counts ho) hM) (cs_k (o + 1) 14 6 (wy_counts ho) hM) (vp_len (n := 6) (cs_l (o + 1) 14 6 (wy_counts ho) hM) (h2 c1)) dX10_add_17 ?_
      generalize eS2 : (sI S (o + 1) a1.toNatClampNeg ((gI S (o + 1) a1.toNatClampNeg) + (1 : Int32))) = S2
      have hM : CS S2 := CS.of (by rw [← eS2]; exact shp_sI _ _ _ _) hM
      subst eS2
      simp only [bd_def, if_pos c1] at Jc1 ⊢
      exact Jc1
theorem q_X10_add (S : HSt) (o : Nat) (a1 : Int32) : shp (f_X10_add S o a1) = shp S := by
  unfold f_X10_add
  repeat' (first | with_reducible rfl | with_reducible refine (shp_sI _ _ _ _).trans ?_ | with_reducible refine (shp_sJ _ _ _ _).trans ?_ | with_reducible refine (shp_rI _ _ _).trans ?_ | with_reducible refine shi ?_ ?_ | with_reducible refine shb (fun _ _ => ?_) | (subst_vars; with_reducible rfl) | (subst_vars; with_reducible refine (shp_sI _ _ _ _).trans ?_) | (subst_vars; with_reducible refine (shp_sJ _ _ _ _).trans ?_) | (subst_vars; with_reducible refine (shp_rI _ _ _).trans ?_) | (subst_vars; with_reducible refine shi ?_ ?_) | (subst_vars; with_reducible refine shb (fun _ _ => ?_)))
theorem v_X10_add (S : HSt) (o : Nat) (a1 : Int32) : Fr [((o + 1), 1000)] S (f_X10_add S o a1) := by
  unfold f_X10_add
  repeat' (first | with_reducible exact Fr.refl _ _ | with_reducible refine Fr.l1 (fun _ _ => ?_) | with_reducible refine Fr.ite ?_ ?_ | with_reducible refine Fr.sE (by assumption) (by first | decide | simp only [List.mem_cons, List.not_mem_nil, or_false, true_or, or_true, eq_self_iff_true]) ?_ | with_reducible refine Fr.jE (by assumption) ?_ | with_reducible refine Fr.rE (by assumption) (by first | decide | simp only [List.mem_cons, List.not_mem_nil, or_false, true_or, or_true, eq_self_iff_true]) ?_ | with_reducible refine Fr.iE (by assumption) ?_ ?_)
theorem w_X10_add (S : HSt) (o : Nat) (a1 : Int32) (r : HSt) (e : f_X10_add S o a1 = r) : Fr [((o + 1), 1000)] S r := by
  rw [← e]
  exact v_X10_add S o a1
noncomputable def F_X10_value (S : HSt) (o : Nat) (a1 : Int32) (a2 : Int32) (a3 : Int32) : Int32 × HSt := if a1 < 0 then (pr ((0 : Int32)) (S)) else (if (6 : Int32) ≤ a1 then (pr ((0 : Int32)) (S)) else (if a2 < 0 then (pr ((0 : Int32)) (S)) else (if ((tbF 2).getD a1.toNatClampNeg 0) ≤ a2 then (pr ((0 : Int32)) (S)) else (if a3 < 0 then (pr ((0 : Int32)) (S)) else (if a3 < (5 : Int32) then (pr ((gI S (o + 2) (((((tbF 1).getD a1.toNatClampNeg 0) + a2) * (5 : Int32)) + a3).toNatClampNeg)) (S)) else (pr ((0 : Int32)) (S)))))))
noncomputable def f_X10_value (S : HSt) (o : Nat) (a1 : Int32) (a2 : Int32) (a3 : Int32) : Int32 := (F_X10_value S o a1 a2 a3).1
def p_X10_value (S : HSt) (o : Nat) (a1 : Int32) (a2 : Int32) (a3 : Int32) : Prop := ((¬ a1 < 0) → (¬ (6 : Int32) ≤ a1) → (¬ a2 < 0) → vp_in a1 (tbF 2).length) ∧ ((¬ a1 < 0) → (¬ (6 : Int32) ≤ a1) → (¬ a2 < 0) → (¬ ((tbF 2).getD a1.toNatClampNeg 0) ≤ a2) → (¬ a3 < 0) → (a3 < (5 : Int32)) → vp_in a1 (tbF 1).length) ∧ ((¬ a1 < 0) → (¬ (6 : Int32) ≤ a1) → (¬ a2 < 0) → (¬ ((tbF 2).getD a1.toNatClampNeg 0) ≤ a2) → (¬ a3 < 0) → (a3 < (5 : Int32)) → vp_in (((((tbF 1).getD a1.toNatClampNeg 0) + a2) * (5 : Int32)) + a3) 185)
set_option maxRecDepth 100000 in
theorem t_X10_value (G : GG) (l : Launch) {S : HSt} (hM : CS S) (o : Nat) (a1 : Int32) (a2 : Int32) (a3 : Int32) (ho : (o, 10, 0) ∈ cKT) (hp : p_X10_value S o a1 a2 a3) : AM G l yX10_value cX10_value 4 (some .int) (rmD 0 0 0) 0 0 [.ref o, .int a1, .int a2, .int a3] S (FP (some (.int (f_X10_value S o a1 a2 a3))) (S)) := by
  obtain ⟨h0, h1, h2⟩ := hp
  refine AM.mk (by decide) (Nat.le_of_ble_eq_true rfl) ?_
  intro p e s m below meth c hC hSt _
  refine aw_iload_n hC 1 dX10_value_0 rfl rfl ?_
  refine aw_if_lt hC 32 dX10_value_1 (by decide) (fun c1 => ?_) (fun c1 => ?_)
  · refine aw_iconst (v := 0) hC dX10_value_32 (by decide) ?_
    refine aw_iret hC dX10_value_33 (Nat.le_refl _) (Nat.le_refl _) ?_
    exact FP.pI ((if_pos c1).trans (rfl))
  · refine aw_iload_n hC 1 dX10_value_4 rfl rfl ?_
    refine aw_bipush (v := 6) hC dX10_value_5 (by decide) ?_
    refine aw_icmp_ge hC 32 dX10_value_7 (by decide) (fun c2 => ?_) (fun c2 => ?_)
    · refine aw_iconst (v := 0) hC dX10_value_32 (by decide) ?_
      refine aw_iret hC dX10_value_33 (Nat.le_refl _) (Nat.le_refl _) ?_
      exact FP.pI ((if_neg c1).trans ((if_pos c2).trans (rfl)))
    · refine aw_iload_n hC 2 dX10_value_10 rfl rfl ?_
      refine aw_if_lt hC 32 dX10_value_11 (by decide) (fun c3 => ?_) (fun c3 => ?_)
      · refine aw_iconst (v := 0) hC dX10_value_32 (by decide) ?_
        refine aw_iret hC dX10_value_33 (Nat.le_refl _) (Nat.le_refl _) ?_
        exact FP.pI ((if_neg c1).trans ((if_neg c2).trans ((if_pos c3).trans (rfl))))
      · refine aw_iload_n hC 2 dX10_value_14 rfl rfl ?_
        refine aw_gets hC hSt 2 (by decide) w_11 dX10_value_15 ?_
        refine aw_iload_n hC 1 dX10_value_18 rfl rfl ?_
        refine aw_tld hC hSt 2 (by decide) ((h0 c1 c2 c3)) dX10_value_19 ?_
        refine aw_icmp_ge hC 32 dX10_value_20 (by decide) (fun c4 => ?_) (fun c4 => ?_)
        · refine aw_iconst (v := 0) hC dX10_value_32 (by decide) ?_
          refine aw_iret hC dX10_value_33 (Nat.le_refl _) (Nat.le_refl _) ?_
          exact FP.pI ((if_neg c1).trans ((if_neg c2).trans ((if_neg c3).trans ((if_pos c4).trans (rfl)))))
        · refine aw_iload_n hC 3 dX10_value_23 rfl rfl ?_
          refine aw_if_lt hC 32 dX10_value_24 (by decide) (fun c5 => ?_) (fun c5 => ?_)
          · refine aw_iconst (v := 0) hC dX10_value_32 (by decide) ?_
            refine aw_iret hC dX10_value_33 (Nat.le_refl _) (Nat.le_refl _) ?_
            exact FP.pI ((if_neg c1).trans ((if_neg c2).trans ((if_neg c3).trans ((if_neg c4).trans ((if_pos c5).trans (rfl))))))
          · refine aw_iload_n hC 3 dX10_value_27 rfl rfl ?_
            refine aw_iconst (v := 5) hC dX10_value_28 (by decide) ?_
            refine aw_icmp_lt hC 34 dX10_value_29 (by decide) (fun c6 => ?_) (fun c6 => ?_)
            · refine aw_aload_n hC 0 dX10_value_34 rfl rfl ?_
              refine aw_getP (b := (o + 2)) hC hSt 1 (cs_lt o 10 0 ho hM) (cs_k o 10 0 ho hM) rfl (by decide) w_12 rfl (cs_p o 1 (o + 2) (wy_pvalues ho) hM) dX10_value_35 ?_
              refine aw_gets hC hSt 1 (by decide) w_13 dX10_value_38 ?_
              refine aw_iload_n hC 1 dX10_value_41 rfl rfl ?_
              refine aw_tld hC hSt 1 (by decide) ((h1 c1 c2 c3 c4 c5 c6)) dX10_value_42 ?_
              refine aw_iload_n hC 2 dX10_value_43 rfl rfl ?_
              refine aw_iadd hC dX10_value_44 ?_
              refine aw_iconst (v := 5) hC dX10_value_45 (by decide) ?_
              refine aw_imul hC dX10_value_46 ?_
              refine aw_iload_n hC 3 dX10_value_47 rfl rfl ?_
              refine aw_iadd hC dX10_value_48 ?_
              refine aw_iald hC hSt (cs_lt (o + 2) 14 185 (wy_values ho) hM) (cs_k (o + 2) 14 185 (wy_values ho) hM) (vp_len (n := 185) (cs_l (o + 2) 14 185 (wy_values ho) hM) (h2 c1 c2 c3 c4 c5 c6)) dX10_value_49 ?_
              refine aw_iret hC dX10_value_50 (Nat.le_refl _) (Nat.le_refl _) ?_
              exact FP.pI ((if_neg c1).trans ((if_neg c2).trans ((if_neg c3).trans ((if_neg c4).trans ((if_neg c5).trans ((if_pos c6).trans (rfl)))))))
            · refine aw_iconst (v := 0) hC dX10_value_32 (by decide) ?_
              refine aw_iret hC dX10_value_33 (Nat.le_refl _) (Nat.le_refl _) ?_
              exact FP.pI ((if_neg c1).trans ((if_neg c2).trans ((if_neg c3).trans ((if_neg c4).trans ((if_neg c5).trans ((if_neg c6).trans (rfl)))))))
noncomputable def f_X10_put (S : HSt) (o : Nat) (a1 : Int32) (a2 : Int32) (a3 : Int32) (a4 : Int32) : HSt := if a1 < 0 then (S) else (if (6 : Int32) ≤ a1 then (S) else (if a2 < 0 then (S) else (if ((tbF 2).getD a1.toNatClampNeg 0) ≤ a2 then (S) else (if a3 < 0 then (S) else (if a3 < (5 : Int32) then (bd ((sI S (o + 2) (((((tbF 1).getD a1.toNatClampNeg 0) + a2) * (5 : Int32)) + a3).toNatClampNeg a4)) fun S7 => S7) else (S))))))
def p_X10_put (S : HSt) (o : Nat) (a1 : Int32) (a2 : Int32) (a3 : Int32) (a4 : Int32) : Prop := ((¬ a1 < 0) → (¬ (6 : Int32) ≤ a1) → (¬ a2 < 0) → vp_in a1 (tbF 2).length) ∧ ((¬ a1 < 0) → (¬ (6 : Int32) ≤ a1) → (¬ a2 < 0) → (¬ ((tbF 2).getD a1.toNatClampNeg 0) ≤ a2) → (¬ a3 < 0) → (a3 < (5 : Int32)) → vp_in a1 (tbF 1).length) ∧ ((¬ a1 < 0) → (¬ (6 : Int32) ≤ a1) → (¬ a2 < 0) → (¬ ((tbF 2).getD a1.toNatClampNeg 0) ≤ a2) → (¬ a3 < 0) → (a3 < (5 : Int32)) → vp_in (((((tbF 1).getD a1.toNatClampNeg 0) + a2) * (5 : Int32)) + a3) 185)
set_option maxRecDepth 100000 in
theorem t_X10_put (G : GG) (l : Launch) {S : HSt} (hM : CS S) (o : Nat) (a1 : Int32) (a2 : Int32) (a3 : Int32) (a4 : Int32) (ho : (o, 10, 0) ∈ cKT) (hp : p_X10_put S o a1 a2 a3 a4) : AM G l yX10_put cX10_put 5 none (rmD 0 0 0) 0 0 [.ref o, .int a1, .int a2, .int a3, .int a4] S (FP none (f_X10_put S o a1 a2 a3 a4)) := by
  obtain ⟨h0, h1, h2⟩ := hp
  refine AM.mk (by decide) (Nat.le_of_ble_eq_true rfl) ?_
  intro p e s m below meth c hC hSt _
  refine aw_iload_n hC 1 dX10_put_0 rfl rfl ?_
  refine aw_if_lt hC 32 dX10_put_1 (by decide) (fun c1 => ?_) (fun c1 => ?_)
  · refine aw_vret hC dX10_put_32 (Nat.le_refl _) (Nat.le_refl _) ?_
    exact FP.qV ((if_pos c1).trans (rfl))
  · refine aw_iload_n hC 1 dX10_put_4 rfl rfl ?_
    refine aw_bipush (v := 6) hC dX10_put_5 (by decide) ?_
    refine aw_icmp_ge hC 32 dX10_put_7 (by decide) (fun c2 => ?_) (fun c2 => ?_)
    · refine aw_vret hC dX10_put_32 (Nat.le_refl _) (Nat.le_refl _) ?_
      exact FP.qV ((if_neg c1).trans ((if_pos c2).trans (rfl)))
    · refine aw_iload_n hC 2 dX10_put_10 rfl rfl ?_
      refine aw_if_lt hC 32 dX10_put_11 (by decide) (fun c3 => ?_) (fun c3 => ?_)
      · refine aw_vret hC dX10_put_32 (Nat.le_refl _) (Nat.le_refl _) ?_
        exact FP.qV ((if_neg c1).trans ((if_neg c2).trans ((if_pos c3).trans (rfl))))
      · refine aw_iload_n hC 2 dX10_put_14 rfl rfl ?_
        refine aw_gets hC hSt 2 (by decide) w_11 dX10_put_15 ?_
        refine aw_iload_n hC 1 dX10_put_18 rfl rfl ?_
        refine aw_tld hC hSt 2 (by decide) ((h0 c1 c2 c3)) dX10_put_19 ?_
        refine aw_icmp_ge hC 32 dX10_put_20 (by decide) (fun c4 => ?_) (fun c4 => ?_)
        · refine aw_vret hC dX10_put_32 (Nat.le_refl _) (Nat.le_refl _) ?_
          exact FP.qV ((if_neg c1).trans ((if_neg c2).trans ((if_neg c3).trans ((if_pos c4).trans (rfl)))))
        · refine aw_iload_n hC 3 dX10_put_23 rfl rfl ?_
          refine aw_if_lt hC 32 dX10_put_24 (by decide) (fun c5 => ?_) (fun c5 => ?_)
          · refine aw_vret hC dX10_put_32 (Nat.le_refl _) (Nat.le_refl _) ?_
            exact FP.qV ((if_neg c1).trans ((if_neg c2).trans ((if_neg c3).trans ((if_neg c4).trans ((if_pos c5).trans (rfl))))))
          · refine aw_iload_n hC 3 dX10_put_27 rfl rfl ?_
            refine aw_iconst (v := 5) hC dX10_put_28 (by decide) ?_
            refine aw_icmp_lt hC 33 dX10_put_29 (by decide) (fun c6 => ?_) (fun c6 => ?_)
            · refine aw_aload_n hC 0 dX10_put_33 rfl rfl ?_
              refine aw_getP (b := (o + 2)) hC hSt 1 (cs_lt o 10 0 ho hM) (cs_k o 10 0 ho hM) rfl (by decide) w_12 rfl (cs_p o 1 (o + 2) (wy_pvalues ho) hM) dX10_put_34 ?_
              refine aw_gets hC hSt 1 (by decide) w_13 dX10_put_37 ?_
              refine aw_iload_n hC 1 dX10_put_40 rfl rfl ?_
              refine aw_tld hC hSt 1 (by decide) ((h1 c1 c2 c3 c4 c5 c6)) dX10_put_41 ?_
              refine aw_iload_n hC 2 dX10_put_42 rfl rfl ?_
              refine aw_iadd hC dX10_put_43 ?_
              refine aw_iconst (v := 5) hC dX10_put_44 (by decide) ?_
              refine aw_imul hC dX10_put_45 ?_
              refine aw_iload_n hC 3 dX10_put_46 rfl rfl ?_
              refine aw_iadd hC dX10_put_47 ?_
              refine aw_iload hC 4 dX10_put_48 rfl ?_
              refine aw_iast hC hSt (cs_lt (o + 2) 14 185 (wy_values ho) hM) (cs_k (o + 2) 14 185 (wy_values ho) hM) (vp_len (n := 185) (cs_l (o + 2) 14 185 (wy_values ho) hM) (h2 c1 c2 c3 c4 c5 c6)) dX10_put_50 ?_
              generalize eS7 : (sI S (o + 2) (((((tbF 1).getD a1.toNatClampNeg 0) + a2) * (5 : Int32)) + a3).toNatClampNeg a4) = S7
              have hM : CS S7 := CS.of (by rw [← eS7]; exact shp_sI _ _ _ _) hM
              refine aw_vret hC dX10_put_51 (Nat.le_refl _) (Nat.le_refl _) ?_
              exact FP.qV ((if_neg c1).trans ((if_neg c2).trans ((if_neg c3).trans ((if_neg c4).trans ((if_neg c5).trans ((if_pos c6).trans ((bd_eq eS7).trans (rfl))))))))
            · refine aw_vret hC dX10_put_32 (Nat.le_refl _) (Nat.le_refl _) ?_
              exact FP.qV ((if_neg c1).trans ((if_neg c2).trans ((if_neg c3).trans ((if_neg c4).trans ((if_neg c5).trans ((if_neg c6).trans (rfl)))))))
theorem q_X10_put (S : HSt) (o : Nat) (a1 : Int32) (a2 : Int32) (a3 : Int32) (a4 : Int32) : shp (f_X10_put S o a1 a2 a3 a4) = shp S := by
  unfold f_X10_put
  repeat' (first | with_reducible rfl | with_reducible refine (shp_sI _ _ _ _).trans ?_ | with_reducible refine (shp_sJ _ _ _ _).trans ?_ | with_reducible refine (shp_rI _ _ _).trans ?_ | with_reducible refine shi ?_ ?_ | with_reducible refine shb (fun _ _ => ?_) | (subst_vars; with_reducible rfl) | (subst_vars; with_reducible refine (shp_sI _ _ _ _).trans ?_) | (subst_vars; with_reducible refine (shp_sJ _ _ _ _).trans ?_) | (subst_vars; with_reducible refine (shp_rI _ _ _).trans ?_) | (subst_vars; with_reducible refine shi ?_ ?_) | (subst_vars; with_reducible refine shb (fun _ _ => ?_)))
theorem v_X10_put (S : HSt) (o : Nat) (a1 : Int32) (a2 : Int32) (a3 : Int32) (a4 : Int32) : Fr [((o + 2), 1000)] S (f_X10_put S o a1 a2 a3 a4) := by
  unfold f_X10_put
  repeat' (first | with_reducible exact Fr.refl _ _ | with_reducible refine Fr.l1 (fun _ _ => ?_) | with_reducible refine Fr.ite ?_ ?_ | with_reducible refine Fr.sE (by assumption) (by first | decide | simp only [List.mem_cons, List.not_mem_nil, or_false, true_or, or_true, eq_self_iff_true]) ?_ | with_reducible refine Fr.jE (by assumption) ?_ | with_reducible refine Fr.rE (by assumption) (by first | decide | simp only [List.mem_cons, List.not_mem_nil, or_false, true_or, or_true, eq_self_iff_true]) ?_ | with_reducible refine Fr.iE (by assumption) ?_ ?_)
theorem w_X10_put (S : HSt) (o : Nat) (a1 : Int32) (a2 : Int32) (a3 : Int32) (a4 : Int32) (r : HSt) (e : f_X10_put S o a1 a2 a3 a4 = r) : Fr [((o + 2), 1000)] S r := by
  rw [← e]
  exact v_X10_put S o a1 a2 a3 a4
noncomputable def f_X10_clear (S : HSt) (o : Nat) : HSt := bd (f_J7_fill_53178 S (o + 1) (0 : Int32)) fun r1 => bd (f_J7_fill_53178 r1 (o + 2) (0 : Int32)) fun r2 => bd (f_X10_put r2 o (4 : Int32) (0 : Int32) (0 : Int32) (200 : Int32)) fun r3 => bd (f_X10_put r3 o (4 : Int32) (0 : Int32) (1 : Int32) (1 : Int32)) fun r4 => bd (f_X10_put r4 o (4 : Int32) (0 : Int32) (2 : Int32) (1 : Int32)) fun r5 => r5
def p_X10_clear (S : HSt) (o : Nat) : Prop := (p_J7_fill_53178 S (o + 1) (0 : Int32)) ∧ (∀ r1, f_J7_fill_53178 S (o + 1) (0 : Int32) = r1 → p_J7_fill_53178 r1 (o + 2) (0 : Int32)) ∧ (∀ r1, f_J7_fill_53178 S (o + 1) (0 : Int32) = r1 → ∀ r2, f_J7_fill_53178 r1 (o + 2) (0 : Int32) = r2 → p_X10_put r2 o (4 : Int32) (0 : Int32) (0 : Int32) (200 : Int32)) ∧ (∀ r1, f_J7_fill_53178 S (o + 1) (0 : Int32) = r1 → ∀ r2, f_J7_fill_53178 r1 (o + 2) (0 : Int32) = r2 → ∀ r3, f_X10_put r2 o (4 : Int32) (0 : Int32) (0 : Int32) (200 : Int32) = r3 → p_X10_put r3 o (4 : Int32) (0 : Int32) (1 : Int32) (1 : Int32)) ∧ (∀ r1, f_J7_fill_53178 S (o + 1) (0 : Int32) = r1 → ∀ r2, f_J7_fill_53178 r1 (o + 2) (0 : Int32) = r2 → ∀ r3, f_X10_put r2 o (4 : Int32) (0 : Int32) (0 : Int32) (200 : Int32) = r3 → ∀ r4, f_X10_put r3 o (4 : Int32) (0 : Int32) (1 : Int32) (1 : Int32) = r4 → p_X10_put r4 o (4 : Int32) (0 : Int32) (2 : Int32) (1 : Int32))
set_option maxRecDepth 100000 in
theorem t_X10_clear (G : GG) (l : Launch) {S : HSt} (hM : CS S) (o : Nat) (ho : (o, 10, 0) ∈ cKT) (hp : p_X10_clear S o) : AM G l yX10_clear cX10_clear 1 none (rmD 1 0 0) 0 0 [.ref o] S (FP none (f_X10_clear S o)) := by
  obtain ⟨h0, h1, h2, h3, h4⟩ := hp
  refine AM.mk (by decide) (Nat.le_of_ble_eq_true rfl) ?_
  intro p e s m below meth c hC hSt _
  refine aw_aload_n hC 0 dX10_clear_0 rfl rfl ?_
  refine aw_getP (b := (o + 1)) hC hSt 0 (cs_lt o 10 0 ho hM) (cs_k o 10 0 ho hM) rfl (by decide) w_153 rfl (cs_p o 0 (o + 1) (wy_pcounts ho) hM) dX10_clear_1 ?_
  refine aw_iconst (v := 0) hC dX10_clear_4 (by decide) ?_
  refine aw_cS2v hC hSt (t_J7_fill_53178 G l hM _ _ ⟨6, (wy_counts ho)⟩ (h0)) w_145 w_337 w_260 w_261 rfl rfl (by decide +kernel) ⟨Nat.le_of_ble_eq_true rfl, Nat.le_of_ble_eq_true rfl⟩ (Nat.le_of_ble_eq_true rfl) dX10_clear_5 ⟨Nat.zero_le _, Nat.zero_le _⟩ ?_
  generalize er1 : f_J7_fill_53178 S (o + 1) (0 : Int32) = r1
  have hM : CS r1 := CS.of (by rw [← er1]; exact q_J7_fill_53178 _ _ _) hM
  refine aw_aload_n hC 0 dX10_clear_8 rfl rfl ?_
  refine aw_getP (b := (o + 2)) hC hSt 1 (cs_lt o 10 0 ho hM) (cs_k o 10 0 ho hM) rfl (by decide) w_12 rfl (cs_p o 1 (o + 2) (wy_pvalues ho) hM) dX10_clear_9 ?_
  refine aw_iconst (v := 0) hC dX10_clear_12 (by decide) ?_
  refine aw_cS2v hC hSt (t_J7_fill_53178 G l hM _ _ ⟨185, (wy_values ho)⟩ (h1 r1 er1)) w_145 w_337 w_260 w_261 rfl rfl (by decide +kernel) ⟨Nat.le_of_ble_eq_true rfl, Nat.le_of_ble_eq_true rfl⟩ (Nat.le_of_ble_eq_true rfl) dX10_clear_13 ⟨Nat.zero_le _, Nat.zero_le _⟩ ?_
  generalize er2 : f_J7_fill_53178 r1 (o + 2) (0 : Int32) = r2
  have hM : CS r2 := CS.of (by rw [← er2]; exact q_J7_fill_53178 _ _ _) hM
  refine aw_aload_n hC 0 dX10_clear_16 rfl rfl ?_
  refine aw_iconst (v := 4) hC dX10_clear_17 (by decide) ?_
  refine aw_iconst (v := 0) hC dX10_clear_18 (by decide) ?_
  refine aw_iconst (v := 0) hC dX10_clear_19 (by decide) ?_
  refine aw_sipush (v := 200) hC dX10_clear_20 (by decide) ?_
  refine aw_cV4v hC hSt (t_X10_put G l hM _ _ _ _ _ ho (h2 r1 er1 r2 er2)) w_335 w_338 w_339 w_340 w_18 rfl rfl (by decide +kernel) ⟨Nat.le_of_ble_eq_true rfl, Nat.le_of_ble_eq_true rfl⟩ (cs_lt o 10 0 ho hM) (cs_k o 10 0 ho hM) rfl (Nat.le_of_ble_eq_true rfl) dX10_clear_23 ⟨Nat.zero_le _, Nat.zero_le _⟩ ?_
  generalize er3 : f_X10_put r2 o (4 : Int32) (0 : Int32) (0 : Int32) (200 : Int32) = r3
  have hM : CS r3 := CS.of (by rw [← er3]; exact q_X10_put _ _ _ _ _ _) hM
  refine aw_aload_n hC 0 dX10_clear_26 rfl rfl ?_
  refine aw_iconst (v := 4) hC dX10_clear_27 (by decide) ?_
  refine aw_iconst (v := 0) hC dX10_clear_28 (by decide) ?_
  refine aw_iconst (v := 1) hC dX10_clear_29 (by decide) ?_
  refine aw_iconst (v := 1) hC dX10_clear_30 (by decide) ?_
  refine aw_cV4v hC hSt (t_X10_put G l hM _ _ _ _ _ ho (h3 r1 er1 r2 er2 r3 er3)) w_335 w_338 w_339 w_340 w_18 rfl rfl (by decide +kernel) ⟨Nat.le_of_ble_eq_true rfl, Nat.le_of_ble_eq_true rfl⟩ (cs_lt o 10 0 ho hM) (cs_k o 10 0 ho hM) rfl (Nat.le_of_ble_eq_true rfl) dX10_clear_31 ⟨Nat.zero_le _, Nat.zero_le _⟩ ?_
  generalize er4 : f_X10_put r3 o (4 : Int32) (0 : Int32) (1 : Int32) (1 : Int32) = r4
  have hM : CS r4 := CS.of (by rw [← er4]; exact q_X10_put _ _ _ _ _ _) hM
  refine aw_aload_n hC 0 dX10_clear_34 rfl rfl ?_
  refine aw_iconst (v := 4) hC dX10_clear_35 (by decide) ?_
  refine aw_iconst (v := 0) hC dX10_clear_36 (by decide) ?_
  refine aw_iconst (v := 2) hC dX10_clear_37 (by decide) ?_
  refine aw_iconst (v := 1) hC dX10_clear_38 (by decide) ?_
  refine aw_cV4v hC hSt (t_X10_put G l hM _ _ _ _ _ ho (h4 r1 er1 r2 er2 r3 er3 r4 er4)) w_335 w_338 w_339 w_340 w_18 rfl rfl (by decide +kernel) ⟨Nat.le_of_ble_eq_true rfl, Nat.le_of_ble_eq_true rfl⟩ (cs_lt o 10 0 ho hM) (cs_k o 10 0 ho hM) rfl (Nat.le_of_ble_eq_true rfl) dX10_clear_39 ⟨Nat.zero_le _, Nat.zero_le _⟩ ?_
  generalize er5 : f_X10_put r4 o (4 : Int32) (0 : Int32) (2 : Int32) (1 : Int32) = r5
  have hM : CS r5 := CS.of (by rw [← er5]; exact q_X10_put _ _ _ _ _ _) hM
  refine aw_vret hC dX10_clear_42 (Nat.le_refl _) (Nat.le_refl _) ?_
  exact FP.qV ((bd_eq er1).trans ((bd_eq er2).trans ((bd_eq er3).trans ((bd_eq er4).trans ((bd_eq er5).trans (rfl))))))
theorem q_X10_clear (S : HSt) (o : Nat) : shp (f_X10_clear S o) = shp S := by
  unfold f_X10_clear
  repeat' (first | with_reducible rfl | with_reducible refine (q_J7_fill_53178 _ _ _).trans ?_ | with_reducible refine (q_X10_put _ _ _ _ _ _).trans ?_ | with_reducible refine (shp_sI _ _ _ _).trans ?_ | with_reducible refine (shp_sJ _ _ _ _).trans ?_ | with_reducible refine (shp_rI _ _ _).trans ?_ | with_reducible refine shi ?_ ?_ | with_reducible refine shb (fun _ _ => ?_) | (subst_vars; with_reducible rfl) | (subst_vars; with_reducible refine (q_J7_fill_53178 _ _ _).trans ?_) | (subst_vars; with_reducible refine (q_X10_put _ _ _ _ _ _).trans ?_) | (subst_vars; with_reducible refine (shp_sI _ _ _ _).trans ?_) | (subst_vars; with_reducible refine (shp_sJ _ _ _ _).trans ?_) | (subst_vars; with_reducible refine (shp_rI _ _ _).trans ?_) | (subst_vars; with_reducible refine shi ?_ ?_) | (subst_vars; with_reducible refine shb (fun _ _ => ?_)))
theorem v_X10_clear (S : HSt) (o : Nat) : Fr [((o + 1), 1000), ((o + 2), 1000)] S (f_X10_clear S o) := by
  unfold f_X10_clear
  repeat' (first | with_reducible exact Fr.refl _ _ | with_reducible refine Fr.l1 (fun _ _ => ?_) | with_reducible refine Fr.ite ?_ ?_ | with_reducible refine Fr.sE (by assumption) (by first | decide | simp only [List.mem_cons, List.not_mem_nil, or_false, true_or, or_true, eq_self_iff_true]) ?_ | with_reducible refine Fr.jE (by assumption) ?_ | with_reducible refine Fr.rE (by assumption) (by first | decide | simp only [List.mem_cons, List.not_mem_nil, or_false, true_or, or_true, eq_self_iff_true]) ?_ | with_reducible refine Fr.iE (by assumption) ?_ ?_ | with_reducible refine Fr.tr (w_J7_fill_53178 _ _ _ _ (by assumption)) (by first | decide | simp only [List.mem_cons, List.not_mem_nil, or_false, forall_eq_or_imp, forall_eq, true_or, or_true, and_self, eq_self_iff_true]) ?_ | with_reducible refine Fr.tr (w_X10_put _ _ _ _ _ _ _ (by assumption)) (by first | decide | simp only [List.mem_cons, List.not_mem_nil, or_false, forall_eq_or_imp, forall_eq, true_or, or_true, and_self, eq_self_iff_true]) ?_)
theorem w_X10_clear (S : HSt) (o : Nat) (r : HSt) (e : f_X10_clear S o = r) : Fr [((o + 1), 1000), ((o + 2), 1000)] S r := by
  rw [← e]
  exact v_X10_clear S o
noncomputable def f_X10_copyFrom (S : HSt) (o : Nat) (w1 : Nat) : HSt := bd ((rI S (o + 1) (va_cpy (gI S (w1 + 1)) (gI S (o + 1)) (0 : Int32).toNatClampNeg (0 : Int32).toNatClampNeg (6 : Int32).toNatClampNeg))) fun S1 => bd ((rI S1 (o + 2) (va_cpy (gI S1 (w1 + 2)) (gI S1 (o + 2)) (0 : Int32).toNatClampNeg (0 : Int32).toNatClampNeg (185 : Int32).toNatClampNeg))) fun S2 => S2
set_option maxRecDepth 100000 in
theorem t_X10_copyFrom (G : GG) (l : Launch) {S : HSt} (hM : CS S) (o : Nat) (w1 : Nat) (ho : (o, 10, 0) ∈ cKT) (hw1 : (w1, 10, 0) ∈ cKT)  : AM G l yX10_copyFrom cX10_copyFrom 2 none (rmD 1 0 0) 0 0 [.ref o, .ref w1] S (FP none (f_X10_copyFrom S o w1)) := by
  refine AM.mk (by decide) (Nat.le_of_ble_eq_true rfl) ?_
  intro p e s m below meth c hC hSt _
  refine aw_aload_n hC 1 dX10_copyFrom_0 rfl rfl ?_
  refine aw_getP (b := (w1 + 1)) hC hSt 0 (cs_lt w1 10 0 hw1 hM) (cs_k w1 10 0 hw1 hM) rfl (by decide) w_153 rfl (cs_p w1 0 (w1 + 1) (wy_pcounts hw1) hM) dX10_copyFrom_1 ?_
  refine aw_iconst (v := 0) hC dX10_copyFrom_4 (by decide) ?_
  refine aw_aload_n hC 0 dX10_copyFrom_5 rfl rfl ?_
  refine aw_getP (b := (o + 1)) hC hSt 0 (cs_lt o 10 0 ho hM) (cs_k o 10 0 ho hM) rfl (by decide) w_153 rfl (cs_p o 0 (o + 1) (wy_pcounts ho) hM) dX10_copyFrom_6 ?_
  refine aw_iconst (v := 0) hC dX10_copyFrom_9 (by decide) ?_
  refine aw_bipush (v := 6) hC dX10_copyFrom_10 (by decide) ?_
  refine aw_copy hC hSt (cs_lt (w1 + 1) 14 6 (wy_counts hw1) hM) (cs_k (w1 + 1) 14 6 (wy_counts hw1) hM) (cs_lt (o + 1) 14 6 (wy_counts ho) hM) (cs_k (o + 1) 14 6 (wy_counts ho) hM) (by decide) (by decide) (by decide) (by rw [show gL _ _ = 6 from (cs_l (w1 + 1) 14 6 (wy_counts hw1) hM)]; exact (by decide)) (by rw [show gL _ _ = 6 from (cs_l (o + 1) 14 6 (wy_counts ho) hM)]; exact (by decide)) w_584 w_149 w_150 w_151 (by decide) (Nat.le_of_ble_eq_true rfl) dX10_copyFrom_12 ?_
  generalize eS1 : (rI S (o + 1) (va_cpy (gI S (w1 + 1)) (gI S (o + 1)) (0 : Int32).toNatClampNeg (0 : Int32).toNatClampNeg (6 : Int32).toNatClampNeg)) = S1
  have hM : CS S1 := CS.of (by rw [← eS1]; exact shp_rI _ _ _) hM
  refine aw_aload_n hC 1 dX10_copyFrom_15 rfl rfl ?_
  refine aw_getP (b := (w1 + 2)) hC hSt 1 (cs_lt w1 10 0 hw1 hM) (cs_k w1 10 0 hw1 hM) rfl (by decide) w_12 rfl (cs_p w1 1 (w1 + 2) (wy_pvalues hw1) hM) dX10_copyFrom_16 ?_
  refine aw_iconst (v := 0) hC dX10_copyFrom_19 (by decide) ?_
  refine aw_aload_n hC 0 dX10_copyFrom_20 rfl rfl ?_
  refine aw_getP (b := (o + 2)) hC hSt 1 (cs_lt o 10 0 ho hM) (cs_k o 10 0 ho hM) rfl (by decide) w_12 rfl (cs_p o 1 (o + 2) (wy_pvalues ho) hM) dX10_copyFrom_21 ?_
  refine aw_iconst (v := 0) hC dX10_copyFrom_24 (by decide) ?_
  refine aw_sipush (v := 185) hC dX10_copyFrom_25 (by decide) ?_
  refine aw_copy hC hSt (cs_lt (w1 + 2) 14 185 (wy_values hw1) hM) (cs_k (w1 + 2) 14 185 (wy_values hw1) hM) (cs_lt (o + 2) 14 185 (wy_values ho) hM) (cs_k (o + 2) 14 185 (wy_values ho) hM) (by decide) (by decide) (by decide) (by rw [show gL _ _ = 185 from (cs_l (w1 + 2) 14 185 (wy_values hw1) hM)]; exact (by decide)) (by rw [show gL _ _ = 185 from (cs_l (o + 2) 14 185 (wy_values ho) hM)]; exact (by decide)) w_584 w_149 w_150 w_151 (by decide) (Nat.le_of_ble_eq_true rfl) dX10_copyFrom_28 ?_
  generalize eS2 : (rI S1 (o + 2) (va_cpy (gI S1 (w1 + 2)) (gI S1 (o + 2)) (0 : Int32).toNatClampNeg (0 : Int32).toNatClampNeg (185 : Int32).toNatClampNeg)) = S2
  have hM : CS S2 := CS.of (by rw [← eS2]; exact shp_rI _ _ _) hM
  refine aw_vret hC dX10_copyFrom_31 (Nat.le_refl _) (Nat.le_refl _) ?_
  exact FP.qV ((bd_eq eS1).trans ((bd_eq eS2).trans (rfl)))
theorem q_X10_copyFrom (S : HSt) (o : Nat) (w1 : Nat) : shp (f_X10_copyFrom S o w1) = shp S := by
  unfold f_X10_copyFrom
  repeat' (first | with_reducible rfl | with_reducible refine (shp_sI _ _ _ _).trans ?_ | with_reducible refine (shp_sJ _ _ _ _).trans ?_ | with_reducible refine (shp_rI _ _ _).trans ?_ | with_reducible refine shi ?_ ?_ | with_reducible refine shb (fun _ _ => ?_) | (subst_vars; with_reducible rfl) | (subst_vars; with_reducible refine (shp_sI _ _ _ _).trans ?_) | (subst_vars; with_reducible refine (shp_sJ _ _ _ _).trans ?_) | (subst_vars; with_reducible refine (shp_rI _ _ _).trans ?_) | (subst_vars; with_reducible refine shi ?_ ?_) | (subst_vars; with_reducible refine shb (fun _ _ => ?_)))
theorem v_X10_copyFrom (S : HSt) (o : Nat) (w1 : Nat) : Fr [((o + 1), 1000), ((o + 2), 1000)] S (f_X10_copyFrom S o w1) := by
  unfold f_X10_copyFrom
  repeat' (first | with_reducible exact Fr.refl _ _ | with_reducible refine Fr.l1 (fun _ _ => ?_) | with_reducible refine Fr.ite ?_ ?_ | with_reducible refine Fr.sE (by assumption) (by first | decide | simp only [List.mem_cons, List.not_mem_nil, or_false, true_or, or_true, eq_self_iff_true]) ?_ | with_reducible refine Fr.jE (by assumption) ?_ | with_reducible refine Fr.rE (by assumption) (by first | decide | simp only [List.mem_cons, List.not_mem_nil, or_false, true_or, or_true, eq_self_iff_true]) ?_ | with_reducible refine Fr.iE (by assumption) ?_ ?_)
theorem w_X10_copyFrom (S : HSt) (o : Nat) (w1 : Nat) (r : HSt) (e : f_X10_copyFrom S o w1 = r) : Fr [((o + 1), 1000), ((o + 2), 1000)] S r := by
  rw [← e]
  exact v_X10_copyFrom S o w1
noncomputable def F_X10_kindOf (S : HSt) (o : Nat) (a1 : Int32) : Int32 × HSt := pr ((f_X10_value S o (5 : Int32) a1 (0 : Int32))) (S)
noncomputable def f_X10_kindOf (S : HSt) (o : Nat) (a1 : Int32) : Int32 := (F_X10_kindOf S o a1).1
def p_X10_kindOf (S : HSt) (o : Nat) (a1 : Int32) : Prop := (p_X10_value S o (5 : Int32) a1 (0 : Int32))
set_option maxRecDepth 100000 in
theorem t_X10_kindOf (G : GG) (l : Launch) {S : HSt} (hM : CS S) (o : Nat) (a1 : Int32) (ho : (o, 10, 0) ∈ cKT) (hp : p_X10_kindOf S o a1) : AM G l yX10_kindOf cX10_kindOf 2 (some .int) (rmD 1 0 0) 0 0 [.ref o, .int a1] S (FP (some (.int (f_X10_kindOf S o a1))) (S)) := by
  have h0 := hp
  unfold p_X10_kindOf at h0
  refine AM.mk (by decide) (Nat.le_of_ble_eq_true rfl) ?_
  intro p e s m below meth c hC hSt _
  refine aw_aload_n hC 0 dX10_kindOf_0 rfl rfl ?_
  refine aw_iconst (v := 5) hC dX10_kindOf_1 (by decide) ?_
  refine aw_iload_n hC 1 dX10_kindOf_2 rfl rfl ?_
  refine aw_iconst (v := 0) hC dX10_kindOf_3 (by decide) ?_
  refine aw_cV3r hC hSt (t_X10_value G l hM _ _ _ _ ho (h0)) w_10 w_15 w_16 w_17 w_18 rfl rfl (by decide +kernel) ⟨Nat.le_of_ble_eq_true rfl, Nat.le_of_ble_eq_true rfl⟩ (cs_lt o 10 0 ho hM) (cs_k o 10 0 ho hM) rfl (Nat.le_of_ble_eq_true rfl) dX10_kindOf_4 ⟨Nat.zero_le _, Nat.zero_le _⟩ ?_
  refine aw_iret hC dX10_kindOf_7 (Nat.le_refl _) (Nat.le_refl _) ?_
  exact FP.pI (rfl)
noncomputable def L_X10_isA_9 (o : Nat) : Nat → HSt → Int32 → Int32 → Int32 → Int32 → Int32 × Int32 × Int32 × Int32 × Int32 × Int32
  | 0, S, v1, v2, v3, v4 => ((1 : Int32), 0, v1, v2, v3, v4)
  | n + 1, S, v1, v2, v3, v4 =>
    if (nI (tbF 0).length) ≤ v4 then ((pr ((0 : Int32)) (pr (0) (pr (v1) (pr (v2) (pr (v3) (v4))))))) else (if v3 < 0 then ((pr ((0 : Int32)) (pr (0) (pr (v1) (pr (v2) (pr (v3) (v4))))))) else (if (nI (tbF 0).length) ≤ v3 then ((pr ((0 : Int32)) (pr (0) (pr (v1) (pr (v2) (pr (v3) (v4))))))) else (if v3 = v2 then ((pr ((1 : Int32)) (pr ((1 : Int32)) (pr (v1) (pr (v2) (pr (v3) (v4))))))) else (bd (((tbF 0).getD v3.toNatClampNeg 0)) fun x1006 => L_X10_isA_9 o n S v1 v2 x1006 (v4 + (1 : Int32))))))
def T_X10_isA_9 (o : Nat) : Nat → HSt → Int32 → Int32 → Int32 → Int32 → Prop
  | 0, _, _, _, _, _ => False
  | n + 1, S, v1, v2, v3, v4 => ((¬ (nI (tbF 0).length) ≤ v4) → (¬ v3 < 0) → (¬ (nI (tbF 0).length) ≤ v3) → (¬ v3 = v2) → vp_in v3 (tbF 0).length) ∧ ((¬ (nI (tbF 0).length) ≤ v4) → (¬ v3 < 0) → (¬ (nI (tbF 0).length) ≤ v3) → (¬ v3 = v2) → ∀ x1006 : Int32, ((tbF 0).getD v3.toNatClampNeg 0) = x1006 → T_X10_isA_9 o n S v1 v2 x1006 (v4 + (1 : Int32)))
set_option maxRecDepth 100000 in
theorem l_X10_isA_9 {p : Program} {l : Launch} {e : Env} {s : State} {m : MethodId} {args : Array Value} {below : List Frame} {meth : Method} {c : Code} {G : GG} {Post : Option Value → HSt → Prop} (hC : ACx p s m args meth c cX10_isA RX10 5 (some .boolean)) (hSt : St G s) {o : Nat} (ho : (o, 10, 0) ∈ cKT) : ∀ (n : Nat) (S : HSt) (v1 : Int32) (v2 : Int32) (v3 : Int32) (v4 : Int32), CS S → T_X10_isA_9 o n S v1 v2 v3 v4 → ((L_X10_isA_9 o n S v1 v2 v3 v4).1 = 1 → Post (some (.int (L_X10_isA_9 o n S v1 v2 v3 v4).2.1)) S) → ((L_X10_isA_9 o n S v1 v2 v3 v4).1 ≠ 1 → AW p l e (rmD 2 0 0) s m args below meth c G 5 (AQ G below args s 0 0 Post) S 0 0 49 [(0, .ref o), (1, .int (L_X10_isA_9 o n S v1 v2 v3 v4).2.2.1), (2, .int (L_X10_isA_9 o n S v1 v2 v3 v4).2.2.2.1), (3, .int (L_X10_isA_9 o n S v1 v2 v3 v4).2.2.2.2.1), (4, .int (L_X10_isA_9 o n S v1 v2 v3 v4).2.2.2.2.2)] []) → AW p l e (rmD 2 0 0) s m args below meth c G 5 (AQ G below args s 0 0 Post) S 0 0 9 [(0, .ref o), (1, .int v1), (2, .int v2), (3, .int v3), (4, .int v4)] [] := by
  intro n
  induction n with
  | zero => intro S v1 v2 v3 v4 _ hT; exact hT.elim
  | succ n ih =>
    intro S v1 v2 v3 v4 hM hT hr hk
    unfold T_X10_isA_9 at hT
    obtain ⟨h0, h1⟩ := hT
    refine aw_iload hC 4 dX10_isA_9 rfl ?_
    refine aw_gets hC hSt 0 (by decide) w_497 dX10_isA_11 ?_
    refine aw_tlen hC hSt 0 (by decide) dX10_isA_14 ?_
    refine aw_icmp_ge hC 49 dX10_isA_15 (by decide) (fun c1002 => ?_) (fun c1002 => ?_)
    · refine aw_sub [0, 1, 2, 3, 4] rfl ?_
      have E : L_X10_isA_9 o (n + 1) S v1 v2 v3 v4 = _ := (if_pos c1002).trans (rfl)
      rw [E] at hk hr
      exact hk (by show ¬ (0 : Int32) = 1; decide)
    · refine aw_iload_n hC 3 dX10_isA_18 rfl rfl ?_
      refine aw_if_lt hC 49 dX10_isA_19 (by decide) (fun c1003 => ?_) (fun c1003 => ?_)
      · refine aw_sub [0, 1, 2, 3, 4] rfl ?_
        have E : L_X10_isA_9 o (n + 1) S v1 v2 v3 v4 = _ := (if_neg c1002).trans ((if_pos c1003).trans (rfl))
        rw [E] at hk hr
        exact hk (by show ¬ (0 : Int32) = 1; decide)
      · refine aw_iload_n hC 3 dX10_isA_22 rfl rfl ?_
        refine aw_gets hC hSt 0 (by decide) w_497 dX10_isA_23 ?_
        refine aw_tlen hC hSt 0 (by decide) dX10_isA_26 ?_
        refine aw_icmp_ge hC 49 dX10_isA_27 (by decide) (fun c1004 => ?_) (fun c1004 => ?_)
        · refine aw_sub [0, 1, 2, 3, 4] rfl ?_
          have E : L_X10_isA_9 o (n + 1) S v1 v2 v3 v4 = _ := (if_neg c1002).trans ((if_neg c1003).trans ((if_pos c1004).trans (rfl)))
          rw [E] at hk hr
          exact hk (by show ¬ (0 : Int32) = 1; decide)
        · refine aw_iload_n hC 3 dX10_isA_30 rfl rfl ?_
          refine aw_iload_n hC 2 dX10_isA_31 rfl rfl ?_
          refine aw_icmp_ne hC 37 dX10_isA_32 (by decide) (fun c1005 => ?_) (fun c1005 => ?_)
          · refine aw_gets hC hSt 0 (by decide) w_497 dX10_isA_37 ?_
            refine aw_iload_n hC 3 dX10_isA_40 rfl rfl ?_
            refine aw_tld hC hSt 0 (by decide) ((h0 c1002 c1003 c1004 c1005)) dX10_isA_41 ?_
            refine aw_istore_n hC [(3, .int _), (0, .ref o), (1, .int _), (2, .int _), (4, .int _)] dX10_isA_42 rfl (by decide) rfl ?_
            generalize ex1006 : ((tbF 0).getD v3.toNatClampNeg 0) = x1006
            refine aw_iinc (v := (v4 + (1 : Int32))) hC 4 [(4, .int _), (3, .int _), (0, .ref o), (1, .int _), (2, .int _)] dX10_isA_43 rfl rfl (by decide) rfl ?_
            refine aw_goto hC 9 dX10_isA_46 (by decide) ?_
            refine aw_sub [2, 3, 4, 1, 0] rfl ?_
            have hTn := (h1 c1002 c1003 c1004 c1005 x1006 ex1006)
            have hMn : CS S := hM
            have E : L_X10_isA_9 o (n + 1) S v1 v2 v3 v4 = _ := (if_neg c1002).trans ((if_neg c1003).trans ((if_neg c1004).trans ((if_neg c1005).trans ((bd_eq ex1006).trans (rfl)))))
            rw [E] at hk hr
            exact ih _ _ _ _ _ hMn hTn hr hk
          · refine aw_iconst (v := 1) hC dX10_isA_35 (by decide) ?_
            refine aw_zret hC dX10_isA_36 (Nat.le_refl _) (Nat.le_refl _) (by decide) ?_
            have E : L_X10_isA_9 o (n + 1) S v1 v2 v3 v4 = _ := (if_neg c1002).trans ((if_neg c1003).trans ((if_neg c1004).trans ((if_pos c1005).trans (rfl))))
            rw [E] at hr
            exact hr rfl
noncomputable def F_X10_isA (S : HSt) (o : Nat) (a1 : Int32) (a2 : Int32) : Int32 × HSt := bd ((f_X10_kindOf S o a1)) fun x1 => bd (L_X10_isA_9 o 1000 S a1 a2 x1 (0 : Int32)) fun r2 => if r2.1 = 1 then (pr (r2.2.1) (S)) else (pr ((0 : Int32)) (S))
noncomputable def f_X10_isA (S : HSt) (o : Nat) (a1 : Int32) (a2 : Int32) : Int32 := (F_X10_isA S o a1 a2).1
def p_X10_isA (S : HSt) (o : Nat) (a1 : Int32) (a2 : Int32) : Prop := (p_X10_kindOf S o a1) ∧ (∀ x1 : Int32, (f_X10_kindOf S o a1) = x1 → T_X10_isA_9 o 1000 S a1 a2 x1 (0 : Int32))
set_option maxRecDepth 100000 in
theorem t_X10_isA (G : GG) (l : Launch) {S : HSt} (hM : CS S) (o : Nat) (a1 : Int32) (a2 : Int32) (ho : (o, 10, 0) ∈ cKT) (hp : p_X10_isA S o a1 a2) : AM G l yX10_isA cX10_isA 5 (some .boolean) (rmD 2 0 0) 0 0 [.ref o, .int a1, .int a2] S (FP (some (.int (f_X10_isA S o a1 a2))) (S)) := by
  obtain ⟨h0, h1⟩ := hp
  refine AM.mk (by decide) (Nat.le_of_ble_eq_true rfl) ?_
  intro p e s m below meth c hC hSt _
  refine aw_aload_n hC 0 dX10_isA_0 rfl rfl ?_
  refine aw_iload_n hC 1 dX10_isA_1 rfl rfl ?_
  refine aw_cV1r hC hSt (t_X10_kindOf G l hM _ _ ho (h0)) w_14 w_498 w_47 w_48 w_18 rfl rfl (by decide +kernel) ⟨Nat.le_of_ble_eq_true rfl, Nat.le_of_ble_eq_true rfl⟩ (cs_lt o 10 0 ho hM) (cs_k o 10 0 ho hM) rfl (Nat.le_of_ble_eq_true rfl) dX10_isA_2 ⟨Nat.zero_le _, Nat.zero_le _⟩ ?_
  refine aw_istore_n hC [(3, .int _), (0, .ref o), (1, .int _), (2, .int _)] dX10_isA_5 rfl (by decide) rfl ?_
  generalize ex1 : (f_X10_kindOf S o a1) = x1
  refine aw_iconst (v := 0) hC dX10_isA_6 (by decide) ?_
  refine aw_istore hC [(4, .int _), (3, .int _), (0, .ref o), (1, .int _), (2, .int _)] dX10_isA_7 (by decide) rfl ?_
  refine aw_sub [2, 3, 4, 1, 0] rfl ?_
  refine l_X10_isA_9 hC hSt ho 1000 _ _ _ _ _ hM (h1 x1 ex1) (fun c3 => ?_) (fun c3 => ?_)
  · revert c3
    generalize er2 : L_X10_isA_9 o 1000 S a1 a2 x1 (0 : Int32) = r2
    intro c3
    exact FP.pI ((bd_eq ex1).trans ((bd_eq er2).trans ((if_pos c3).trans (rfl))))
  · revert c3
    generalize er2 : L_X10_isA_9 o 1000 S a1 a2 x1 (0 : Int32) = r2
    intro c3
    refine aw_iconst (v := 0) hC dX10_isA_49 (by decide) ?_
    refine aw_zret hC dX10_isA_50 (Nat.le_refl _) (Nat.le_refl _) (by decide) ?_
    exact FP.pI ((bd_eq ex1).trans ((bd_eq er2).trans ((if_neg c3).trans (rfl))))
noncomputable def F_X10_pointsFor (S : HSt) (o : Nat) (a1 : Int32) (a2 : Int32) (a3 : Int32) : Int32 × HSt := if a2 ≤ (f_X10_value S o (4 : Int32) (0 : Int32) (0 : Int32)) then (if a3 = 0 then (pr ((-(f_X10_value S o (4 : Int32) (0 : Int32) (3 : Int32)))) (S)) else (bd ((if a1 = 0 then (1 : Int32) else (2 : Int32))) fun x4 => pr ((f_X10_value S o (4 : Int32) (0 : Int32) x4)) (S))) else (pr ((0 : Int32)) (S))
noncomputable def f_X10_pointsFor (S : HSt) (o : Nat) (a1 : Int32) (a2 : Int32) (a3 : Int32) : Int32 := (F_X10_pointsFor S o a1 a2 a3).1
def p_X10_pointsFor (S : HSt) (o : Nat) (a1 : Int32) (a2 : Int32) (a3 : Int32) : Prop := (p_X10_value S o (4 : Int32) (0 : Int32) (0 : Int32)) ∧ ((a2 ≤ (f_X10_value S o (4 : Int32) (0 : Int32) (0 : Int32))) → (¬ a3 = 0) → ∀ x4 : Int32, (if a1 = 0 then (1 : Int32) else (2 : Int32)) = x4 → p_X10_value S o (4 : Int32) (0 : Int32) x4) ∧ ((a2 ≤ (f_X10_value S o (4 : Int32) (0 : Int32) (0 : Int32))) → (a3 = 0) → p_X10_value S o (4 : Int32) (0 : Int32) (3 : Int32))
set_option maxRecDepth 100000 in
theorem t_X10_pointsFor (G : GG) (l : Launch) {S : HSt} (hM : CS S) (o : Nat) (a1 : Int32) (a2 : Int32) (a3 : Int32) (ho : (o, 10, 0) ∈ cKT) (hp : p_X10_pointsFor S o a1 a2 a3) : AM G l yX10_pointsFor cX10_pointsFor 4 (some .int) (rmD 1 0 0) 0 0 [.ref o, .int a1, .int a2, .int a3] S (FP (some (.int (f_X10_pointsFor S o a1 a2 a3))) (S)) := by
  obtain ⟨h0, h1, h2⟩ := hp
  refine AM.mk (by decide) (Nat.le_of_ble_eq_true rfl) ?_
  intro p e s m below meth c hC hSt _
  refine aw_iload_n hC 2 dX10_pointsFor_0 rfl rfl ?_
  refine aw_aload_n hC 0 dX10_pointsFor_1 rfl rfl ?_
  refine aw_iconst (v := 4) hC dX10_pointsFor_2 (by decide) ?_
  refine aw_iconst (v := 0) hC dX10_pointsFor_3 (by decide) ?_
  refine aw_iconst (v := 0) hC dX10_pointsFor_4 (by decide) ?_
  refine aw_cV3r hC hSt (t_X10_value G l hM _ _ _ _ ho (h0)) w_10 w_15 w_16 w_17 w_18 rfl rfl (by decide +kernel) ⟨Nat.le_of_ble_eq_true rfl, Nat.le_of_ble_eq_true rfl⟩ (cs_lt o 10 0 ho hM) (cs_k o 10 0 ho hM) rfl (Nat.le_of_ble_eq_true rfl) dX10_pointsFor_5 ⟨Nat.zero_le _, Nat.zero_le _⟩ ?_
  refine aw_icmp_le hC 13 dX10_pointsFor_8 (by decide) (fun c1 => ?_) (fun c1 => ?_)
  · refine aw_iload_n hC 3 dX10_pointsFor_13 rfl rfl ?_
    refine aw_if_ne hC 26 dX10_pointsFor_14 (by decide) (fun c2 => ?_) (fun c2 => ?_)
    · refine aw_aload_n hC 0 dX10_pointsFor_26 rfl rfl ?_
      refine aw_iconst (v := 4) hC dX10_pointsFor_27 (by decide) ?_
      refine aw_iconst (v := 0) hC dX10_pointsFor_28 (by decide) ?_
      refine aw_iload_n hC 1 dX10_pointsFor_29 rfl rfl ?_
      refine aw_cut (S' := S) (pc' := 38) (lv' := [(0, .ref o), (1, .int a1), (2, .int a2), (3, .int a3)]) (st' := [.int (if a1 = 0 then (1 : Int32) else (2 : Int32)), .int (0 : Int32), .int (4 : Int32), .ref o]) ?_ (fun Jc3 => ?_)
      · generalize ex4 : (if a1 = 0 then (1 : Int32) else (2 : Int32)) = x4
        refine aw_cV3r hC hSt (t_X10_value G l hM _ _ _ _ ho (h1 c1 c2 x4 ex4)) w_10 w_15 w_16 w_17 w_18 rfl rfl (by decide +kernel) ⟨Nat.le_of_ble_eq_true rfl, Nat.le_of_ble_eq_true rfl⟩ (cs_lt o 10 0 ho hM) (cs_k o 10 0 ho hM) rfl (Nat.le_of_ble_eq_true rfl) dX10_pointsFor_38 ⟨Nat.zero_le _, Nat.zero_le _⟩ ?_
        refine aw_iret hC dX10_pointsFor_41 (Nat.le_refl _) (Nat.le_refl _) ?_
        exact FP.pI ((if_pos c1).trans ((if_neg c2).trans ((bd_eq ex4).trans (rfl))))
      · refine aw_if_ne hC 37 dX10_pointsFor_30 (by decide) (fun c3 => ?_) (fun c3 => ?_)
        · refine aw_iconst (v := 2) hC dX10_pointsFor_37 (by decide) ?_
          simp only [bd_def, if_neg c3] at Jc3 ⊢
          exact Jc3
        · refine aw_iconst (v := 1) hC dX10_pointsFor_33 (by decide) ?_
          refine aw_goto hC 38 dX10_pointsFor_34 (by decide) ?_
          simp only [bd_def, if_pos c3] at Jc3 ⊢
          exact Jc3
    · refine aw_aload_n hC 0 dX10_pointsFor_17 rfl rfl ?_
      refine aw_iconst (v := 4) hC dX10_pointsFor_18 (by decide) ?_
      refine aw_iconst (v := 0) hC dX10_pointsFor_19 (by decide) ?_
      refine aw_iconst (v := 3) hC dX10_pointsFor_20 (by decide) ?_
      refine aw_cV3r hC hSt (t_X10_value G l hM _ _ _ _ ho (h2 c1 c2)) w_10 w_15 w_16 w_17 w_18 rfl rfl (by decide +kernel) ⟨Nat.le_of_ble_eq_true rfl, Nat.le_of_ble_eq_true rfl⟩ (cs_lt o 10 0 ho hM) (cs_k o 10 0 ho hM) rfl (Nat.le_of_ble_eq_true rfl) dX10_pointsFor_21 ⟨Nat.zero_le _, Nat.zero_le _⟩ ?_
      refine aw_ineg hC dX10_pointsFor_24 ?_
      refine aw_iret hC dX10_pointsFor_25 (Nat.le_refl _) (Nat.le_refl _) ?_
      exact FP.pI ((if_pos c1).trans ((if_pos c2).trans (rfl)))
  · refine aw_iconst (v := 0) hC dX10_pointsFor_11 (by decide) ?_
    refine aw_iret hC dX10_pointsFor_12 (Nat.le_refl _) (Nat.le_refl _) ?_
    exact FP.pI ((if_neg c1).trans (rfl))
noncomputable def L_X10_howManyThrows_4 (o : Nat) : Nat → HSt → Int32 → Int32 → Int32 × Int32
  | 0, S, v1, v2 => (v1, v2)
  | n + 1, S, v1, v2 =>
    if (gI S (o + 1) (5 : Int32).toNatClampNeg) ≤ v2 then ((pr (v1) (v2))) else (bd ((if (f_X10_isA S o v2 (4 : Int32)) = 0 then v1 else (v1 + (1 : Int32)))) fun x1003 => L_X10_howManyThrows_4 o n S x1003 (v2 + (1 : Int32)))
def T_X10_howManyThrows_4 (o : Nat) : Nat → HSt → Int32 → Int32 → Prop
  | 0, _, _, _ => False
  | n + 1, S, v1, v2 => ((¬ (gI S (o + 1) (5 : Int32).toNatClampNeg) ≤ v2) → p_X10_isA S o v2 (4 : Int32)) ∧ ((¬ (gI S (o + 1) (5 : Int32).toNatClampNeg) ≤ v2) → ∀ x1003 : Int32, (if (f_X10_isA S o v2 (4 : Int32)) = 0 then v1 else (v1 + (1 : Int32))) = x1003 → T_X10_howManyThrows_4 o n S x1003 (v2 + (1 : Int32)))
set_option maxRecDepth 100000 in
theorem l_X10_howManyThrows_4 {p : Program} {l : Launch} {e : Env} {s : State} {m : MethodId} {args : Array Value} {below : List Frame} {meth : Method} {c : Code} {G : GG} {Q : State → Prop} (hC : ACx p s m args meth c cX10_howManyThrows RX10 3 (some .int)) (hSt : St G s) {o : Nat} (ho : (o, 10, 0) ∈ cKT) : ∀ (n : Nat) (S : HSt) (v1 : Int32) (v2 : Int32), CS S → T_X10_howManyThrows_4 o n S v1 v2 → AW p l e (rmD 3 0 0) s m args below meth c G 3 Q S 0 0 32 [(0, .ref o), (1, .int (L_X10_howManyThrows_4 o n S v1 v2).1), (2, .int (L_X10_howManyThrows_4 o n S v1 v2).2)] [] → AW p l e (rmD 3 0 0) s m args below meth c G 3 Q S 0 0 4 [(0, .ref o), (1, .int v1), (2, .int v2)] [] := by
  intro n
  induction n with
  | zero => intro S v1 v2 _ hT; exact hT.elim
  | succ n ih =>
    intro S v1 v2 hM hT hk
    unfold T_X10_howManyThrows_4 at hT
    obtain ⟨h0, h1⟩ := hT
    refine aw_iload_n hC 2 dX10_howManyThrows_4 rfl rfl ?_
    refine aw_aload_n hC 0 dX10_howManyThrows_5 rfl rfl ?_
    refine aw_getP (b := (o + 1)) hC hSt 0 (cs_lt o 10 0 ho hM) (cs_k o 10 0 ho hM) rfl (by decide) w_153 rfl (cs_p o 0 (o + 1) (wy_pcounts ho) hM) dX10_howManyThrows_6 ?_
    refine aw_iconst (v := 5) hC dX10_howManyThrows_9 (by decide) ?_
    refine aw_iald hC hSt (cs_lt (o + 1) 14 6 (wy_counts ho) hM) (cs_k (o + 1) 14 6 (wy_counts ho) hM) (vp_len (n := 6) (cs_l (o + 1) 14 6 (wy_counts ho) hM) (by unfold vp_in; decide)) dX10_howManyThrows_10 ?_
    refine aw_icmp_ge hC 32 dX10_howManyThrows_11 (by decide) (fun c1001 => ?_) (fun c1001 => ?_)
    · refine aw_sub [0, 1, 2] rfl ?_
      have E : L_X10_howManyThrows_4 o (n + 1) S v1 v2 = _ := (if_pos c1001).trans (rfl)
      rw [E] at hk
      exact hk
    · refine aw_aload_n hC 0 dX10_howManyThrows_14 rfl rfl ?_
      refine aw_iload_n hC 2 dX10_howManyThrows_15 rfl rfl ?_
      refine aw_iconst (v := 4) hC dX10_howManyThrows_16 (by decide) ?_
      refine aw_cV2r hC hSt (t_X10_isA G l hM _ _ _ ho (h0 c1001)) w_496 w_668 w_547 w_548 w_18 rfl rfl (by decide +kernel) ⟨Nat.le_of_ble_eq_true rfl, Nat.le_of_ble_eq_true rfl⟩ (cs_lt o 10 0 ho hM) (cs_k o 10 0 ho hM) rfl (Nat.le_of_ble_eq_true rfl) dX10_howManyThrows_17 ⟨Nat.zero_le _, Nat.zero_le _⟩ ?_
      refine aw_cut (S' := S) (pc' := 26) (lv' := [(0, .ref o), (1, .int (if (f_X10_isA S o v2 (4 : Int32)) = 0 then v1 else (v1 + (1 : Int32)))), (2, .int v2)]) (st' := []) ?_ (fun Jc1002 => ?_)
      · generalize ex1003 : (if (f_X10_isA S o v2 (4 : Int32)) = 0 then v1 else (v1 + (1 : Int32))) = x1003
        refine aw_iinc (v := (v2 + (1 : Int32))) hC 2 [(2, .int _), (0, .ref o), (1, .int _)] dX10_howManyThrows_26 rfl rfl (by decide) rfl ?_
        refine aw_goto hC 4 dX10_howManyThrows_29 (by decide) ?_
        refine aw_sub [1, 2, 0] rfl ?_
        have hTn := (h1 c1001 x1003 ex1003)
        have hMn : CS S := hM
        have E : L_X10_howManyThrows_4 o (n + 1) S v1 v2 = _ := (if_neg c1001).trans ((bd_eq ex1003).trans (rfl))
        rw [E] at hk
        exact ih _ _ _ hMn hTn hk
      · refine aw_if_eq hC 26 dX10_howManyThrows_20 (by decide) (fun c1002 => ?_) (fun c1002 => ?_)
        · simp only [bd_def, if_pos c1002] at Jc1002 ⊢
          exact Jc1002
        · refine aw_iinc (v := (v1 + (1 : Int32))) hC 1 [(1, .int _), (0, .ref o), (2, .int _)] dX10_howManyThrows_23 rfl rfl (by decide) rfl ?_
          refine aw_sub [1, 0, 2] rfl ?_
          simp only [bd_def, if_neg c1002] at Jc1002 ⊢
          exact Jc1002
noncomputable def F_X10_howManyThrows (S : HSt) (o : Nat) : Int32 × HSt := bd (L_X10_howManyThrows_4 o 1000 S (0 : Int32) (0 : Int32)) fun r1 => pr (r1.1) (S)
noncomputable def f_X10_howManyThrows (S : HSt) (o : Nat) : Int32 := (F_X10_howManyThrows S o).1
def p_X10_howManyThrows (S : HSt) (o : Nat) : Prop := (T_X10_howManyThrows_4 o 1000 S (0 : Int32) (0 : Int32))
set_option maxRecDepth 100000 in
theorem t_X10_howManyThrows (G : GG) (l : Launch) {S : HSt} (hM : CS S) (o : Nat) (ho : (o, 10, 0) ∈ cKT) (hp : p_X10_howManyThrows S o) : AM G l yX10_howManyThrows cX10_howManyThrows 3 (some .int) (rmD 3 0 0) 0 0 [.ref o] S (FP (some (.int (f_X10_howManyThrows S o))) (S)) := by
  have h0 := hp
  unfold p_X10_howManyThrows at h0
  refine AM.mk (by decide) (Nat.le_of_ble_eq_true rfl) ?_
  intro p e s m below meth c hC hSt _
  refine aw_iconst (v := 0) hC dX10_howManyThrows_0 (by decide) ?_
  refine aw_istore_n hC [(1, .int _), (0, .ref o)] dX10_howManyThrows_1 rfl (by decide) rfl ?_
  refine aw_iconst (v := 0) hC dX10_howManyThrows_2 (by decide) ?_
  refine aw_istore_n hC [(2, .int _), (1, .int _), (0, .ref o)] dX10_howManyThrows_3 rfl (by decide) rfl ?_
  refine aw_sub [2, 1, 0] rfl ?_
  refine l_X10_howManyThrows_4 hC hSt ho 1000 _ _ _ hM (h0) ?_
  generalize er1 : L_X10_howManyThrows_4 o 1000 S (0 : Int32) (0 : Int32) = r1
  refine aw_iload_n hC 1 dX10_howManyThrows_32 rfl rfl ?_
  refine aw_iret hC dX10_howManyThrows_33 (Nat.le_refl _) (Nat.le_refl _) ?_
  exact FP.pI ((bd_eq er1).trans (rfl))
noncomputable def f_X1_fallToHand (S : HSt) (o : Nat) : HSt := bd ((sI S o 0 (20 : Int32))) fun S1 => bd ((sI S1 o 1 (0 : Int32))) fun S2 => bd ((sI S2 o 2 (0 : Int32))) fun S3 => bd ((sI S3 o 6 (0 : Int32))) fun S4 => bd ((sI S4 o 5 (-1000000 : Int32))) fun S5 => bd ((sI S5 o 4 ((gI S5 o 4) + (1 : Int32)))) fun S6 => S6
set_option maxRecDepth 100000 in
theorem t_X1_fallToHand (G : GG) (l : Launch) {S : HSt} (hM : CS S) (o : Nat) (ho : (o, 1, 0) ∈ cKT)  : AM G l yX1_fallToHand cX1_fallToHand 1 none (rmD 0 0 0) 0 0 [.ref o] S (FP none (f_X1_fallToHand S o)) := by
  refine AM.mk (by decide) (Nat.le_of_ble_eq_true rfl) ?_
  intro p e s m below meth c hC hSt _
  refine aw_aload_n hC 0 dX1_fallToHand_0 rfl rfl ?_
  refine aw_bipush (v := 20) hC dX1_fallToHand_1 (by decide) ?_
  refine aw_putI hC hSt 0 (cs_lt o 1 0 ho hM) (cs_k o 1 0 ho hM) rfl (by decide) w_72 rfl rfl rfl rfl dX1_fallToHand_3 ?_
  generalize eS1 : (sI S o 0 (20 : Int32)) = S1
  have hM : CS S1 := CS.of (by rw [← eS1]; exact shp_sI _ _ _ _) hM
  refine aw_aload_n hC 0 dX1_fallToHand_6 rfl rfl ?_
  refine aw_iconst (v := 0) hC dX1_fallToHand_7 (by decide) ?_
  refine aw_putI hC hSt 1 (cs_lt o 1 0 ho hM) (cs_k o 1 0 ho hM) rfl (by decide) w_73 rfl rfl rfl rfl dX1_fallToHand_8 ?_
  generalize eS2 : (sI S1 o 1 (0 : Int32)) = S2
  have hM : CS S2 := CS.of (by rw [← eS2]; exact shp_sI _ _ _ _) hM
  refine aw_aload_n hC 0 dX1_fallToHand_11 rfl rfl ?_
  refine aw_iconst (v := 0) hC dX1_fallToHand_12 (by decide) ?_
  refine aw_putI hC hSt 2 (cs_lt o 1 0 ho hM) (cs_k o 1 0 ho hM) rfl (by decide) w_74 rfl rfl rfl rfl dX1_fallToHand_13 ?_
  generalize eS3 : (sI S2 o 2 (0 : Int32)) = S3
  have hM : CS S3 := CS.of (by rw [← eS3]; exact shp_sI _ _ _ _) hM
  refine aw_aload_n hC 0 dX1_fallToHand_16 rfl rfl ?_
  refine aw_iconst (v := 0) hC dX1_fallToHand_17 (by decide) ?_
  refine aw_putI hC hSt 6 (cs_lt o 1 0 ho hM) (cs_k o 1 0 ho hM) rfl (by decide) w_75 rfl rfl (by decide) (by decide) dX1_fallToHand_18 ?_
  generalize eS4 : (sI S3 o 6 (0 : Int32)) = S4
  have hM : CS S4 := CS.of (by rw [← eS4]; exact shp_sI _ _ _ _) hM
  refine aw_aload_n hC 0 dX1_fallToHand_21 rfl rfl ?_
  refine aw_ldc (v := -1000000) hC w_76 dX1_fallToHand_22 ?_
  refine aw_putI hC hSt 5 (cs_lt o 1 0 ho hM) (cs_k o 1 0 ho hM) rfl (by decide) w_77 rfl rfl rfl rfl dX1_fallToHand_24 ?_
  generalize eS5 : (sI S4 o 5 (-1000000 : Int32)) = S5
  have hM : CS S5 := CS.of (by rw [← eS5]; exact shp_sI _ _ _ _) hM
  refine aw_aload_n hC 0 dX1_fallToHand_27 rfl rfl ?_
  refine aw_dup hC dX1_fallToHand_28 rfl ?_
  refine aw_getI hC hSt 4 (cs_lt o 1 0 ho hM) (cs_k o 1 0 ho hM) rfl (by decide) w_78 rfl dX1_fallToHand_29 ?_
  refine aw_iconst (v := 1) hC dX1_fallToHand_32 (by decide) ?_
  refine aw_iadd hC dX1_fallToHand_33 ?_
  refine aw_putI hC hSt 4 (cs_lt o 1 0 ho hM) (cs_k o 1 0 ho hM) rfl (by decide) w_78 rfl rfl rfl rfl dX1_fallToHand_34 ?_
  generalize eS6 : (sI S5 o 4 ((gI S5 o 4) + (1 : Int32))) = S6
  have hM : CS S6 := CS.of (by rw [← eS6]; exact shp_sI _ _ _ _) hM
  refine aw_vret hC dX1_fallToHand_37 (Nat.le_refl _) (Nat.le_refl _) ?_
  exact FP.qV ((bd_eq eS1).trans ((bd_eq eS2).trans ((bd_eq eS3).trans ((bd_eq eS4).trans ((bd_eq eS5).trans ((bd_eq eS6).trans (rfl)))))))
theorem q_X1_fallToHand (S : HSt) (o : Nat) : shp (f_X1_fallToHand S o) = shp S := by
  unfold f_X1_fallToHand
  repeat' (first | with_reducible rfl | with_reducible refine (shp_sI _ _ _ _).trans ?_ | with_reducible refine (shp_sJ _ _ _ _).trans ?_ | with_reducible refine (shp_rI _ _ _).trans ?_ | with_reducible refine shi ?_ ?_ | with_reducible refine shb (fun _ _ => ?_) | (subst_vars; with_reducible rfl) | (subst_vars; with_reducible refine (shp_sI _ _ _ _).trans ?_) | (subst_vars; with_reducible refine (shp_sJ _ _ _ _).trans ?_) | (subst_vars; with_reducible refine (shp_rI _ _ _).trans ?_) | (subst_vars; with_reducible refine shi ?_ ?_) | (subst_vars; with_reducible refine shb (fun _ _ => ?_)))
theorem v_X1_fallToHand (S : HSt) (o : Nat) : Fr [(o, 0), (o, 1), (o, 2), (o, 4), (o, 5), (o, 6)] S (f_X1_fallToHand S o) := by
  unfold f_X1_fallToHand
  repeat' (first | with_reducible exact Fr.refl _ _ | with_reducible refine Fr.l1 (fun _ _ => ?_) | with_reducible refine Fr.ite ?_ ?_ | with_reducible refine Fr.sE (by assumption) (by first | decide | simp only [List.mem_cons, List.not_mem_nil, or_false, true_or, or_true, eq_self_iff_true]) ?_ | with_reducible refine Fr.jE (by assumption) ?_ | with_reducible refine Fr.rE (by assumption) (by first | decide | simp only [List.mem_cons, List.not_mem_nil, or_false, true_or, or_true, eq_self_iff_true]) ?_ | with_reducible refine Fr.iE (by assumption) ?_ ?_)
theorem w_X1_fallToHand (S : HSt) (o : Nat) (r : HSt) (e : f_X1_fallToHand S o = r) : Fr [(o, 0), (o, 1), (o, 2), (o, 4), (o, 5), (o, 6)] S r := by
  rw [← e]
  exact v_X1_fallToHand S o
noncomputable def f_X1_begin (S : HSt) (o : Nat) : HSt := bd (f_X1_fallToHand S o) fun r1 => bd ((sI r1 o 3 (0 : Int32))) fun S2 => bd ((sI S2 o 4 (0 : Int32))) fun S3 => S3
set_option maxRecDepth 100000 in
theorem t_X1_begin (G : GG) (l : Launch) {S : HSt} (hM : CS S) (o : Nat) (ho : (o, 1, 0) ∈ cKT)  : AM G l yX1_begin cX1_begin 1 none (rmD 1 0 0) 0 0 [.ref o] S (FP none (f_X1_begin S o)) := by
  refine AM.mk (by decide) (Nat.le_of_ble_eq_true rfl) ?_
  intro p e s m below meth c hC hSt _
  refine aw_aload_n hC 0 dX1_begin_0 rfl rfl ?_
  refine aw_cV0v hC hSt (t_X1_fallToHand G l hM _ ho) w_71 w_81 w_82 w_83 w_84 rfl rfl (by decide +kernel) ⟨Nat.le_of_ble_eq_true rfl, Nat.le_of_ble_eq_true rfl⟩ (cs_lt o 1 0 ho hM) (cs_k o 1 0 ho hM) rfl (Nat.le_of_ble_eq_true rfl) dX1_begin_1 ⟨Nat.zero_le _, Nat.zero_le _⟩ ?_
  generalize er1 : f_X1_fallToHand S o = r1
  have hM : CS r1 := CS.of (by rw [← er1]; exact q_X1_fallToHand _ _) hM
  refine aw_aload_n hC 0 dX1_begin_4 rfl rfl ?_
  refine aw_iconst (v := 0) hC dX1_begin_5 (by decide) ?_
  refine aw_putI hC hSt 3 (cs_lt o 1 0 ho hM) (cs_k o 1 0 ho hM) rfl (by decide) w_80 rfl rfl rfl rfl dX1_begin_6 ?_
  generalize eS2 : (sI r1 o 3 (0 : Int32)) = S2
  have hM : CS S2 := CS.of (by rw [← eS2]; exact shp_sI _ _ _ _) hM
  refine aw_aload_n hC 0 dX1_begin_9 rfl rfl ?_
  refine aw_iconst (v := 0) hC dX1_begin_10 (by decide) ?_
  refine aw_putI hC hSt 4 (cs_lt o 1 0 ho hM) (cs_k o 1 0 ho hM) rfl (by decide) w_78 rfl rfl rfl rfl dX1_begin_11 ?_
  generalize eS3 : (sI S2 o 4 (0 : Int32)) = S3
  have hM : CS S3 := CS.of (by rw [← eS3]; exact shp_sI _ _ _ _) hM
  refine aw_vret hC dX1_begin_14 (Nat.le_refl _) (Nat.le_refl _) ?_
  exact FP.qV ((bd_eq er1).trans ((bd_eq eS2).trans ((bd_eq eS3).trans (rfl))))
theorem q_X1_begin (S : HSt) (o : Nat) : shp (f_X1_begin S o) = shp S := by
  unfold f_X1_begin
  repeat' (first | with_reducible rfl | with_reducible refine (q_X1_fallToHand _ _).trans ?_ | with_reducible refine (shp_sI _ _ _ _).trans ?_ | with_reducible refine (shp_sJ _ _ _ _).trans ?_ | with_reducible refine (shp_rI _ _ _).trans ?_ | with_reducible refine shi ?_ ?_ | with_reducible refine shb (fun _ _ => ?_) | (subst_vars; with_reducible rfl) | (subst_vars; with_reducible refine (q_X1_fallToHand _ _).trans ?_) | (subst_vars; with_reducible refine (shp_sI _ _ _ _).trans ?_) | (subst_vars; with_reducible refine (shp_sJ _ _ _ _).trans ?_) | (subst_vars; with_reducible refine (shp_rI _ _ _).trans ?_) | (subst_vars; with_reducible refine shi ?_ ?_) | (subst_vars; with_reducible refine shb (fun _ _ => ?_)))
theorem v_X1_begin (S : HSt) (o : Nat) : Fr [(o, 0), (o, 1), (o, 2), (o, 3), (o, 4), (o, 5), (o, 6)] S (f_X1_begin S o) := by
  unfold f_X1_begin
  repeat' (first | with_reducible exact Fr.refl _ _ | with_reducible refine Fr.l1 (fun _ _ => ?_) | with_reducible refine Fr.ite ?_ ?_ | with_reducible refine Fr.sE (by assumption) (by first | decide | simp only [List.mem_cons, List.not_mem_nil, or_false, true_or, or_true, eq_self_iff_true]) ?_ | with_reducible refine Fr.jE (by assumption) ?_ | with_reducible refine Fr.rE (by assumption) (by first | decide | simp only [List.mem_cons, List.not_mem_nil, or_false, true_or, or_true, eq_self_iff_true]) ?_ | with_reducible refine Fr.iE (by assumption) ?_ ?_ | with_reducible refine Fr.tr (w_X1_fallToHand _ _ _ (by assumption)) (by first | decide | simp only [List.mem_cons, List.not_mem_nil, or_false, forall_eq_or_imp, forall_eq, true_or, or_true, and_self, eq_self_iff_true]) ?_)
theorem w_X1_begin (S : HSt) (o : Nat) (r : HSt) (e : f_X1_begin S o = r) : Fr [(o, 0), (o, 1), (o, 2), (o, 3), (o, 4), (o, 5), (o, 6)] S r := by
  rw [← e]
  exact v_X1_begin S o
noncomputable def f_X1_gather (S : HSt) (o : Nat) : HSt := bd (f_X1_fallToHand S o) fun r1 => bd ((sI r1 o 3 ((gI r1 o 3) / (2 : Int32)))) fun S2 => S2
set_option maxRecDepth 100000 in
theorem t_X1_gather (G : GG) (l : Launch) {S : HSt} (hM : CS S) (o : Nat) (ho : (o, 1, 0) ∈ cKT)  : AM G l yX1_gather cX1_gather 1 none (rmD 1 0 0) 0 0 [.ref o] S (FP none (f_X1_gather S o)) := by
  refine AM.mk (by decide) (Nat.le_of_ble_eq_true rfl) ?_
  intro p e s m below meth c hC hSt _
  refine aw_aload_n hC 0 dX1_gather_0 rfl rfl ?_
  refine aw_cV0v hC hSt (t_X1_fallToHand G l hM _ ho) w_71 w_81 w_82 w_83 w_84 rfl rfl (by decide +kernel) ⟨Nat.le_of_ble_eq_true rfl, Nat.le_of_ble_eq_true rfl⟩ (cs_lt o 1 0 ho hM) (cs_k o 1 0 ho hM) rfl (Nat.le_of_ble_eq_true rfl) dX1_gather_1 ⟨Nat.zero_le _, Nat.zero_le _⟩ ?_
  generalize er1 : f_X1_fallToHand S o = r1
  have hM : CS r1 := CS.of (by rw [← er1]; exact q_X1_fallToHand _ _) hM
  refine aw_aload_n hC 0 dX1_gather_4 rfl rfl ?_
  refine aw_dup hC dX1_gather_5 rfl ?_
  refine aw_getI hC hSt 3 (cs_lt o 1 0 ho hM) (cs_k o 1 0 ho hM) rfl (by decide) w_80 rfl dX1_gather_6 ?_
  refine aw_iconst (v := 2) hC dX1_gather_9 (by decide) ?_
  refine aw_idiv hC dX1_gather_10 (by decide) ?_
  refine aw_putI hC hSt 3 (cs_lt o 1 0 ho hM) (cs_k o 1 0 ho hM) rfl (by decide) w_80 rfl rfl rfl rfl dX1_gather_11 ?_
  generalize eS2 : (sI r1 o 3 ((gI r1 o 3) / (2 : Int32))) = S2
  have hM : CS S2 := CS.of (by rw [← eS2]; exact shp_sI _ _ _ _) hM
  refine aw_vret hC dX1_gather_14 (Nat.le_refl _) (Nat.le_refl _) ?_
  exact FP.qV ((bd_eq er1).trans ((bd_eq eS2).trans (rfl)))
theorem q_X1_gather (S : HSt) (o : Nat) : shp (f_X1_gather S o) = shp S := by
  unfold f_X1_gather
  repeat' (first | with_reducible rfl | with_reducible refine (q_X1_fallToHand _ _).trans ?_ | with_reducible refine (shp_sI _ _ _ _).trans ?_ | with_reducible refine (shp_sJ _ _ _ _).trans ?_ | with_reducible refine (shp_rI _ _ _).trans ?_ | with_reducible refine shi ?_ ?_ | with_reducible refine shb (fun _ _ => ?_) | (subst_vars; with_reducible rfl) | (subst_vars; with_reducible refine (q_X1_fallToHand _ _).trans ?_) | (subst_vars; with_reducible refine (shp_sI _ _ _ _).trans ?_) | (subst_vars; with_reducible refine (shp_sJ _ _ _ _).trans ?_) | (subst_vars; with_reducible refine (shp_rI _ _ _).trans ?_) | (subst_vars; with_reducible refine shi ?_ ?_) | (subst_vars; with_reducible refine shb (fun _ _ => ?_)))
theorem v_X1_gather (S : HSt) (o : Nat) : Fr [(o, 0), (o, 1), (o, 2), (o, 3), (o, 4), (o, 5), (o, 6)] S (f_X1_gather S o) := by
  unfold f_X1_gather
  repeat' (first | with_reducible exact Fr.refl _ _ | with_reducible refine Fr.l1 (fun _ _ => ?_) | with_reducible refine Fr.ite ?_ ?_ | with_reducible refine Fr.sE (by assumption) (by first | decide | simp only [List.mem_cons, List.not_mem_nil, or_false, true_or, or_true, eq_self_iff_true]) ?_ | with_reducible refine Fr.jE (by assumption) ?_ | with_reducible refine Fr.rE (by assumption) (by first | decide | simp only [List.mem_cons, List.not_mem_nil, or_false, true_or, or_true, eq_self_iff_true]) ?_ | with_reducible refine Fr.iE (by assumption) ?_ ?_ | with_reducible refine Fr.tr (w_X1_fallToHand _ _ _ (by assumption)) (by first | decide | simp only [List.mem_cons, List.not_mem_nil, or_false, forall_eq_or_imp, forall_eq, true_or, or_true, and_self, eq_self_iff_true]) ?_)
theorem w_X1_gather (S : HSt) (o : Nat) (r : HSt) (e : f_X1_gather S o = r) : Fr [(o, 0), (o, 1), (o, 2), (o, 3), (o, 4), (o, 5), (o, 6)] S r := by
  rw [← e]
  exact v_X1_gather S o
noncomputable def f_X1_copyFrom (S : HSt) (o : Nat) (lp1 : Nat) : HSt := bd ((sI S o 0 (gI S lp1 0))) fun S1 => bd ((sI S1 o 1 (gI S1 lp1 1))) fun S2 => bd ((sI S2 o 2 (gI S2 lp1 2))) fun S3 => bd ((sI S3 o 3 (gI S3 lp1 3))) fun S4 => bd ((sI S4 o 4 (gI S4 lp1 4))) fun S5 => bd ((sI S5 o 5 (gI S5 lp1 5))) fun S6 => bd ((sI S6 o 6 (gI S6 lp1 6))) fun S7 => S7
def p_X1_copyFrom (S : HSt) (o : Nat) (lp1 : Nat) : Prop := (∀ S1 : HSt, (sI S o 0 (gI S lp1 0)) = S1 → ∀ S2 : HSt, (sI S1 o 1 (gI S1 lp1 1)) = S2 → ∀ S3 : HSt, (sI S2 o 2 (gI S2 lp1 2)) = S3 → ∀ S4 : HSt, (sI S3 o 3 (gI S3 lp1 3)) = S4 → ∀ S5 : HSt, (sI S4 o 4 (gI S4 lp1 4)) = S5 → ∀ S6 : HSt, (sI S5 o 5 (gI S5 lp1 5)) = S6 → Bz (gI S6 lp1 6))
set_option maxRecDepth 100000 in
theorem t_X1_copyFrom (G : GG) (l : Launch) {S : HSt} (hM : CS S) (o : Nat) (lp1 : Nat) (ho : (o, 1, 0) ∈ cKT) (hlp1 : (lp1, 1, 0) ∈ cKT) (hp : p_X1_copyFrom S o lp1) : AM G l yX1_copyFrom cX1_copyFrom 2 none (rmD 0 0 0) 0 0 [.ref o, .ref lp1] S (FP none (f_X1_copyFrom S o lp1)) := by
  have h0 := hp
  unfold p_X1_copyFrom at h0
  refine AM.mk (by decide) (Nat.le_of_ble_eq_true rfl) ?_
  intro p e s m below meth c hC hSt _
  refine aw_aload_n hC 0 dX1_copyFrom_0 rfl rfl ?_
  refine aw_aload_n hC 1 dX1_copyFrom_1 rfl rfl ?_
  refine aw_getI hC hSt 0 (cs_lt lp1 1 0 hlp1 hM) (cs_k lp1 1 0 hlp1 hM) rfl (by decide) w_72 rfl dX1_copyFrom_2 ?_
  refine aw_putI hC hSt 0 (cs_lt o 1 0 ho hM) (cs_k o 1 0 ho hM) rfl (by decide) w_72 rfl rfl rfl rfl dX1_copyFrom_5 ?_
  generalize eS1 : (sI S o 0 (gI S lp1 0)) = S1
  have hM : CS S1 := CS.of (by rw [← eS1]; exact shp_sI _ _ _ _) hM
  refine aw_aload_n hC 0 dX1_copyFrom_8 rfl rfl ?_
  refine aw_aload_n hC 1 dX1_copyFrom_9 rfl rfl ?_
  refine aw_getI hC hSt 1 (cs_lt lp1 1 0 hlp1 hM) (cs_k lp1 1 0 hlp1 hM) rfl (by decide) w_73 rfl dX1_copyFrom_10 ?_
  refine aw_putI hC hSt 1 (cs_lt o 1 0 ho hM) (cs_k o 1 0 ho hM) rfl (by decide) w_73 rfl rfl rfl rfl dX1_copyFrom_13 ?_
  generalize eS2 : (sI S1 o 1 (gI S1 lp1 1)) = S2
  have hM : CS S2 := CS.of (by rw [← eS2]; exact shp_sI _ _ _ _) hM
  refine aw_aload_n hC 0 dX1_copyFrom_16 rfl rfl ?_
  refine aw_aload_n hC 1 dX1_copyFrom_17 rfl rfl ?_
  refine aw_getI hC hSt 2 (cs_lt lp1 1 0 hlp1 hM) (cs_k lp1 1 0 hlp1 hM) rfl (by decide) w_74 rfl dX1_copyFrom_18 ?_
  refine aw_putI hC hSt 2 (cs_lt o 1 0 ho hM) (cs_k o 1 0 ho hM) rfl (by decide) w_74 rfl rfl rfl rfl dX1_copyFrom_21 ?_
  generalize eS3 : (sI S2 o 2 (gI S2 lp1 2)) = S3
  have hM : CS S3 := CS.of (by rw [← eS3]; exact shp_sI _ _ _ _) hM
  refine aw_aload_n hC 0 dX1_copyFrom_24 rfl rfl ?_
  refine aw_aload_n hC 1 dX1_copyFrom_25 rfl rfl ?_
  refine aw_getI hC hSt 3 (cs_lt lp1 1 0 hlp1 hM) (cs_k lp1 1 0 hlp1 hM) rfl (by decide) w_80 rfl dX1_copyFrom_26 ?_
  refine aw_putI hC hSt 3 (cs_lt o 1 0 ho hM) (cs_k o 1 0 ho hM) rfl (by decide) w_80 rfl rfl rfl rfl dX1_copyFrom_29 ?_
  generalize eS4 : (sI S3 o 3 (gI S3 lp1 3)) = S4
  have hM : CS S4 := CS.of (by rw [← eS4]; exact shp_sI _ _ _ _) hM
  refine aw_aload_n hC 0 dX1_copyFrom_32 rfl rfl ?_
  refine aw_aload_n hC 1 dX1_copyFrom_33 rfl rfl ?_
  refine aw_getI hC hSt 4 (cs_lt lp1 1 0 hlp1 hM) (cs_k lp1 1 0 hlp1 hM) rfl (by decide) w_78 rfl dX1_copyFrom_34 ?_
  refine aw_putI hC hSt 4 (cs_lt o 1 0 ho hM) (cs_k o 1 0 ho hM) rfl (by decide) w_78 rfl rfl rfl rfl dX1_copyFrom_37 ?_
  generalize eS5 : (sI S4 o 4 (gI S4 lp1 4)) = S5
  have hM : CS S5 := CS.of (by rw [← eS5]; exact shp_sI _ _ _ _) hM
  refine aw_aload_n hC 0 dX1_copyFrom_40 rfl rfl ?_
  refine aw_aload_n hC 1 dX1_copyFrom_41 rfl rfl ?_
  refine aw_getI hC hSt 5 (cs_lt lp1 1 0 hlp1 hM) (cs_k lp1 1 0 hlp1 hM) rfl (by decide) w_77 rfl dX1_copyFrom_42 ?_
  refine aw_putI hC hSt 5 (cs_lt o 1 0 ho hM) (cs_k o 1 0 ho hM) rfl (by decide) w_77 rfl rfl rfl rfl dX1_copyFrom_45 ?_
  generalize eS6 : (sI S5 o 5 (gI S5 lp1 5)) = S6
  have hM : CS S6 := CS.of (by rw [← eS6]; exact shp_sI _ _ _ _) hM
  refine aw_aload_n hC 0 dX1_copyFrom_48 rfl rfl ?_
  refine aw_aload_n hC 1 dX1_copyFrom_49 rfl rfl ?_
  refine aw_getI hC hSt 6 (cs_lt lp1 1 0 hlp1 hM) (cs_k lp1 1 0 hlp1 hM) rfl (by decide) w_75 rfl dX1_copyFrom_50 ?_
  refine aw_putI hC hSt 6 (cs_lt o 1 0 ho hM) (cs_k o 1 0 ho hM) rfl (by decide) w_75 rfl rfl (Bz.n (h0 S1 eS1 S2 eS2 S3 eS3 S4 eS4 S5 eS5 S6 eS6)) (Bz.f (h0 S1 eS1 S2 eS2 S3 eS3 S4 eS4 S5 eS5 S6 eS6)) dX1_copyFrom_53 ?_
  generalize eS7 : (sI S6 o 6 (gI S6 lp1 6)) = S7
  have hM : CS S7 := CS.of (by rw [← eS7]; exact shp_sI _ _ _ _) hM
  refine aw_vret hC dX1_copyFrom_56 (Nat.le_refl _) (Nat.le_refl _) ?_
  exact FP.qV ((bd_eq eS1).trans ((bd_eq eS2).trans ((bd_eq eS3).trans ((bd_eq eS4).trans ((bd_eq eS5).trans ((bd_eq eS6).trans ((bd_eq eS7).trans (rfl))))))))
theorem q_X1_copyFrom (S : HSt) (o : Nat) (lp1 : Nat) : shp (f_X1_copyFrom S o lp1) = shp S := by
  unfold f_X1_copyFrom
  repeat' (first | with_reducible rfl | with_reducible refine (shp_sI _ _ _ _).trans ?_ | with_reducible refine (shp_sJ _ _ _ _).trans ?_ | with_reducible refine (shp_rI _ _ _).trans ?_ | with_reducible refine shi ?_ ?_ | with_reducible refine shb (fun _ _ => ?_) | (subst_vars; with_reducible rfl) | (subst_vars; with_reducible refine (shp_sI _ _ _ _).trans ?_) | (subst_vars; with_reducible refine (shp_sJ _ _ _ _).trans ?_) | (subst_vars; with_reducible refine (shp_rI _ _ _).trans ?_) | (subst_vars; with_reducible refine shi ?_ ?_) | (subst_vars; with_reducible refine shb (fun _ _ => ?_)))
theorem v_X1_copyFrom (S : HSt) (o : Nat) (lp1 : Nat) : Fr [(o, 0), (o, 1), (o, 2), (o, 3), (o, 4), (o, 5), (o, 6)] S (f_X1_copyFrom S o lp1) := by
  unfold f_X1_copyFrom
  repeat' (first | with_reducible exact Fr.refl _ _ | with_reducible refine Fr.l1 (fun _ _ => ?_) | with_reducible refine Fr.ite ?_ ?_ | with_reducible refine Fr.sE (by assumption) (by first | decide | simp only [List.mem_cons, List.not_mem_nil, or_false, true_or, or_true, eq_self_iff_true]) ?_ | with_reducible refine Fr.jE (by assumption) ?_ | with_reducible refine Fr.rE (by assumption) (by first | decide | simp only [List.mem_cons, List.not_mem_nil, or_false, true_or, or_true, eq_self_iff_true]) ?_ | with_reducible refine Fr.iE (by assumption) ?_ ?_)
theorem w_X1_copyFrom (S : HSt) (o : Nat) (lp1 : Nat) (r : HSt) (e : f_X1_copyFrom S o lp1 = r) : Fr [(o, 0), (o, 1), (o, 2), (o, 3), (o, 4), (o, 5), (o, 6)] S r := by
  rw [← e]
  exact v_X1_copyFrom S o lp1
noncomputable def F_X1_isLike (S : HSt) (o : Nat) (lp1 : Nat) : Int32 × HSt := bd ((if (gI S o 0) = (gI S lp1 0) then (if (gI S o 1) = (gI S lp1 1) then (if (gI S o 2) = (gI S lp1 2) then (if (gI S o 3) = (gI S lp1 3) then (if (gI S o 4) = (gI S lp1 4) then (if (gI S o 6) = (gI S lp1 6) then (1 : Int32) else (0 : Int32)) else (0 : Int32)) else (0 : Int32)) else (0 : Int32)) else (0 : Int32)) else (0 : Int32))) fun x7 => pr (x7) (S)
noncomputable def f_X1_isLike (S : HSt) (o : Nat) (lp1 : Nat) : Int32 := (F_X1_isLike S o lp1).1
set_option maxRecDepth 100000 in
theorem t_X1_isLike (G : GG) (l : Launch) {S : HSt} (hM : CS S) (o : Nat) (lp1 : Nat) (ho : (o, 1, 0) ∈ cKT) (hlp1 : (lp1, 1, 0) ∈ cKT)  : AM G l yX1_isLike cX1_isLike 2 (some .boolean) (rmD 0 0 0) 0 0 [.ref o, .ref lp1] S (FP (some (.int (f_X1_isLike S o lp1))) (S)) := by
  refine AM.mk (by decide) (Nat.le_of_ble_eq_true rfl) ?_
  intro p e s m below meth c hC hSt _
  refine aw_aload_n hC 0 dX1_isLike_0 rfl rfl ?_
  refine aw_getI hC hSt 0 (cs_lt o 1 0 ho hM) (cs_k o 1 0 ho hM) rfl (by decide) w_72 rfl dX1_isLike_1 ?_
  refine aw_aload_n hC 1 dX1_isLike_4 rfl rfl ?_
  refine aw_getI hC hSt 0 (cs_lt lp1 1 0 hlp1 hM) (cs_k lp1 1 0 hlp1 hM) rfl (by decide) w_72 rfl dX1_isLike_5 ?_
  refine aw_cut (S' := S) (pc' := 71) (lv' := [(0, .ref o), (1, .ref lp1)]) (st' := [.int (if (gI S o 0) = (gI S lp1 0) then (if (gI S o 1) = (gI S lp1 1) then (if (gI S o 2) = (gI S lp1 2) then (if (gI S o 3) = (gI S lp1 3) then (if (gI S o 4) = (gI S lp1 4) then (if (gI S o 6) = (gI S lp1 6) then (1 : Int32) else (0 : Int32)) else (0 : Int32)) else (0 : Int32)) else (0 : Int32)) else (0 : Int32)) else (0 : Int32))]) ?_ (fun Jc1 => ?_)
  · generalize ex7 : (if (gI S o 0) = (gI S lp1 0) then (if (gI S o 1) = (gI S lp1 1) then (if (gI S o 2) = (gI S lp1 2) then (if (gI S o 3) = (gI S lp1 3) then (if (gI S o 4) = (gI S lp1 4) then (if (gI S o 6) = (gI S lp1 6) then (1 : Int32) else (0 : Int32)) else (0 : Int32)) else (0 : Int32)) else (0 : Int32)) else (0 : Int32)) else (0 : Int32)) = x7
    refine aw_zret hC dX1_isLike_71 (Nat.le_refl _) (Nat.le_refl _) (Bz.n (ex7 ▸ (Bz.ite (Bz.ite (Bz.ite (Bz.ite (Bz.ite (Bz.ite (Or.inr rfl) (Or.inl rfl)) (Or.inl rfl)) (Or.inl rfl)) (Or.inl rfl)) (Or.inl rfl)) (Or.inl rfl)))) ?_
    exact FP.pI ((bd_eq ex7).trans (rfl))
  · refine aw_icmp_ne hC 70 dX1_isLike_8 (by decide) (fun c1 => ?_) (fun c1 => ?_)
    · refine aw_iconst (v := 0) hC dX1_isLike_70 (by decide) ?_
      simp only [bd_def, if_neg c1] at Jc1 ⊢
      exact Jc1
    · refine aw_aload_n hC 0 dX1_isLike_11 rfl rfl ?_
      refine aw_getI hC hSt 1 (cs_lt o 1 0 ho hM) (cs_k o 1 0 ho hM) rfl (by decide) w_73 rfl dX1_isLike_12 ?_
      refine aw_aload_n hC 1 dX1_isLike_15 rfl rfl ?_
      refine aw_getI hC hSt 1 (cs_lt lp1 1 0 hlp1 hM) (cs_k lp1 1 0 hlp1 hM) rfl (by decide) w_73 rfl dX1_isLike_16 ?_
      refine aw_icmp_ne hC 70 dX1_isLike_19 (by decide) (fun c2 => ?_) (fun c2 => ?_)
      · refine aw_iconst (v := 0) hC dX1_isLike_70 (by decide) ?_
        simp only [bd_def, if_pos c1, if_neg c2] at Jc1 ⊢
        exact Jc1
      · refine aw_aload_n hC 0 dX1_isLike_22 rfl rfl ?_
        refine aw_getI hC hSt 2 (cs_lt o 1 0 ho hM) (cs_k o 1 0 ho hM) rfl (by decide) w_74 rfl dX1_isLike_23 ?_
        refine aw_aload_n hC 1 dX1_isLike_26 rfl rfl ?_
        refine aw_getI hC hSt 2 (cs_lt lp1 1 0 hlp1 hM) (cs_k lp1 1 0 hlp1 hM) rfl (by decide) w_74 rfl dX1_isLike_27 ?_
        refine aw_icmp_ne hC 70 dX1_isLike_30 (by decide) (fun c3 => ?_) (fun c3 => ?_)
        · refine aw_iconst (v := 0) hC dX1_isLike_70 (by decide) ?_
          simp only [bd_def, if_pos c1, if_pos c2, if_neg c3] at Jc1 ⊢
          exact Jc1
        · refine aw_aload_n hC 0 dX1_isLike_33 rfl rfl ?_
          refine aw_getI hC hSt 3 (cs_lt o 1 0 ho hM) (cs_k o 1 0 ho hM) rfl (by decide) w_80 rfl dX1_isLike_34 ?_
          refine aw_aload_n hC 1 dX1_isLike_37 rfl rfl ?_
          refine aw_getI hC hSt 3 (cs_lt lp1 1 0 hlp1 hM) (cs_k lp1 1 0 hlp1 hM) rfl (by decide) w_80 rfl dX1_isLike_38 ?_
          refine aw_icmp_ne hC 70 dX1_isLike_41 (by decide) (fun c4 => ?_) (fun c4 => ?_)
          · refine aw_iconst (v := 0) hC dX1_isLike_70 (by decide) ?_
            simp only [bd_def, if_pos c1, if_pos c2, if_pos c3, if_neg c4] at Jc1 ⊢
            exact Jc1
          · refine aw_aload_n hC 0 dX1_isLike_44 rfl rfl ?_
            refine aw_getI hC hSt 4 (cs_lt o 1 0 ho hM) (cs_k o 1 0 ho hM) rfl (by decide) w_78 rfl dX1_isLike_45 ?_
            refine aw_aload_n hC 1 dX1_isLike_48 rfl rfl ?_
            refine aw_getI hC hSt 4 (cs_lt lp1 1 0 hlp1 hM) (cs_k lp1 1 0 hlp1 hM) rfl (by decide) w_78 rfl dX1_isLike_49 ?_
            refine aw_icmp_ne hC 70 dX1_isLike_52 (by decide) (fun c5 => ?_) (fun c5 => ?_)
            · refine aw_iconst (v := 0) hC dX1_isLike_70 (by decide) ?_
              simp only [bd_def, if_pos c1, if_pos c2, if_pos c3, if_pos c4, if_neg c5] at Jc1 ⊢
              exact Jc1
            · refine aw_aload_n hC 0 dX1_isLike_55 rfl rfl ?_
              refine aw_getI hC hSt 6 (cs_lt o 1 0 ho hM) (cs_k o 1 0 ho hM) rfl (by decide) w_75 rfl dX1_isLike_56 ?_
              refine aw_aload_n hC 1 dX1_isLike_59 rfl rfl ?_
              refine aw_getI hC hSt 6 (cs_lt lp1 1 0 hlp1 hM) (cs_k lp1 1 0 hlp1 hM) rfl (by decide) w_75 rfl dX1_isLike_60 ?_
              refine aw_icmp_ne hC 70 dX1_isLike_63 (by decide) (fun c6 => ?_) (fun c6 => ?_)
              · refine aw_iconst (v := 0) hC dX1_isLike_70 (by decide) ?_
                simp only [bd_def, if_pos c1, if_pos c2, if_pos c3, if_pos c4, if_pos c5, if_neg c6] at Jc1 ⊢
                exact Jc1
              · refine aw_iconst (v := 1) hC dX1_isLike_66 (by decide) ?_
                refine aw_goto hC 71 dX1_isLike_67 (by decide) ?_
                simp only [bd_def, if_pos c1, if_pos c2, if_pos c3, if_pos c4, if_pos c5, if_pos c6] at Jc1 ⊢
                exact Jc1
theorem b_X1_isLike (S : HSt) (o : Nat) (lp1 : Nat) : Bz (f_X1_isLike S o lp1) := by
  unfold f_X1_isLike F_X1_isLike
  (try dsimp only [bd])
  (repeat' split) <;> first | exact Or.inl rfl | exact Or.inr rfl
noncomputable def F_X1_hasFallen (S : HSt) (o : Nat) : Int32 × HSt := bd ((if (gI S o 6) = 0 then (if 0 < (gI S o 0) then (0 : Int32) else (1 : Int32)) else (1 : Int32))) fun x3 => pr (x3) (S)
noncomputable def f_X1_hasFallen (S : HSt) (o : Nat) : Int32 := (F_X1_hasFallen S o).1
set_option maxRecDepth 100000 in
theorem t_X1_hasFallen (G : GG) (l : Launch) {S : HSt} (hM : CS S) (o : Nat) (ho : (o, 1, 0) ∈ cKT)  : AM G l yX1_hasFallen cX1_hasFallen 1 (some .boolean) (rmD 0 0 0) 0 0 [.ref o] S (FP (some (.int (f_X1_hasFallen S o))) (S)) := by
  refine AM.mk (by decide) (Nat.le_of_ble_eq_true rfl) ?_
  intro p e s m below meth c hC hSt _
  refine aw_aload_n hC 0 dX1_hasFallen_0 rfl rfl ?_
  refine aw_getI hC hSt 6 (cs_lt o 1 0 ho hM) (cs_k o 1 0 ho hM) rfl (by decide) w_75 rfl dX1_hasFallen_1 ?_
  refine aw_cut (S' := S) (pc' := 19) (lv' := [(0, .ref o)]) (st' := [.int (if (gI S o 6) = 0 then (if 0 < (gI S o 0) then (0 : Int32) else (1 : Int32)) else (1 : Int32))]) ?_ (fun Jc1 => ?_)
  · generalize ex3 : (if (gI S o 6) = 0 then (if 0 < (gI S o 0) then (0 : Int32) else (1 : Int32)) else (1 : Int32)) = x3
    refine aw_zret hC dX1_hasFallen_19 (Nat.le_refl _) (Nat.le_refl _) (Bz.n (ex3 ▸ (Bz.ite (Bz.ite (Or.inl rfl) (Or.inr rfl)) (Or.inr rfl)))) ?_
    exact FP.pI ((bd_eq ex3).trans (rfl))
  · refine aw_if_ne hC 14 dX1_hasFallen_4 (by decide) (fun c1 => ?_) (fun c1 => ?_)
    · refine aw_iconst (v := 1) hC dX1_hasFallen_14 (by decide) ?_
      refine aw_goto hC 19 dX1_hasFallen_15 (by decide) ?_
      simp only [bd_def, if_neg c1] at Jc1 ⊢
      exact Jc1
    · refine aw_aload_n hC 0 dX1_hasFallen_7 rfl rfl ?_
      refine aw_getI hC hSt 0 (cs_lt o 1 0 ho hM) (cs_k o 1 0 ho hM) rfl (by decide) w_72 rfl dX1_hasFallen_8 ?_
      refine aw_if_gt hC 18 dX1_hasFallen_11 (by decide) (fun c2 => ?_) (fun c2 => ?_)
      · refine aw_iconst (v := 0) hC dX1_hasFallen_18 (by decide) ?_
        simp only [bd_def, if_pos c1, if_pos c2] at Jc1 ⊢
        exact Jc1
      · refine aw_iconst (v := 1) hC dX1_hasFallen_14 (by decide) ?_
        refine aw_goto hC 19 dX1_hasFallen_15 (by decide) ?_
        simp only [bd_def, if_pos c1, if_neg c2] at Jc1 ⊢
        exact Jc1
theorem b_X1_hasFallen (S : HSt) (o : Nat) : Bz (f_X1_hasFallen S o) := by
  unfold f_X1_hasFallen F_X1_hasFallen
  (try dsimp only [bd])
  (repeat' split) <;> first | exact Or.inl rfl | exact Or.inr rfl
noncomputable def F_X1_turned (S : HSt) (a1 : Int32) (a2 : Int32) (a3 : Int32) : Int32 × HSt := bd ((if (1 : Int32) < ((15 : Int32) - (a3 / (64 : Int32))) then ((15 : Int32) - (a3 / (64 : Int32))) else (1 : Int32))) fun x1 => pr ((if (if (0 : Int32) < ((a1 + a2) - (2 : Int32)) then ((a1 + a2) - (2 : Int32)) else (0 : Int32)) < x1 then (if (0 : Int32) < ((a1 + a2) - (2 : Int32)) then ((a1 + a2) - (2 : Int32)) else (0 : Int32)) else x1)) (S)
noncomputable def f_X1_turned (S : HSt) (a1 : Int32) (a2 : Int32) (a3 : Int32) : Int32 := (F_X1_turned S a1 a2 a3).1
set_option maxRecDepth 100000 in
theorem t_X1_turned (G : GG) (l : Launch) {S : HSt} (a1 : Int32) (a2 : Int32) (a3 : Int32)   : AM G l yX1_turned cX1_turned 4 (some .int) (rmD 1 0 0) 0 0 [.int a1, .int a2, .int a3] S (FP (some (.int (f_X1_turned S a1 a2 a3))) (S)) := by
  refine AM.mk (by decide) (Nat.le_of_ble_eq_true rfl) ?_
  intro p e s m below meth c hC hSt _
  refine aw_iconst (v := 1) hC dX1_turned_0 (by decide) ?_
  refine aw_bipush (v := 15) hC dX1_turned_1 (by decide) ?_
  refine aw_iload_n hC 2 dX1_turned_3 rfl rfl ?_
  refine aw_bipush (v := 64) hC dX1_turned_4 (by decide) ?_
  refine aw_idiv hC dX1_turned_6 (by decide) ?_
  refine aw_isub hC dX1_turned_7 ?_
  refine aw_max hC w_90 w_91 w_92 w_93 (by decide) (Nat.le_of_ble_eq_true rfl) (by decide) (by decide) dX1_turned_8 ?_
  refine aw_istore_n hC [(3, .int _), (0, .int _), (1, .int _), (2, .int _)] dX1_turned_11 rfl (by decide) rfl ?_
  generalize ex1 : (if (1 : Int32) < ((15 : Int32) - (a3 / (64 : Int32))) then ((15 : Int32) - (a3 / (64 : Int32))) else (1 : Int32)) = x1
  refine aw_iload_n hC 0 dX1_turned_12 rfl rfl ?_
  refine aw_iconst (v := 0) hC dX1_turned_13 (by decide) ?_
  refine aw_iload_n hC 1 dX1_turned_14 rfl rfl ?_
  refine aw_iload_n hC 2 dX1_turned_15 rfl rfl ?_
  refine aw_iadd hC dX1_turned_16 ?_
  refine aw_iconst (v := 2) hC dX1_turned_17 (by decide) ?_
  refine aw_isub hC dX1_turned_18 ?_
  refine aw_max hC w_90 w_91 w_92 w_93 (by decide) (Nat.le_of_ble_eq_true rfl) (by decide) (by decide) dX1_turned_19 ?_
  refine aw_min hC w_94 w_95 w_92 w_96 (by decide) (Nat.le_of_ble_eq_true rfl) (by decide) (by decide) dX1_turned_22 ?_
  refine aw_iret hC dX1_turned_25 (Nat.le_refl _) (Nat.le_refl _) ?_
  exact FP.pI ((bd_eq ex1).trans (rfl))
noncomputable def F_X1_spinBy (S : HSt) (o : Nat) (a1 : Int32) : Int32 × HSt := pr ((f_X1_turned S (gI S o 1) a1 (gI S o 3))) (S)
noncomputable def f_X1_spinBy (S : HSt) (o : Nat) (a1 : Int32) : Int32 := (F_X1_spinBy S o a1).1
set_option maxRecDepth 100000 in
theorem t_X1_spinBy (G : GG) (l : Launch) {S : HSt} (hM : CS S) (o : Nat) (a1 : Int32) (ho : (o, 1, 0) ∈ cKT)  : AM G l yX1_spinBy cX1_spinBy 2 (some .int) (rmD 2 0 0) 0 0 [.ref o, .int a1] S (FP (some (.int (f_X1_spinBy S o a1))) (S)) := by
  refine AM.mk (by decide) (Nat.le_of_ble_eq_true rfl) ?_
  intro p e s m below meth c hC hSt _
  refine aw_aload_n hC 0 dX1_spinBy_0 rfl rfl ?_
  refine aw_getI hC hSt 1 (cs_lt o 1 0 ho hM) (cs_k o 1 0 ho hM) rfl (by decide) w_73 rfl dX1_spinBy_1 ?_
  refine aw_iload_n hC 1 dX1_spinBy_4 rfl rfl ?_
  refine aw_aload_n hC 0 dX1_spinBy_5 rfl rfl ?_
  refine aw_getI hC hSt 3 (cs_lt o 1 0 ho hM) (cs_k o 1 0 ho hM) rfl (by decide) w_80 rfl dX1_spinBy_6 ?_
  refine aw_cS3r hC hSt (t_X1_turned G l  _ _ _) w_89 w_98 w_99 w_84 rfl rfl (by decide +kernel) ⟨Nat.le_of_ble_eq_true rfl, Nat.le_of_ble_eq_true rfl⟩ (Nat.le_of_ble_eq_true rfl) dX1_spinBy_9 ⟨Nat.zero_le _, Nat.zero_le _⟩ ?_
  refine aw_iret hC dX1_spinBy_12 (Nat.le_refl _) (Nat.le_refl _) ?_
  exact FP.pI (rfl)
noncomputable def F_X1_reason (S : HSt) (o : Nat) (a1 : Int32) (a2 : Int32) : Int32 × HSt := if (gI S o 6) = 0 then (if (gI S o 0) = 0 then (pr ((3 : Int32)) (S)) else (if a1 = 0 then (bd ((if a2 = 0 then (0 : Int32) else (1 : Int32))) fun x5 => pr (x5) (S)) else (pr ((2 : Int32)) (S)))) else (pr ((4 : Int32)) (S))
noncomputable def f_X1_reason (S : HSt) (o : Nat) (a1 : Int32) (a2 : Int32) : Int32 := (F_X1_reason S o a1 a2).1
set_option maxRecDepth 100000 in
theorem t_X1_reason (G : GG) (l : Launch) {S : HSt} (hM : CS S) (o : Nat) (a1 : Int32) (a2 : Int32) (ho : (o, 1, 0) ∈ cKT)  : AM G l yX1_reason cX1_reason 3 (some .int) (rmD 0 0 0) 0 0 [.ref o, .int a1, .int a2] S (FP (some (.int (f_X1_reason S o a1 a2))) (S)) := by
  refine AM.mk (by decide) (Nat.le_of_ble_eq_true rfl) ?_
  intro p e s m below meth c hC hSt _
  refine aw_aload_n hC 0 dX1_reason_0 rfl rfl ?_
  refine aw_getI hC hSt 6 (cs_lt o 1 0 ho hM) (cs_k o 1 0 ho hM) rfl (by decide) w_75 rfl dX1_reason_1 ?_
  refine aw_if_eq hC 9 dX1_reason_4 (by decide) (fun c1 => ?_) (fun c1 => ?_)
  · refine aw_aload_n hC 0 dX1_reason_9 rfl rfl ?_
    refine aw_getI hC hSt 0 (cs_lt o 1 0 ho hM) (cs_k o 1 0 ho hM) rfl (by decide) w_72 rfl dX1_reason_10 ?_
    refine aw_if_ne hC 18 dX1_reason_13 (by decide) (fun c2 => ?_) (fun c2 => ?_)
    · refine aw_iload_n hC 1 dX1_reason_18 rfl rfl ?_
      refine aw_if_eq hC 24 dX1_reason_19 (by decide) (fun c3 => ?_) (fun c3 => ?_)
      · refine aw_iload_n hC 2 dX1_reason_24 rfl rfl ?_
        refine aw_cut (S' := S) (pc' := 33) (lv' := [(0, .ref o), (1, .int a1), (2, .int a2)]) (st' := [.int (if a2 = 0 then (0 : Int32) else (1 : Int32))]) ?_ (fun Jc4 => ?_)
        · generalize ex5 : (if a2 = 0 then (0 : Int32) else (1 : Int32)) = x5
          refine aw_iret hC dX1_reason_33 (Nat.le_refl _) (Nat.le_refl _) ?_
          exact FP.pI ((if_pos c1).trans ((if_neg c2).trans ((if_pos c3).trans ((bd_eq ex5).trans (rfl)))))
        · refine aw_if_eq hC 32 dX1_reason_25 (by decide) (fun c4 => ?_) (fun c4 => ?_)
          · refine aw_iconst (v := 0) hC dX1_reason_32 (by decide) ?_
            simp only [bd_def, if_pos c4] at Jc4 ⊢
            exact Jc4
          · refine aw_iconst (v := 1) hC dX1_reason_28 (by decide) ?_
            refine aw_goto hC 33 dX1_reason_29 (by decide) ?_
            simp only [bd_def, if_neg c4] at Jc4 ⊢
            exact Jc4
      · refine aw_iconst (v := 2) hC dX1_reason_22 (by decide) ?_
        refine aw_iret hC dX1_reason_23 (Nat.le_refl _) (Nat.le_refl _) ?_
        exact FP.pI ((if_pos c1).trans ((if_neg c2).trans ((if_neg c3).trans (rfl))))
    · refine aw_iconst (v := 3) hC dX1_reason_16 (by decide) ?_
      refine aw_iret hC dX1_reason_17 (Nat.le_refl _) (Nat.le_refl _) ?_
      exact FP.pI ((if_pos c1).trans ((if_pos c2).trans (rfl)))
  · refine aw_iconst (v := 4) hC dX1_reason_7 (by decide) ?_
    refine aw_iret hC dX1_reason_8 (Nat.le_refl _) (Nat.le_refl _) ?_
    exact FP.pI ((if_neg c1).trans (rfl))
noncomputable def F_X1_tell (S : HSt) (o : Nat) (a1 : Int32) : Int32 × HSt := if a1 = (0 : Int32) then (pr ((gI S o 0)) (S)) else (if a1 = (1 : Int32) then (pr ((gI S o 1)) (S)) else (if a1 = (2 : Int32) then (pr ((gI S o 2)) (S)) else (if a1 = (3 : Int32) then (pr ((gI S o 3)) (S)) else (if a1 = (4 : Int32) then (pr ((gI S o 4)) (S)) else (bd ((if (gI S o 6) = 0 then (0 : Int32) else (1 : Int32))) fun x3 => pr (x3) (S))))))
noncomputable def f_X1_tell (S : HSt) (o : Nat) (a1 : Int32) : Int32 := (F_X1_tell S o a1).1
set_option maxRecDepth 100000 in
theorem t_X1_tell (G : GG) (l : Launch) {S : HSt} (hM : CS S) (o : Nat) (a1 : Int32) (ho : (o, 1, 0) ∈ cKT)  : AM G l yX1_tell cX1_tell 2 (some .int) (rmD 0 0 0) 0 0 [.ref o, .int a1] S (FP (some (.int (f_X1_tell S o a1))) (S)) := by
  refine AM.mk (by decide) (Nat.le_of_ble_eq_true rfl) ?_
  intro p e s m below meth c hC hSt _
  refine aw_iload_n hC 1 dX1_tell_0 rfl rfl ?_
  refine aw_switchE hC dX1_tell_1 61 (by decide) [36, 41, 46, 51, 56] rfl (by decide) (by decide) (fun hdc1 => ?_) (fun kc1 hkc1 hxc1 => ?_)
  · have c1_0 : ¬ a1 = (0 : Int32) := hdc1 0 (by decide)
    have c1_1 : ¬ a1 = (1 : Int32) := hdc1 1 (by decide)
    have c1_2 : ¬ a1 = (2 : Int32) := hdc1 2 (by decide)
    have c1_3 : ¬ a1 = (3 : Int32) := hdc1 3 (by decide)
    have c1_4 : ¬ a1 = (4 : Int32) := hdc1 4 (by decide)
    refine aw_aload_n hC 0 dX1_tell_61 rfl rfl ?_
    refine aw_getI hC hSt 6 (cs_lt o 1 0 ho hM) (cs_k o 1 0 ho hM) rfl (by decide) w_75 rfl dX1_tell_62 ?_
    refine aw_cut (S' := S) (pc' := 73) (lv' := [(0, .ref o), (1, .int a1)]) (st' := [.int (if (gI S o 6) = 0 then (0 : Int32) else (1 : Int32))]) ?_ (fun Jc2 => ?_)
    · generalize ex3 : (if (gI S o 6) = 0 then (0 : Int32) else (1 : Int32)) = x3
      refine aw_iret hC dX1_tell_73 (Nat.le_refl _) (Nat.le_refl _) ?_
      exact FP.pI ((if_neg c1_0).trans ((if_neg c1_1).trans ((if_neg c1_2).trans ((if_neg c1_3).trans ((if_neg c1_4).trans ((bd_eq ex3).trans (rfl)))))))
    · refine aw_if_eq hC 72 dX1_tell_65 (by decide) (fun c2 => ?_) (fun c2 => ?_)
      · refine aw_iconst (v := 0) hC dX1_tell_72 (by decide) ?_
        simp only [bd_def, if_pos c2] at Jc2 ⊢
        exact Jc2
      · refine aw_iconst (v := 1) hC dX1_tell_68 (by decide) ?_
        refine aw_goto hC 73 dX1_tell_69 (by decide) ?_
        simp only [bd_def, if_neg c2] at Jc2 ⊢
        exact Jc2
  · match kc1, hkc1, hxc1 with
    | 0, _, hxc1 =>
      have c1_0 : a1 = (0 : Int32) := hxc1
      refine aw_at (pc' := 36) rfl ?_
      refine aw_aload_n hC 0 dX1_tell_36 rfl rfl ?_
      refine aw_getI hC hSt 0 (cs_lt o 1 0 ho hM) (cs_k o 1 0 ho hM) rfl (by decide) w_72 rfl dX1_tell_37 ?_
      refine aw_iret hC dX1_tell_40 (Nat.le_refl _) (Nat.le_refl _) ?_
      exact FP.pI ((if_pos c1_0).trans (rfl))
    | 1, _, hxc1 =>
      have c1_1 : a1 = (1 : Int32) := hxc1
      have c1_0 : ¬ a1 = (0 : Int32) := by rw [c1_1]; decide
      refine aw_at (pc' := 41) rfl ?_
      refine aw_aload_n hC 0 dX1_tell_41 rfl rfl ?_
      refine aw_getI hC hSt 1 (cs_lt o 1 0 ho hM) (cs_k o 1 0 ho hM) rfl (by decide) w_73 rfl dX1_tell_42 ?_
      refine aw_iret hC dX1_tell_45 (Nat.le_refl _) (Nat.le_refl _) ?_
      exact FP.pI ((if_neg c1_0).trans ((if_pos c1_1).trans (rfl)))
    | 2, _, hxc1 =>
      have c1_2 : a1 = (2 : Int32) := hxc1
      have c1_0 : ¬ a1 = (0 : Int32) := by rw [c1_2]; decide
      have c1_1 : ¬ a1 = (1 : Int32) := by rw [c1_2]; decide
      refine aw_at (pc' := 46) rfl ?_
      refine aw_aload_n hC 0 dX1_tell_46 rfl rfl ?_
      refine aw_getI hC hSt 2 (cs_lt o 1 0 ho hM) (cs_k o 1 0 ho hM) rfl (by decide) w_74 rfl dX1_tell_47 ?_
      refine aw_iret hC dX1_tell_50 (Nat.le_refl _) (Nat.le_refl _) ?_
      exact FP.pI ((if_neg c1_0).trans ((if_neg c1_1).trans ((if_pos c1_2).trans (rfl))))
    | 3, _, hxc1 =>
      have c1_3 : a1 = (3 : Int32) := hxc1
      have c1_0 : ¬ a1 = (0 : Int32) := by rw [c1_3]; decide
      have c1_1 : ¬ a1 = (1 : Int32) := by rw [c1_3]; decide
      have c1_2 : ¬ a1 = (2 : Int32) := by rw [c1_3]; decide
      refine aw_at (pc' := 51) rfl ?_
      refine aw_aload_n hC 0 dX1_tell_51 rfl rfl ?_
      refine aw_getI hC hSt 3 (cs_lt o 1 0 ho hM) (cs_k o 1 0 ho hM) rfl (by decide) w_80 rfl dX1_tell_52 ?_
      refine aw_iret hC dX1_tell_55 (Nat.le_refl _) (Nat.le_refl _) ?_
      exact FP.pI ((if_neg c1_0).trans ((if_neg c1_1).trans ((if_neg c1_2).trans ((if_pos c1_3).trans (rfl)))))
    | 4, _, hxc1 =>
      have c1_4 : a1 = (4 : Int32) := hxc1
      have c1_0 : ¬ a1 = (0 : Int32) := by rw [c1_4]; decide
      have c1_1 : ¬ a1 = (1 : Int32) := by rw [c1_4]; decide
      have c1_2 : ¬ a1 = (2 : Int32) := by rw [c1_4]; decide
      have c1_3 : ¬ a1 = (3 : Int32) := by rw [c1_4]; decide
      refine aw_at (pc' := 56) rfl ?_
      refine aw_aload_n hC 0 dX1_tell_56 rfl rfl ?_
      refine aw_getI hC hSt 4 (cs_lt o 1 0 ho hM) (cs_k o 1 0 ho hM) rfl (by decide) w_78 rfl dX1_tell_57 ?_
      refine aw_iret hC dX1_tell_60 (Nat.le_refl _) (Nat.le_refl _) ?_
      exact FP.pI ((if_neg c1_0).trans ((if_neg c1_1).trans ((if_neg c1_2).trans ((if_neg c1_3).trans ((if_pos c1_4).trans (rfl))))))
    | kc1 + 5, hkc1, _ => exact absurd hkc1 (by simp)
noncomputable def F_X1_whereIs (S : HSt) (o : Nat) (a1 : Int32) : Int32 × HSt := bd (((gI S o 0) / (10 : Int32))) fun x1 => if x1 ≤ a1 then (if a1 = x1 then (pr ((3 : Int32)) (S)) else (bd ((if ((x1 + (4 : Int32)) + ((gI S o 0) / (40 : Int32))) < a1 then (0 : Int32) else (1 : Int32))) fun x5 => pr (x5) (S))) else (pr ((2 : Int32)) (S))
noncomputable def f_X1_whereIs (S : HSt) (o : Nat) (a1 : Int32) : Int32 := (F_X1_whereIs S o a1).1
set_option maxRecDepth 100000 in
theorem t_X1_whereIs (G : GG) (l : Launch) {S : HSt} (hM : CS S) (o : Nat) (a1 : Int32) (ho : (o, 1, 0) ∈ cKT)  : AM G l yX1_whereIs cX1_whereIs 3 (some .int) (rmD 0 0 0) 0 0 [.ref o, .int a1] S (FP (some (.int (f_X1_whereIs S o a1))) (S)) := by
  refine AM.mk (by decide) (Nat.le_of_ble_eq_true rfl) ?_
  intro p e s m below meth c hC hSt _
  refine aw_aload_n hC 0 dX1_whereIs_0 rfl rfl ?_
  refine aw_getI hC hSt 0 (cs_lt o 1 0 ho hM) (cs_k o 1 0 ho hM) rfl (by decide) w_72 rfl dX1_whereIs_1 ?_
  refine aw_bipush (v := 10) hC dX1_whereIs_4 (by decide) ?_
  refine aw_idiv hC dX1_whereIs_6 (by decide) ?_
  refine aw_istore_n hC [(2, .int _), (0, .ref o), (1, .int _)] dX1_whereIs_7 rfl (by decide) rfl ?_
  generalize ex1 : ((gI S o 0) / (10 : Int32)) = x1
  refine aw_iload_n hC 2 dX1_whereIs_8 rfl rfl ?_
  refine aw_iload_n hC 0 dX1_whereIs_9 rfl rfl ?_
  refine aw_icmp_ge hC 15 dX1_whereIs_10 (by decide) (fun c2 => ?_) (fun c2 => ?_)
  · refine aw_iload_n hC 2 dX1_whereIs_15 rfl rfl ?_
    refine aw_iload_n hC 0 dX1_whereIs_16 rfl rfl ?_
    refine aw_icmp_ne hC 22 dX1_whereIs_17 (by decide) (fun c3 => ?_) (fun c3 => ?_)
    · refine aw_iload_n hC 2 dX1_whereIs_22 rfl rfl ?_
      refine aw_iload_n hC 0 dX1_whereIs_23 rfl rfl ?_
      refine aw_iconst (v := 4) hC dX1_whereIs_24 (by decide) ?_
      refine aw_iadd hC dX1_whereIs_25 ?_
      refine aw_aload_n hC 1 dX1_whereIs_26 rfl rfl ?_
      refine aw_getI hC hSt 0 (cs_lt o 1 0 ho hM) (cs_k o 1 0 ho hM) rfl (by decide) w_72 rfl dX1_whereIs_27 ?_
      refine aw_bipush (v := 40) hC dX1_whereIs_30 (by decide) ?_
      refine aw_idiv hC dX1_whereIs_32 (by decide) ?_
      refine aw_iadd hC dX1_whereIs_33 ?_
      refine aw_cut (S' := S) (pc' := 42) (lv' := [(2, .int x1), (0, .ref o), (1, .int a1)]) (st' := [.int (if ((x1 + (4 : Int32)) + ((gI S o 0) / (40 : Int32))) < a1 then (0 : Int32) else (1 : Int32))]) ?_ (fun Jc4 => ?_)
      · generalize ex5 : (if ((x1 + (4 : Int32)) + ((gI S o 0) / (40 : Int32))) < a1 then (0 : Int32) else (1 : Int32)) = x5
        refine aw_iret hC dX1_whereIs_42 (Nat.le_refl _) (Nat.le_refl _) ?_
        exact FP.pI ((bd_eq ex1).trans ((if_pos c2).trans ((if_neg c3).trans ((bd_eq ex5).trans (rfl)))))
      · refine aw_icmp_gt hC 41 dX1_whereIs_34 (by decide) (fun c4 => ?_) (fun c4 => ?_)
        · refine aw_iconst (v := 0) hC dX1_whereIs_41 (by decide) ?_
          simp only [bd_def, if_pos c4] at Jc4 ⊢
          exact Jc4
        · refine aw_iconst (v := 1) hC dX1_whereIs_37 (by decide) ?_
          refine aw_goto hC 42 dX1_whereIs_38 (by decide) ?_
          simp only [bd_def, if_neg c4] at Jc4 ⊢
          exact Jc4
    · refine aw_iconst (v := 3) hC dX1_whereIs_20 (by decide) ?_
      refine aw_iret hC dX1_whereIs_21 (Nat.le_refl _) (Nat.le_refl _) ?_
      exact FP.pI ((bd_eq ex1).trans ((if_pos c2).trans ((if_pos c3).trans (rfl))))
  · refine aw_iconst (v := 2) hC dX1_whereIs_13 (by decide) ?_
    refine aw_iret hC dX1_whereIs_14 (Nat.le_refl _) (Nat.le_refl _) ?_
    exact FP.pI ((bd_eq ex1).trans ((if_neg c2).trans (rfl)))
noncomputable def F_X7_needOf (S : HSt) (o : Nat) (a1 : Int32) : Int32 × HSt := pr ((if (1 : Int32) < ((((4 : Int32) + (a1 / (20 : Int32))) + ((2 : Int32) * (gI S o 6))) - ((gI S o 5) / (4 : Int32))) then ((((4 : Int32) + (a1 / (20 : Int32))) + ((2 : Int32) * (gI S o 6))) - ((gI S o 5) / (4 : Int32))) else (1 : Int32))) (S)
noncomputable def f_X7_needOf (S : HSt) (o : Nat) (a1 : Int32) : Int32 := (F_X7_needOf S o a1).1
set_option maxRecDepth 100000 in
theorem t_X7_needOf (G : GG) (l : Launch) {S : HSt} (hM : CS S) (o : Nat) (a1 : Int32) (ho : (o, 7, 0) ∈ cKT)  : AM G l yX7_needOf cX7_needOf 2 (some .int) (rmD 1 0 0) 0 0 [.ref o, .int a1] S (FP (some (.int (f_X7_needOf S o a1))) (S)) := by
  refine AM.mk (by decide) (Nat.le_of_ble_eq_true rfl) ?_
  intro p e s m below meth c hC hSt _
  refine aw_iconst (v := 1) hC dX7_needOf_0 (by decide) ?_
  refine aw_iconst (v := 4) hC dX7_needOf_1 (by decide) ?_
  refine aw_iload_n hC 1 dX7_needOf_2 rfl rfl ?_
  refine aw_bipush (v := 20) hC dX7_needOf_3 (by decide) ?_
  refine aw_idiv hC dX7_needOf_5 (by decide) ?_
  refine aw_iadd hC dX7_needOf_6 ?_
  refine aw_iconst (v := 2) hC dX7_needOf_7 (by decide) ?_
  refine aw_aload_n hC 0 dX7_needOf_8 rfl rfl ?_
  refine aw_getI hC hSt 6 (cs_lt o 7 0 ho hM) (cs_k o 7 0 ho hM) rfl (by decide) w_101 rfl dX7_needOf_9 ?_
  refine aw_imul hC dX7_needOf_12 ?_
  refine aw_iadd hC dX7_needOf_13 ?_
  refine aw_aload_n hC 0 dX7_needOf_14 rfl rfl ?_
  refine aw_getI hC hSt 5 (cs_lt o 7 0 ho hM) (cs_k o 7 0 ho hM) rfl (by decide) w_102 rfl dX7_needOf_15 ?_
  refine aw_iconst (v := 4) hC dX7_needOf_18 (by decide) ?_
  refine aw_idiv hC dX7_needOf_19 (by decide) ?_
  refine aw_isub hC dX7_needOf_20 ?_
  refine aw_max hC w_103 w_91 w_92 w_93 (by decide) (Nat.le_of_ble_eq_true rfl) (by decide) (by decide) dX7_needOf_21 ?_
  refine aw_iret hC dX7_needOf_24 (Nat.le_refl _) (Nat.le_refl _) ?_
  exact FP.pI (rfl)
noncomputable def F_X7_limit (S : HSt) (o : Nat) : Int32 × HSt := pr (((24 : Int32) + ((4 : Int32) * (gI S o 5)))) (S)
noncomputable def f_X7_limit (S : HSt) (o : Nat) : Int32 := (F_X7_limit S o).1
set_option maxRecDepth 100000 in
theorem t_X7_limit (G : GG) (l : Launch) {S : HSt} (hM : CS S) (o : Nat) (ho : (o, 7, 0) ∈ cKT)  : AM G l yX7_limit cX7_limit 1 (some .int) (rmD 0 0 0) 0 0 [.ref o] S (FP (some (.int (f_X7_limit S o))) (S)) := by
  refine AM.mk (by decide) (Nat.le_of_ble_eq_true rfl) ?_
  intro p e s m below meth c hC hSt _
  refine aw_bipush (v := 24) hC dX7_limit_0 (by decide) ?_
  refine aw_iconst (v := 4) hC dX7_limit_2 (by decide) ?_
  refine aw_aload_n hC 0 dX7_limit_3 rfl rfl ?_
  refine aw_getI hC hSt 5 (cs_lt o 7 0 ho hM) (cs_k o 7 0 ho hM) rfl (by decide) w_102 rfl dX7_limit_4 ?_
  refine aw_imul hC dX7_limit_7 ?_
  refine aw_iadd hC dX7_limit_8 ?_
  refine aw_iret hC dX7_limit_9 (Nat.le_refl _) (Nat.le_refl _) ?_
  exact FP.pI (rfl)
noncomputable def F_X7_room (S : HSt) (o : Nat) : Int32 × HSt := pr (((gI S o 4) / (2 : Int32))) (S)
noncomputable def f_X7_room (S : HSt) (o : Nat) : Int32 := (F_X7_room S o).1
set_option maxRecDepth 100000 in
theorem t_X7_room (G : GG) (l : Launch) {S : HSt} (hM : CS S) (o : Nat) (ho : (o, 7, 0) ∈ cKT)  : AM G l yX7_room cX7_room 1 (some .int) (rmD 0 0 0) 0 0 [.ref o] S (FP (some (.int (f_X7_room S o))) (S)) := by
  refine AM.mk (by decide) (Nat.le_of_ble_eq_true rfl) ?_
  intro p e s m below meth c hC hSt _
  refine aw_aload_n hC 0 dX7_room_0 rfl rfl ?_
  refine aw_getI hC hSt 4 (cs_lt o 7 0 ho hM) (cs_k o 7 0 ho hM) rfl (by decide) w_105 rfl dX7_room_1 ?_
  refine aw_iconst (v := 2) hC dX7_room_4 (by decide) ?_
  refine aw_idiv hC dX7_room_5 (by decide) ?_
  refine aw_iret hC dX7_room_6 (Nat.le_refl _) (Nat.le_refl _) ?_
  exact FP.pI (rfl)
noncomputable def F_X7_pieces (S : HSt) (o : Nat) : Int32 × HSt := pr (((gI S o 4) / (10 : Int32))) (S)
noncomputable def f_X7_pieces (S : HSt) (o : Nat) : Int32 := (F_X7_pieces S o).1
set_option maxRecDepth 100000 in
theorem t_X7_pieces (G : GG) (l : Launch) {S : HSt} (hM : CS S) (o : Nat) (ho : (o, 7, 0) ∈ cKT)  : AM G l yX7_pieces cX7_pieces 1 (some .int) (rmD 0 0 0) 0 0 [.ref o] S (FP (some (.int (f_X7_pieces S o))) (S)) := by
  refine AM.mk (by decide) (Nat.le_of_ble_eq_true rfl) ?_
  intro p e s m below meth c hC hSt _
  refine aw_aload_n hC 0 dX7_pieces_0 rfl rfl ?_
  refine aw_getI hC hSt 4 (cs_lt o 7 0 ho hM) (cs_k o 7 0 ho hM) rfl (by decide) w_105 rfl dX7_pieces_1 ?_
  refine aw_bipush (v := 10) hC dX7_pieces_4 (by decide) ?_
  refine aw_idiv hC dX7_pieces_6 (by decide) ?_
  refine aw_iret hC dX7_pieces_7 (Nat.le_refl _) (Nat.le_refl _) ?_
  exact FP.pI (rfl)
noncomputable def L_X7_greatestOpen_4 (o : Nat) : Nat → HSt → Int32 → Int32 → Int32 × Int32 × Int32 × Int32
  | 0, S, v1, v2 => ((1 : Int32), 0, v1, v2)
  | n + 1, S, v1, v2 =>
    if v2 < 0 then ((pr ((0 : Int32)) (pr (0) (pr (v1) (v2))))) else (if v1 < (f_X7_needOf S o v2) then (L_X7_greatestOpen_4 o n S v1 (v2 + (-1 : Int32))) else ((pr ((1 : Int32)) (pr (v2) (pr (v1) (v2))))))
def T_X7_greatestOpen_4 (o : Nat) : Nat → HSt → Int32 → Int32 → Prop
  | 0, _, _, _ => False
  | n + 1, S, v1, v2 => ((¬ v2 < 0) → (v1 < (f_X7_needOf S o v2)) → T_X7_greatestOpen_4 o n S v1 (v2 + (-1 : Int32)))
set_option maxRecDepth 100000 in
theorem l_X7_greatestOpen_4 {p : Program} {l : Launch} {e : Env} {s : State} {m : MethodId} {args : Array Value} {below : List Frame} {meth : Method} {c : Code} {G : GG} {Post : Option Value → HSt → Prop} (hC : ACx p s m args meth c cX7_greatestOpen RX7 3 (some .int)) (hSt : St G s) {o : Nat} (ho : (o, 7, 0) ∈ cKT) : ∀ (n : Nat) (S : HSt) (v1 : Int32) (v2 : Int32), CS S → T_X7_greatestOpen_4 o n S v1 v2 → ((L_X7_greatestOpen_4 o n S v1 v2).1 = 1 → Post (some (.int (L_X7_greatestOpen_4 o n S v1 v2).2.1)) S) → ((L_X7_greatestOpen_4 o n S v1 v2).1 ≠ 1 → AW p l e (rmD 2 0 0) s m args below meth c G 3 (AQ G below args s 0 0 Post) S 0 0 25 [(0, .ref o), (1, .int (L_X7_greatestOpen_4 o n S v1 v2).2.2.1), (2, .int (L_X7_greatestOpen_4 o n S v1 v2).2.2.2)] []) → AW p l e (rmD 2 0 0) s m args below meth c G 3 (AQ G below args s 0 0 Post) S 0 0 4 [(0, .ref o), (1, .int v1), (2, .int v2)] [] := by
  intro n
  induction n with
  | zero => intro S v1 v2 _ hT; exact hT.elim
  | succ n ih =>
    intro S v1 v2 hM hT hr hk
    unfold T_X7_greatestOpen_4 at hT
    have h0 := hT
    refine aw_iload_n hC 2 dX7_greatestOpen_4 rfl rfl ?_
    refine aw_if_lt hC 25 dX7_greatestOpen_5 (by decide) (fun c1001 => ?_) (fun c1001 => ?_)
    · refine aw_sub [0, 1, 2] rfl ?_
      have E : L_X7_greatestOpen_4 o (n + 1) S v1 v2 = _ := (if_pos c1001).trans (rfl)
      rw [E] at hk hr
      exact hk (by show ¬ (0 : Int32) = 1; decide)
    · refine aw_iload_n hC 1 dX7_greatestOpen_8 rfl rfl ?_
      refine aw_aload_n hC 0 dX7_greatestOpen_9 rfl rfl ?_
      refine aw_iload_n hC 2 dX7_greatestOpen_10 rfl rfl ?_
      refine aw_cV1r hC hSt (t_X7_needOf G l hM _ _ ho) w_100 w_603 w_112 w_113 w_114 rfl rfl (by decide +kernel) ⟨Nat.le_of_ble_eq_true rfl, Nat.le_of_ble_eq_true rfl⟩ (cs_lt o 7 0 ho hM) (cs_k o 7 0 ho hM) rfl (Nat.le_of_ble_eq_true rfl) dX7_greatestOpen_11 ⟨Nat.zero_le _, Nat.zero_le _⟩ ?_
      refine aw_icmp_lt hC 19 dX7_greatestOpen_14 (by decide) (fun c1002 => ?_) (fun c1002 => ?_)
      · refine aw_iinc (v := (v2 + (-1 : Int32))) hC 2 [(2, .int _), (0, .ref o), (1, .int _)] dX7_greatestOpen_19 rfl rfl (by decide) rfl ?_
        refine aw_goto hC 4 dX7_greatestOpen_22 (by decide) ?_
        refine aw_sub [1, 2, 0] rfl ?_
        have hTn := (h0 c1001 c1002)
        have hMn : CS S := hM
        have E : L_X7_greatestOpen_4 o (n + 1) S v1 v2 = _ := (if_neg c1001).trans ((if_pos c1002).trans (rfl))
        rw [E] at hk hr
        exact ih _ _ _ hMn hTn hr hk
      · refine aw_iload_n hC 2 dX7_greatestOpen_17 rfl rfl ?_
        refine aw_iret hC dX7_greatestOpen_18 (Nat.le_refl _) (Nat.le_refl _) ?_
        have E : L_X7_greatestOpen_4 o (n + 1) S v1 v2 = _ := (if_neg c1001).trans ((if_neg c1002).trans (rfl))
        rw [E] at hr
        exact hr rfl
noncomputable def F_X7_greatestOpen (S : HSt) (o : Nat) (a1 : Int32) : Int32 × HSt := bd (L_X7_greatestOpen_4 o 1000 S a1 (400 : Int32)) fun r1 => if r1.1 = 1 then (pr (r1.2.1) (S)) else (pr ((-1000000 : Int32)) (S))
noncomputable def f_X7_greatestOpen (S : HSt) (o : Nat) (a1 : Int32) : Int32 := (F_X7_greatestOpen S o a1).1
def p_X7_greatestOpen (S : HSt) (o : Nat) (a1 : Int32) : Prop := (T_X7_greatestOpen_4 o 1000 S a1 (400 : Int32))
set_option maxRecDepth 100000 in
theorem t_X7_greatestOpen (G : GG) (l : Launch) {S : HSt} (hM : CS S) (o : Nat) (a1 : Int32) (ho : (o, 7, 0) ∈ cKT) (hp : p_X7_greatestOpen S o a1) : AM G l yX7_greatestOpen cX7_greatestOpen 3 (some .int) (rmD 2 0 0) 0 0 [.ref o, .int a1] S (FP (some (.int (f_X7_greatestOpen S o a1))) (S)) := by
  have h0 := hp
  unfold p_X7_greatestOpen at h0
  refine AM.mk (by decide) (Nat.le_of_ble_eq_true rfl) ?_
  intro p e s m below meth c hC hSt _
  refine aw_sipush (v := 400) hC dX7_greatestOpen_0 (by decide) ?_
  refine aw_istore_n hC [(2, .int _), (0, .ref o), (1, .int _)] dX7_greatestOpen_3 rfl (by decide) rfl ?_
  refine aw_sub [1, 2, 0] rfl ?_
  refine l_X7_greatestOpen_4 hC hSt ho 1000 _ _ _ hM (h0) (fun c2 => ?_) (fun c2 => ?_)
  · revert c2
    generalize er1 : L_X7_greatestOpen_4 o 1000 S a1 (400 : Int32) = r1
    intro c2
    exact FP.pI ((bd_eq er1).trans ((if_pos c2).trans (rfl)))
  · revert c2
    generalize er1 : L_X7_greatestOpen_4 o 1000 S a1 (400 : Int32) = r1
    intro c2
    refine aw_ldc (v := -1000000) hC w_602 dX7_greatestOpen_25 ?_
    refine aw_iret hC dX7_greatestOpen_27 (Nat.le_refl _) (Nat.le_refl _) ?_
    exact FP.pI ((bd_eq er1).trans ((if_neg c2).trans (rfl)))
noncomputable def F_X7_distance (S : HSt) (o : Nat) (a1 : Int32) (a2 : Int32) : Int32 × HSt := pr ((if (a1 - ((gI S o 7) * a2)) < (if a1 < (gI S o 8) then a1 else (gI S o 8)) then (if a1 < (gI S o 8) then a1 else (gI S o 8)) else (a1 - ((gI S o 7) * a2)))) (S)
noncomputable def f_X7_distance (S : HSt) (o : Nat) (a1 : Int32) (a2 : Int32) : Int32 := (F_X7_distance S o a1 a2).1
set_option maxRecDepth 100000 in
theorem t_X7_distance (G : GG) (l : Launch) {S : HSt} (hM : CS S) (o : Nat) (a1 : Int32) (a2 : Int32) (ho : (o, 7, 0) ∈ cKT)  : AM G l yX7_distance cX7_distance 3 (some .int) (rmD 1 0 0) 0 0 [.ref o, .int a1, .int a2] S (FP (some (.int (f_X7_distance S o a1 a2))) (S)) := by
  refine AM.mk (by decide) (Nat.le_of_ble_eq_true rfl) ?_
  intro p e s m below meth c hC hSt _
  refine aw_iload_n hC 1 dX7_distance_0 rfl rfl ?_
  refine aw_aload_n hC 0 dX7_distance_1 rfl rfl ?_
  refine aw_getI hC hSt 7 (cs_lt o 7 0 ho hM) (cs_k o 7 0 ho hM) rfl (by decide) w_155 rfl dX7_distance_2 ?_
  refine aw_iload_n hC 2 dX7_distance_5 rfl rfl ?_
  refine aw_imul hC dX7_distance_6 ?_
  refine aw_isub hC dX7_distance_7 ?_
  refine aw_aload_n hC 0 dX7_distance_8 rfl rfl ?_
  refine aw_getI hC hSt 8 (cs_lt o 7 0 ho hM) (cs_k o 7 0 ho hM) rfl (by decide) w_156 rfl dX7_distance_9 ?_
  refine aw_iload_n hC 1 dX7_distance_12 rfl rfl ?_
  refine aw_min hC w_157 w_95 w_92 w_96 (by decide) (Nat.le_of_ble_eq_true rfl) (by decide) (by decide) dX7_distance_13 ?_
  refine aw_max hC w_103 w_91 w_92 w_93 (by decide) (Nat.le_of_ble_eq_true rfl) (by decide) (by decide) dX7_distance_16 ?_
  refine aw_iret hC dX7_distance_19 (Nat.le_refl _) (Nat.le_refl _) ?_
  exact FP.pI (rfl)
noncomputable def L_X7_staysFree_11 (o : Nat) : Nat → HSt → Int32 → Int32 → Int32 → Int32 → Int32 × Int32 × Int32 × Int32 × Int32 × Int32
  | 0, S, v1, v2, v3, v4 => ((1 : Int32), 0, v1, v2, v3, v4)
  | n + 1, S, v1, v2, v3, v4 =>
    if v2 ≤ v4 then ((pr ((0 : Int32)) (pr (0) (pr (v1) (pr (v2) (pr (v3) (v4))))))) else (bd ((v3 + v1)) fun x1003 => if (if 0 ≤ x1003 then x1003 else 0 - x1003) ≤ (f_X7_limit S o) then (L_X7_staysFree_11 o n S v1 v2 x1003 (v4 + (1 : Int32))) else ((pr ((1 : Int32)) (pr ((0 : Int32)) (pr (v1) (pr (v2) (pr (x1003) (v4))))))))
def T_X7_staysFree_11 (o : Nat) : Nat → HSt → Int32 → Int32 → Int32 → Int32 → Prop
  | 0, _, _, _, _, _ => False
  | n + 1, S, v1, v2, v3, v4 => ((¬ v2 ≤ v4) → ∀ x1003 : Int32, (v3 + v1) = x1003 → ((if 0 ≤ x1003 then x1003 else 0 - x1003) ≤ (f_X7_limit S o)) → T_X7_staysFree_11 o n S v1 v2 x1003 (v4 + (1 : Int32)))
set_option maxRecDepth 100000 in
theorem l_X7_staysFree_11 {p : Program} {l : Launch} {e : Env} {s : State} {m : MethodId} {args : Array Value} {below : List Frame} {meth : Method} {c : Code} {G : GG} {Post : Option Value → HSt → Prop} (hC : ACx p s m args meth c cX7_staysFree RX7 5 (some .boolean)) (hSt : St G s) {o : Nat} (ho : (o, 7, 0) ∈ cKT) : ∀ (n : Nat) (S : HSt) (v1 : Int32) (v2 : Int32) (v3 : Int32) (v4 : Int32), CS S → T_X7_staysFree_11 o n S v1 v2 v3 v4 → ((L_X7_staysFree_11 o n S v1 v2 v3 v4).1 = 1 → Post (some (.int (L_X7_staysFree_11 o n S v1 v2 v3 v4).2.1)) S) → ((L_X7_staysFree_11 o n S v1 v2 v3 v4).1 ≠ 1 → AW p l e (rmD 1 0 0) s m args below meth c G 5 (AQ G below args s 0 0 Post) S 0 0 40 [(0, .ref o), (1, .int (L_X7_staysFree_11 o n S v1 v2 v3 v4).2.2.1), (2, .int (L_X7_staysFree_11 o n S v1 v2 v3 v4).2.2.2.1), (3, .int (L_X7_staysFree_11 o n S v1 v2 v3 v4).2.2.2.2.1), (4, .int (L_X7_staysFree_11 o n S v1 v2 v3 v4).2.2.2.2.2)] []) → AW p l e (rmD 1 0 0) s m args below meth c G 5 (AQ G below args s 0 0 Post) S 0 0 11 [(0, .ref o), (1, .int v1), (2, .int v2), (3, .int v3), (4, .int v4)] [] := by
  intro n
  induction n with
  | zero => intro S v1 v2 v3 v4 _ hT; exact hT.elim
  | succ n ih =>
    intro S v1 v2 v3 v4 hM hT hr hk
    unfold T_X7_staysFree_11 at hT
    have h0 := hT
    refine aw_iload hC 4 dX7_staysFree_11 rfl ?_
    refine aw_iload_n hC 2 dX7_staysFree_13 rfl rfl ?_
    refine aw_icmp_ge hC 40 dX7_staysFree_14 (by decide) (fun c1002 => ?_) (fun c1002 => ?_)
    · refine aw_sub [0, 1, 2, 3, 4] rfl ?_
      have E : L_X7_staysFree_11 o (n + 1) S v1 v2 v3 v4 = _ := (if_pos c1002).trans (rfl)
      rw [E] at hk hr
      exact hk (by show ¬ (0 : Int32) = 1; decide)
    · refine aw_iload_n hC 3 dX7_staysFree_17 rfl rfl ?_
      refine aw_iload_n hC 1 dX7_staysFree_18 rfl rfl ?_
      refine aw_iadd hC dX7_staysFree_19 ?_
      refine aw_istore_n hC [(3, .int _), (0, .ref o), (1, .int _), (2, .int _), (4, .int _)] dX7_staysFree_20 rfl (by decide) rfl ?_
      generalize ex1003 : (v3 + v1) = x1003
      refine aw_iload_n hC 0 dX7_staysFree_21 rfl rfl ?_
      refine aw_abs hC w_606 w_109 w_92 w_110 (by decide) (Nat.le_of_ble_eq_true rfl) (by decide) (by decide) dX7_staysFree_22 ?_
      refine aw_aload_n hC 1 dX7_staysFree_25 rfl rfl ?_
      refine aw_cV0r hC hSt (t_X7_limit G l hM _ ho) w_106 w_607 w_119 w_120 w_114 rfl rfl (by decide +kernel) ⟨Nat.le_of_ble_eq_true rfl, Nat.le_of_ble_eq_true rfl⟩ (cs_lt o 7 0 ho hM) (cs_k o 7 0 ho hM) rfl (Nat.le_of_ble_eq_true rfl) dX7_staysFree_26 ⟨Nat.zero_le _, Nat.zero_le _⟩ ?_
      refine aw_icmp_le hC 34 dX7_staysFree_29 (by decide) (fun c1004 => ?_) (fun c1004 => ?_)
      · refine aw_iinc (v := (v4 + (1 : Int32))) hC 4 [(4, .int _), (3, .int _), (0, .ref o), (1, .int _), (2, .int _)] dX7_staysFree_34 rfl rfl (by decide) rfl ?_
        refine aw_goto hC 11 dX7_staysFree_37 (by decide) ?_
        refine aw_sub [2, 3, 4, 1, 0] rfl ?_
        have hTn := (h0 c1002 x1003 ex1003 c1004)
        have hMn : CS S := hM
        have E : L_X7_staysFree_11 o (n + 1) S v1 v2 v3 v4 = _ := (if_neg c1002).trans ((bd_eq ex1003).trans ((if_pos c1004).trans (rfl)))
        rw [E] at hk hr
        exact ih _ _ _ _ _ hMn hTn hr hk
      · refine aw_iconst (v := 0) hC dX7_staysFree_32 (by decide) ?_
        refine aw_zret hC dX7_staysFree_33 (Nat.le_refl _) (Nat.le_refl _) (by decide) ?_
        have E : L_X7_staysFree_11 o (n + 1) S v1 v2 v3 v4 = _ := (if_neg c1002).trans ((bd_eq ex1003).trans ((if_neg c1004).trans (rfl)))
        rw [E] at hr
        exact hr rfl
noncomputable def F_X7_staysFree (S : HSt) (o : Nat) (a1 : Int32) (a2 : Int32) : Int32 × HSt := bd ((gI S (o + 4) 2)) fun x1 => bd (L_X7_staysFree_11 o 1000 S a1 a2 x1 (0 : Int32)) fun r2 => if r2.1 = 1 then (pr (r2.2.1) (S)) else (pr ((1 : Int32)) (S))
noncomputable def f_X7_staysFree (S : HSt) (o : Nat) (a1 : Int32) (a2 : Int32) : Int32 := (F_X7_staysFree S o a1 a2).1
def p_X7_staysFree (S : HSt) (o : Nat) (a1 : Int32) (a2 : Int32) : Prop := (∀ x1 : Int32, (gI S (o + 4) 2) = x1 → T_X7_staysFree_11 o 1000 S a1 a2 x1 (0 : Int32))
set_option maxRecDepth 100000 in
theorem t_X7_staysFree (G : GG) (l : Launch) {S : HSt} (hM : CS S) (o : Nat) (a1 : Int32) (a2 : Int32) (ho : (o, 7, 0) ∈ cKT) (hp : p_X7_staysFree S o a1 a2) : AM G l yX7_staysFree cX7_staysFree 5 (some .boolean) (rmD 1 0 0) 0 0 [.ref o, .int a1, .int a2] S (FP (some (.int (f_X7_staysFree S o a1 a2))) (S)) := by
  have h0 := hp
  unfold p_X7_staysFree at h0
  refine AM.mk (by decide) (Nat.le_of_ble_eq_true rfl) ?_
  intro p e s m below meth c hC hSt _
  refine aw_aload_n hC 0 dX7_staysFree_0 rfl rfl ?_
  refine aw_getP (b := (o + 4)) hC hSt 1 (cs_lt o 7 0 ho hM) (cs_k o 7 0 ho hM) rfl (by decide) w_582 rfl (cs_p o 1 (o + 4) (sc_ploop ho) hM) dX7_staysFree_1 ?_
  refine aw_getI hC hSt 2 (cs_lt (o + 4) 1 0 (sc_loop ho) hM) (cs_k (o + 4) 1 0 (sc_loop ho) hM) rfl (by decide) w_605 rfl dX7_staysFree_4 ?_
  refine aw_istore_n hC [(3, .int _), (0, .ref o), (1, .int _), (2, .int _)] dX7_staysFree_7 rfl (by decide) rfl ?_
  generalize ex1 : (gI S (o + 4) 2) = x1
  refine aw_iconst (v := 0) hC dX7_staysFree_8 (by decide) ?_
  refine aw_istore hC [(4, .int _), (3, .int _), (0, .ref o), (1, .int _), (2, .int _)] dX7_staysFree_9 (by decide) rfl ?_
  refine aw_sub [2, 3, 4, 1, 0] rfl ?_
  refine l_X7_staysFree_11 hC hSt ho 1000 _ _ _ _ _ hM (h0 x1 ex1) (fun c3 => ?_) (fun c3 => ?_)
  · revert c3
    generalize er2 : L_X7_staysFree_11 o 1000 S a1 a2 x1 (0 : Int32) = r2
    intro c3
    exact FP.pI ((bd_eq ex1).trans ((bd_eq er2).trans ((if_pos c3).trans (rfl))))
  · revert c3
    generalize er2 : L_X7_staysFree_11 o 1000 S a1 a2 x1 (0 : Int32) = r2
    intro c3
    refine aw_iconst (v := 1) hC dX7_staysFree_40 (by decide) ?_
    refine aw_zret hC dX7_staysFree_41 (Nat.le_refl _) (Nat.le_refl _) (by decide) ?_
    exact FP.pI ((bd_eq ex1).trans ((bd_eq er2).trans ((if_neg c3).trans (rfl))))
noncomputable def L_X7_leastTurn_2 (o : Nat) : Nat → HSt → Int32 → Int32 → Int32 → Int32 × Int32 × Int32 × Int32 × Int32
  | 0, S, v1, v2, v3 => ((1 : Int32), 0, v1, v2, v3)
  | n + 1, S, v1, v2, v3 =>
    if (15 : Int32) < v3 then ((pr ((0 : Int32)) (pr (0) (pr (v1) (pr (v2) (v3)))))) else (if (f_X7_staysFree S o (v1 - v3) v2) = 0 then (L_X7_leastTurn_2 o n S v1 v2 (v3 + (1 : Int32))) else ((pr ((1 : Int32)) (pr (v3) (pr (v1) (pr (v2) (v3)))))))
def T_X7_leastTurn_2 (o : Nat) : Nat → HSt → Int32 → Int32 → Int32 → Prop
  | 0, _, _, _, _ => False
  | n + 1, S, v1, v2, v3 => ((¬ (15 : Int32) < v3) → p_X7_staysFree S o (v1 - v3) v2) ∧ ((¬ (15 : Int32) < v3) → ((f_X7_staysFree S o (v1 - v3) v2) = 0) → T_X7_leastTurn_2 o n S v1 v2 (v3 + (1 : Int32)))
set_option maxRecDepth 100000 in
theorem l_X7_leastTurn_2 {p : Program} {l : Launch} {e : Env} {s : State} {m : MethodId} {args : Array Value} {below : List Frame} {meth : Method} {c : Code} {G : GG} {Post : Option Value → HSt → Prop} (hC : ACx p s m args meth c cX7_leastTurn RX7 4 (some .int)) (hSt : St G s) {o : Nat} (ho : (o, 7, 0) ∈ cKT) : ∀ (n : Nat) (S : HSt) (v1 : Int32) (v2 : Int32) (v3 : Int32), CS S → T_X7_leastTurn_2 o n S v1 v2 v3 → ((L_X7_leastTurn_2 o n S v1 v2 v3).1 = 1 → Post (some (.int (L_X7_leastTurn_2 o n S v1 v2 v3).2.1)) S) → ((L_X7_leastTurn_2 o n S v1 v2 v3).1 ≠ 1 → AW p l e (rmD 2 0 0) s m args below meth c G 4 (AQ G below args s 0 0 Post) S 0 0 27 [(0, .ref o), (1, .int (L_X7_leastTurn_2 o n S v1 v2 v3).2.2.1), (2, .int (L_X7_leastTurn_2 o n S v1 v2 v3).2.2.2.1), (3, .int (L_X7_leastTurn_2 o n S v1 v2 v3).2.2.2.2)] []) → AW p l e (rmD 2 0 0) s m args below meth c G 4 (AQ G below args s 0 0 Post) S 0 0 2 [(0, .ref o), (1, .int v1), (2, .int v2), (3, .int v3)] [] := by
  intro n
  induction n with
  | zero => intro S v1 v2 v3 _ hT; exact hT.elim
  | succ n ih =>
    intro S v1 v2 v3 hM hT hr hk
    unfold T_X7_leastTurn_2 at hT
    obtain ⟨h0, h1⟩ := hT
    refine aw_iload_n hC 3 dX7_leastTurn_2 rfl rfl ?_
    refine aw_bipush (v := 15) hC dX7_leastTurn_3 (by decide) ?_
    refine aw_icmp_gt hC 27 dX7_leastTurn_5 (by decide) (fun c1001 => ?_) (fun c1001 => ?_)
    · refine aw_sub [0, 1, 2, 3] rfl ?_
      have E : L_X7_leastTurn_2 o (n + 1) S v1 v2 v3 = _ := (if_pos c1001).trans (rfl)
      rw [E] at hk hr
      exact hk (by show ¬ (0 : Int32) = 1; decide)
    · refine aw_aload_n hC 0 dX7_leastTurn_8 rfl rfl ?_
      refine aw_iload_n hC 1 dX7_leastTurn_9 rfl rfl ?_
      refine aw_iload_n hC 3 dX7_leastTurn_10 rfl rfl ?_
      refine aw_isub hC dX7_leastTurn_11 ?_
      refine aw_iload_n hC 2 dX7_leastTurn_12 rfl rfl ?_
      refine aw_cV2r hC hSt (t_X7_staysFree G l hM _ _ _ ho (h0 c1001)) w_604 w_609 w_610 w_611 w_114 rfl rfl (by decide +kernel) ⟨Nat.le_of_ble_eq_true rfl, Nat.le_of_ble_eq_true rfl⟩ (cs_lt o 7 0 ho hM) (cs_k o 7 0 ho hM) rfl (Nat.le_of_ble_eq_true rfl) dX7_leastTurn_13 ⟨Nat.zero_le _, Nat.zero_le _⟩ ?_
      refine aw_if_eq hC 21 dX7_leastTurn_16 (by decide) (fun c1002 => ?_) (fun c1002 => ?_)
      · refine aw_iinc (v := (v3 + (1 : Int32))) hC 3 [(3, .int _), (0, .ref o), (1, .int _), (2, .int _)] dX7_leastTurn_21 rfl rfl (by decide) rfl ?_
        refine aw_goto hC 2 dX7_leastTurn_24 (by decide) ?_
        refine aw_sub [1, 2, 3, 0] rfl ?_
        have hTn := (h1 c1001 c1002)
        have hMn : CS S := hM
        have E : L_X7_leastTurn_2 o (n + 1) S v1 v2 v3 = _ := (if_neg c1001).trans ((if_pos c1002).trans (rfl))
        rw [E] at hk hr
        exact ih _ _ _ _ hMn hTn hr hk
      · refine aw_iload_n hC 3 dX7_leastTurn_19 rfl rfl ?_
        refine aw_iret hC dX7_leastTurn_20 (Nat.le_refl _) (Nat.le_refl _) ?_
        have E : L_X7_leastTurn_2 o (n + 1) S v1 v2 v3 = _ := (if_neg c1001).trans ((if_neg c1002).trans (rfl))
        rw [E] at hr
        exact hr rfl
noncomputable def F_X7_leastTurn (S : HSt) (o : Nat) (a1 : Int32) (a2 : Int32) : Int32 × HSt := bd (L_X7_leastTurn_2 o 1000 S a1 a2 (0 : Int32)) fun r1 => if r1.1 = 1 then (pr (r1.2.1) (S)) else (pr ((-1000000 : Int32)) (S))
noncomputable def f_X7_leastTurn (S : HSt) (o : Nat) (a1 : Int32) (a2 : Int32) : Int32 := (F_X7_leastTurn S o a1 a2).1
def p_X7_leastTurn (S : HSt) (o : Nat) (a1 : Int32) (a2 : Int32) : Prop := (T_X7_leastTurn_2 o 1000 S a1 a2 (0 : Int32))
set_option maxRecDepth 100000 in
theorem t_X7_leastTurn (G : GG) (l : Launch) {S : HSt} (hM : CS S) (o : Nat) (a1 : Int32) (a2 : Int32) (ho : (o, 7, 0) ∈ cKT) (hp : p_X7_leastTurn S o a1 a2) : AM G l yX7_leastTurn cX7_leastTurn 4 (some .int) (rmD 2 0 0) 0 0 [.ref o, .int a1, .int a2] S (FP (some (.int (f_X7_leastTurn S o a1 a2))) (S)) := by
  have h0 := hp
  unfold p_X7_leastTurn at h0
  refine AM.mk (by decide) (Nat.le_of_ble_eq_true rfl) ?_
  intro p e s m below meth c hC hSt _
  refine aw_iconst (v := 0) hC dX7_leastTurn_0 (by decide) ?_
  refine aw_istore_n hC [(3, .int _), (0, .ref o), (1, .int _), (2, .int _)] dX7_leastTurn_1 rfl (by decide) rfl ?_
  refine aw_sub [1, 2, 3, 0] rfl ?_
  refine l_X7_leastTurn_2 hC hSt ho 1000 _ _ _ _ hM (h0) (fun c2 => ?_) (fun c2 => ?_)
  · revert c2
    generalize er1 : L_X7_leastTurn_2 o 1000 S a1 a2 (0 : Int32) = r1
    intro c2
    exact FP.pI ((bd_eq er1).trans ((if_pos c2).trans (rfl)))
  · revert c2
    generalize er1 : L_X7_leastTurn_2 o 1000 S a1 a2 (0 : Int32) = r1
    intro c2
    refine aw_ldc (v := -1000000) hC w_602 dX7_leastTurn_27 ?_
    refine aw_iret hC dX7_leastTurn_29 (Nat.le_refl _) (Nat.le_refl _) ?_
    exact FP.pI ((bd_eq er1).trans ((if_neg c2).trans (rfl)))
noncomputable def f_X7_takeUp (S : HSt) (o : Nat) (a1 : Int32) (a2 : Int32) : HSt := bd ((sI S o 4 (f_X10_value S (o + 1) (0 : Int32) a1 (0 : Int32)))) fun S1 => bd ((sI S1 o 5 (f_X10_value S1 (o + 1) (0 : Int32) a1 (1 : Int32)))) fun S2 => bd ((sI S2 o 6 (f_X10_value S2 (o + 1) (0 : Int32) a1 (2 : Int32)))) fun S3 => bd ((sI S3 o 7 (f_X10_value S3 (o + 1) (1 : Int32) a2 (0 : Int32)))) fun S4 => bd ((sI S4 o 8 (f_X10_value S4 (o + 1) (1 : Int32) a2 (1 : Int32)))) fun S5 => bd ((sI S5 o 9 (f_X10_value S5 (o + 1) (1 : Int32) a2 (2 : Int32)))) fun S6 => bd (f_X1_begin S6 (o + 4)) fun r7 => bd ((sI r7 o 3 ((gI r7 o 3) + (1 : Int32)))) fun S8 => S8
def p_X7_takeUp (S : HSt) (o : Nat) (a1 : Int32) (a2 : Int32) : Prop := (p_X10_value S (o + 1) (0 : Int32) a1 (0 : Int32)) ∧ (∀ S1 : HSt, (sI S o 4 (f_X10_value S (o + 1) (0 : Int32) a1 (0 : Int32))) = S1 → p_X10_value S1 (o + 1) (0 : Int32) a1 (1 : Int32)) ∧ (∀ S1 : HSt, (sI S o 4 (f_X10_value S (o + 1) (0 : Int32) a1 (0 : Int32))) = S1 → ∀ S2 : HSt, (sI S1 o 5 (f_X10_value S1 (o + 1) (0 : Int32) a1 (1 : Int32))) = S2 → p_X10_value S2 (o + 1) (0 : Int32) a1 (2 : Int32)) ∧ (∀ S1 : HSt, (sI S o 4 (f_X10_value S (o + 1) (0 : Int32) a1 (0 : Int32))) = S1 → ∀ S2 : HSt, (sI S1 o 5 (f_X10_value S1 (o + 1) (0 : Int32) a1 (1 : Int32))) = S2 → ∀ S3 : HSt, (sI S2 o 6 (f_X10_value S2 (o + 1) (0 : Int32) a1 (2 : Int32))) = S3 → p_X10_value S3 (o + 1) (1 : Int32) a2 (0 : Int32)) ∧ (∀ S1 : HSt, (sI S o 4 (f_X10_value S (o + 1) (0 : Int32) a1 (0 : Int32))) = S1 → ∀ S2 : HSt, (sI S1 o 5 (f_X10_value S1 (o + 1) (0 : Int32) a1 (1 : Int32))) = S2 → ∀ S3 : HSt, (sI S2 o 6 (f_X10_value S2 (o + 1) (0 : Int32) a1 (2 : Int32))) = S3 → ∀ S4 : HSt, (sI S3 o 7 (f_X10_value S3 (o + 1) (1 : Int32) a2 (0 : Int32))) = S4 → p_X10_value S4 (o + 1) (1 : Int32) a2 (1 : Int32)) ∧ (∀ S1 : HSt, (sI S o 4 (f_X10_value S (o + 1) (0 : Int32) a1 (0 : Int32))) = S1 → ∀ S2 : HSt, (sI S1 o 5 (f_X10_value S1 (o + 1) (0 : Int32) a1 (1 : Int32))) = S2 → ∀ S3 : HSt, (sI S2 o 6 (f_X10_value S2 (o + 1) (0 : Int32) a1 (2 : Int32))) = S3 → ∀ S4 : HSt, (sI S3 o 7 (f_X10_value S3 (o + 1) (1 : Int32) a2 (0 : Int32))) = S4 → ∀ S5 : HSt, (sI S4 o 8 (f_X10_value S4 (o + 1) (1 : Int32) a2 (1 : Int32))) = S5 → p_X10_value S5 (o + 1) (1 : Int32) a2 (2 : Int32))
set_option maxRecDepth 100000 in
theorem t_X7_takeUp (G : GG) (l : Launch) {S : HSt} (hM : CS S) (o : Nat) (a1 : Int32) (a2 : Int32) (ho : (o, 7, 0) ∈ cKT) (hp : p_X7_takeUp S o a1 a2) : AM G l yX7_takeUp cX7_takeUp 3 none (rmD 2 0 0) 0 0 [.ref o, .int a1, .int a2] S (FP none (f_X7_takeUp S o a1 a2)) := by
  obtain ⟨h0, h1, h2, h3, h4, h5⟩ := hp
  refine AM.mk (by decide) (Nat.le_of_ble_eq_true rfl) ?_
  intro p e s m below meth c hC hSt _
  refine aw_aload_n hC 0 dX7_takeUp_0 rfl rfl ?_
  refine aw_aload_n hC 0 dX7_takeUp_1 rfl rfl ?_
  refine aw_getP (b := (o + 1)) hC hSt 0 (cs_lt o 7 0 ho hM) (cs_k o 7 0 ho hM) rfl (by decide) w_580 rfl (cs_p o 0 (o + 1) (sc_pway ho) hM) dX7_takeUp_2 ?_
  refine aw_iconst (v := 0) hC dX7_takeUp_5 (by decide) ?_
  refine aw_iload_n hC 1 dX7_takeUp_6 rfl rfl ?_
  refine aw_iconst (v := 0) hC dX7_takeUp_7 (by decide) ?_
  refine aw_cV3r hC hSt (t_X10_value G l hM _ _ _ _ (sc_way ho) (h0)) w_10 w_587 w_16 w_17 w_18 rfl rfl (by decide +kernel) ⟨Nat.le_of_ble_eq_true rfl, Nat.le_of_ble_eq_true rfl⟩ (cs_lt (o + 1) 10 0 (sc_way ho) hM) (cs_k (o + 1) 10 0 (sc_way ho) hM) rfl (Nat.le_of_ble_eq_true rfl) dX7_takeUp_8 ⟨Nat.zero_le _, Nat.zero_le _⟩ ?_
  refine aw_putI hC hSt 4 (cs_lt o 7 0 ho hM) (cs_k o 7 0 ho hM) rfl (by decide) w_105 rfl rfl rfl rfl dX7_takeUp_11 ?_
  generalize eS1 : (sI S o 4 (f_X10_value S (o + 1) (0 : Int32) a1 (0 : Int32))) = S1
  have hM : CS S1 := CS.of (by rw [← eS1]; exact shp_sI _ _ _ _) hM
  refine aw_aload_n hC 0 dX7_takeUp_14 rfl rfl ?_
  refine aw_aload_n hC 0 dX7_takeUp_15 rfl rfl ?_
  refine aw_getP (b := (o + 1)) hC hSt 0 (cs_lt o 7 0 ho hM) (cs_k o 7 0 ho hM) rfl (by decide) w_580 rfl (cs_p o 0 (o + 1) (sc_pway ho) hM) dX7_takeUp_16 ?_
  refine aw_iconst (v := 0) hC dX7_takeUp_19 (by decide) ?_
  refine aw_iload_n hC 1 dX7_takeUp_20 rfl rfl ?_
  refine aw_iconst (v := 1) hC dX7_takeUp_21 (by decide) ?_
  refine aw_cV3r hC hSt (t_X10_value G l hM _ _ _ _ (sc_way ho) (h1 S1 eS1)) w_10 w_587 w_16 w_17 w_18 rfl rfl (by decide +kernel) ⟨Nat.le_of_ble_eq_true rfl, Nat.le_of_ble_eq_true rfl⟩ (cs_lt (o + 1) 10 0 (sc_way ho) hM) (cs_k (o + 1) 10 0 (sc_way ho) hM) rfl (Nat.le_of_ble_eq_true rfl) dX7_takeUp_22 ⟨Nat.zero_le _, Nat.zero_le _⟩ ?_
  refine aw_putI hC hSt 5 (cs_lt o 7 0 ho hM) (cs_k o 7 0 ho hM) rfl (by decide) w_102 rfl rfl rfl rfl dX7_takeUp_25 ?_
  generalize eS2 : (sI S1 o 5 (f_X10_value S1 (o + 1) (0 : Int32) a1 (1 : Int32))) = S2
  have hM : CS S2 := CS.of (by rw [← eS2]; exact shp_sI _ _ _ _) hM
  refine aw_aload_n hC 0 dX7_takeUp_28 rfl rfl ?_
  refine aw_aload_n hC 0 dX7_takeUp_29 rfl rfl ?_
  refine aw_getP (b := (o + 1)) hC hSt 0 (cs_lt o 7 0 ho hM) (cs_k o 7 0 ho hM) rfl (by decide) w_580 rfl (cs_p o 0 (o + 1) (sc_pway ho) hM) dX7_takeUp_30 ?_
  refine aw_iconst (v := 0) hC dX7_takeUp_33 (by decide) ?_
  refine aw_iload_n hC 1 dX7_takeUp_34 rfl rfl ?_
  refine aw_iconst (v := 2) hC dX7_takeUp_35 (by decide) ?_
  refine aw_cV3r hC hSt (t_X10_value G l hM _ _ _ _ (sc_way ho) (h2 S1 eS1 S2 eS2)) w_10 w_587 w_16 w_17 w_18 rfl rfl (by decide +kernel) ⟨Nat.le_of_ble_eq_true rfl, Nat.le_of_ble_eq_true rfl⟩ (cs_lt (o + 1) 10 0 (sc_way ho) hM) (cs_k (o + 1) 10 0 (sc_way ho) hM) rfl (Nat.le_of_ble_eq_true rfl) dX7_takeUp_36 ⟨Nat.zero_le _, Nat.zero_le _⟩ ?_
  refine aw_putI hC hSt 6 (cs_lt o 7 0 ho hM) (cs_k o 7 0 ho hM) rfl (by decide) w_101 rfl rfl rfl rfl dX7_takeUp_39 ?_
  generalize eS3 : (sI S2 o 6 (f_X10_value S2 (o + 1) (0 : Int32) a1 (2 : Int32))) = S3
  have hM : CS S3 := CS.of (by rw [← eS3]; exact shp_sI _ _ _ _) hM
  refine aw_aload_n hC 0 dX7_takeUp_42 rfl rfl ?_
  refine aw_aload_n hC 0 dX7_takeUp_43 rfl rfl ?_
  refine aw_getP (b := (o + 1)) hC hSt 0 (cs_lt o 7 0 ho hM) (cs_k o 7 0 ho hM) rfl (by decide) w_580 rfl (cs_p o 0 (o + 1) (sc_pway ho) hM) dX7_takeUp_44 ?_
  refine aw_iconst (v := 1) hC dX7_takeUp_47 (by decide) ?_
  refine aw_iload_n hC 2 dX7_takeUp_48 rfl rfl ?_
  refine aw_iconst (v := 0) hC dX7_takeUp_49 (by decide) ?_
  refine aw_cV3r hC hSt (t_X10_value G l hM _ _ _ _ (sc_way ho) (h3 S1 eS1 S2 eS2 S3 eS3)) w_10 w_587 w_16 w_17 w_18 rfl rfl (by decide +kernel) ⟨Nat.le_of_ble_eq_true rfl, Nat.le_of_ble_eq_true rfl⟩ (cs_lt (o + 1) 10 0 (sc_way ho) hM) (cs_k (o + 1) 10 0 (sc_way ho) hM) rfl (Nat.le_of_ble_eq_true rfl) dX7_takeUp_50 ⟨Nat.zero_le _, Nat.zero_le _⟩ ?_
  refine aw_putI hC hSt 7 (cs_lt o 7 0 ho hM) (cs_k o 7 0 ho hM) rfl (by decide) w_155 rfl rfl rfl rfl dX7_takeUp_53 ?_
  generalize eS4 : (sI S3 o 7 (f_X10_value S3 (o + 1) (1 : Int32) a2 (0 : Int32))) = S4
  have hM : CS S4 := CS.of (by rw [← eS4]; exact shp_sI _ _ _ _) hM
  refine aw_aload_n hC 0 dX7_takeUp_56 rfl rfl ?_
  refine aw_aload_n hC 0 dX7_takeUp_57 rfl rfl ?_
  refine aw_getP (b := (o + 1)) hC hSt 0 (cs_lt o 7 0 ho hM) (cs_k o 7 0 ho hM) rfl (by decide) w_580 rfl (cs_p o 0 (o + 1) (sc_pway ho) hM) dX7_takeUp_58 ?_
  refine aw_iconst (v := 1) hC dX7_takeUp_61 (by decide) ?_
  refine aw_iload_n hC 2 dX7_takeUp_62 rfl rfl ?_
  refine aw_iconst (v := 1) hC dX7_takeUp_63 (by decide) ?_
  refine aw_cV3r hC hSt (t_X10_value G l hM _ _ _ _ (sc_way ho) (h4 S1 eS1 S2 eS2 S3 eS3 S4 eS4)) w_10 w_587 w_16 w_17 w_18 rfl rfl (by decide +kernel) ⟨Nat.le_of_ble_eq_true rfl, Nat.le_of_ble_eq_true rfl⟩ (cs_lt (o + 1) 10 0 (sc_way ho) hM) (cs_k (o + 1) 10 0 (sc_way ho) hM) rfl (Nat.le_of_ble_eq_true rfl) dX7_takeUp_64 ⟨Nat.zero_le _, Nat.zero_le _⟩ ?_
  refine aw_putI hC hSt 8 (cs_lt o 7 0 ho hM) (cs_k o 7 0 ho hM) rfl (by decide) w_156 rfl rfl rfl rfl dX7_takeUp_67 ?_
  generalize eS5 : (sI S4 o 8 (f_X10_value S4 (o + 1) (1 : Int32) a2 (1 : Int32))) = S5
  have hM : CS S5 := CS.of (by rw [← eS5]; exact shp_sI _ _ _ _) hM
  refine aw_aload_n hC 0 dX7_takeUp_70 rfl rfl ?_
  refine aw_aload_n hC 0 dX7_takeUp_71 rfl rfl ?_
  refine aw_getP (b := (o + 1)) hC hSt 0 (cs_lt o 7 0 ho hM) (cs_k o 7 0 ho hM) rfl (by decide) w_580 rfl (cs_p o 0 (o + 1) (sc_pway ho) hM) dX7_takeUp_72 ?_
  refine aw_iconst (v := 1) hC dX7_takeUp_75 (by decide) ?_
  refine aw_iload_n hC 2 dX7_takeUp_76 rfl rfl ?_
  refine aw_iconst (v := 2) hC dX7_takeUp_77 (by decide) ?_
  refine aw_cV3r hC hSt (t_X10_value G l hM _ _ _ _ (sc_way ho) (h5 S1 eS1 S2 eS2 S3 eS3 S4 eS4 S5 eS5)) w_10 w_587 w_16 w_17 w_18 rfl rfl (by decide +kernel) ⟨Nat.le_of_ble_eq_true rfl, Nat.le_of_ble_eq_true rfl⟩ (cs_lt (o + 1) 10 0 (sc_way ho) hM) (cs_k (o + 1) 10 0 (sc_way ho) hM) rfl (Nat.le_of_ble_eq_true rfl) dX7_takeUp_78 ⟨Nat.zero_le _, Nat.zero_le _⟩ ?_
  refine aw_putI hC hSt 9 (cs_lt o 7 0 ho hM) (cs_k o 7 0 ho hM) rfl (by decide) w_585 rfl rfl rfl rfl dX7_takeUp_81 ?_
  generalize eS6 : (sI S5 o 9 (f_X10_value S5 (o + 1) (1 : Int32) a2 (2 : Int32))) = S6
  have hM : CS S6 := CS.of (by rw [← eS6]; exact shp_sI _ _ _ _) hM
  refine aw_aload_n hC 0 dX7_takeUp_84 rfl rfl ?_
  refine aw_getP (b := (o + 4)) hC hSt 1 (cs_lt o 7 0 ho hM) (cs_k o 7 0 ho hM) rfl (by decide) w_582 rfl (cs_p o 1 (o + 4) (sc_ploop ho) hM) dX7_takeUp_85 ?_
  refine aw_cV0v hC hSt (t_X1_begin G l hM _ (sc_loop ho)) w_79 w_588 w_562 w_563 w_84 rfl rfl (by decide +kernel) ⟨Nat.le_of_ble_eq_true rfl, Nat.le_of_ble_eq_true rfl⟩ (cs_lt (o + 4) 1 0 (sc_loop ho) hM) (cs_k (o + 4) 1 0 (sc_loop ho) hM) rfl (Nat.le_of_ble_eq_true rfl) dX7_takeUp_88 ⟨Nat.zero_le _, Nat.zero_le _⟩ ?_
  generalize er7 : f_X1_begin S6 (o + 4) = r7
  have hM : CS r7 := CS.of (by rw [← er7]; exact q_X1_begin _ _) hM
  refine aw_aload_n hC 0 dX7_takeUp_91 rfl rfl ?_
  refine aw_dup hC dX7_takeUp_92 rfl ?_
  refine aw_getI hC hSt 3 (cs_lt o 7 0 ho hM) (cs_k o 7 0 ho hM) rfl (by decide) w_586 rfl dX7_takeUp_93 ?_
  refine aw_iconst (v := 1) hC dX7_takeUp_96 (by decide) ?_
  refine aw_iadd hC dX7_takeUp_97 ?_
  refine aw_putI hC hSt 3 (cs_lt o 7 0 ho hM) (cs_k o 7 0 ho hM) rfl (by decide) w_586 rfl rfl rfl rfl dX7_takeUp_98 ?_
  generalize eS8 : (sI r7 o 3 ((gI r7 o 3) + (1 : Int32))) = S8
  have hM : CS S8 := CS.of (by rw [← eS8]; exact shp_sI _ _ _ _) hM
  refine aw_vret hC dX7_takeUp_101 (Nat.le_refl _) (Nat.le_refl _) ?_
  exact FP.qV ((bd_eq eS1).trans ((bd_eq eS2).trans ((bd_eq eS3).trans ((bd_eq eS4).trans ((bd_eq eS5).trans ((bd_eq eS6).trans ((bd_eq er7).trans ((bd_eq eS8).trans (rfl)))))))))
theorem q_X7_takeUp (S : HSt) (o : Nat) (a1 : Int32) (a2 : Int32) : shp (f_X7_takeUp S o a1 a2) = shp S := by
  unfold f_X7_takeUp
  repeat' (first | with_reducible rfl | with_reducible refine (q_X1_begin _ _).trans ?_ | with_reducible refine (shp_sI _ _ _ _).trans ?_ | with_reducible refine (shp_sJ _ _ _ _).trans ?_ | with_reducible refine (shp_rI _ _ _).trans ?_ | with_reducible refine shi ?_ ?_ | with_reducible refine shb (fun _ _ => ?_) | (subst_vars; with_reducible rfl) | (subst_vars; with_reducible refine (q_X1_begin _ _).trans ?_) | (subst_vars; with_reducible refine (shp_sI _ _ _ _).trans ?_) | (subst_vars; with_reducible refine (shp_sJ _ _ _ _).trans ?_) | (subst_vars; with_reducible refine (shp_rI _ _ _).trans ?_) | (subst_vars; with_reducible refine shi ?_ ?_) | (subst_vars; with_reducible refine shb (fun _ _ => ?_)))
theorem v_X7_takeUp (S : HSt) (o : Nat) (a1 : Int32) (a2 : Int32) : Fr [((o + 4), 0), ((o + 4), 1), ((o + 4), 2), ((o + 4), 3), ((o + 4), 4), ((o + 4), 5), ((o + 4), 6), (o, 3), (o, 4), (o, 5), (o, 6), (o, 7), (o, 8), (o, 9)] S (f_X7_takeUp S o a1 a2) := by
  unfold f_X7_takeUp
  repeat' (first | with_reducible exact Fr.refl _ _ | with_reducible refine Fr.l1 (fun _ _ => ?_) | with_reducible refine Fr.ite ?_ ?_ | with_reducible refine Fr.sE (by assumption) (by first | decide | simp only [List.mem_cons, List.not_mem_nil, or_false, true_or, or_true, eq_self_iff_true]) ?_ | with_reducible refine Fr.jE (by assumption) ?_ | with_reducible refine Fr.rE (by assumption) (by first | decide | simp only [List.mem_cons, List.not_mem_nil, or_false, true_or, or_true, eq_self_iff_true]) ?_ | with_reducible refine Fr.iE (by assumption) ?_ ?_ | with_reducible refine Fr.tr (w_X1_begin _ _ _ (by assumption)) (by first | decide | simp only [List.mem_cons, List.not_mem_nil, or_false, forall_eq_or_imp, forall_eq, true_or, or_true, and_self, eq_self_iff_true]) ?_)
theorem w_X7_takeUp (S : HSt) (o : Nat) (a1 : Int32) (a2 : Int32) (r : HSt) (e : f_X7_takeUp S o a1 a2 = r) : Fr [((o + 4), 0), ((o + 4), 1), ((o + 4), 2), ((o + 4), 3), ((o + 4), 4), ((o + 4), 5), ((o + 4), 6), (o, 3), (o, 4), (o, 5), (o, 6), (o, 7), (o, 8), (o, 9)] S r := by
  rw [← e]
  exact v_X7_takeUp S o a1 a2
noncomputable def f_X7_begin (S : HSt) (o : Nat) (w1 : Nat) : HSt := bd (f_X10_copyFrom S (o + 1) w1) fun r1 => bd ((sI r1 o 2 (1 : Int32))) fun S2 => bd (f_X7_takeUp S2 o (0 : Int32) (0 : Int32)) fun r3 => r3
def p_X7_begin (S : HSt) (o : Nat) (w1 : Nat) : Prop := (∀ r1, f_X10_copyFrom S (o + 1) w1 = r1 → ∀ S2 : HSt, (sI r1 o 2 (1 : Int32)) = S2 → p_X7_takeUp S2 o (0 : Int32) (0 : Int32))
set_option maxRecDepth 100000 in
theorem t_X7_begin (G : GG) (l : Launch) {S : HSt} (hM : CS S) (o : Nat) (w1 : Nat) (ho : (o, 7, 0) ∈ cKT) (hw1 : (w1, 10, 0) ∈ cKT) (hp : p_X7_begin S o w1) : AM G l yX7_begin cX7_begin 2 none (rmD 3 0 0) 0 0 [.ref o, .ref w1] S (FP none (f_X7_begin S o w1)) := by
  have h0 := hp
  unfold p_X7_begin at h0
  refine AM.mk (by decide) (Nat.le_of_ble_eq_true rfl) ?_
  intro p e s m below meth c hC hSt _
  refine aw_aload_n hC 0 dX7_begin_0 rfl rfl ?_
  refine aw_getP (b := (o + 1)) hC hSt 0 (cs_lt o 7 0 ho hM) (cs_k o 7 0 ho hM) rfl (by decide) w_580 rfl (cs_p o 0 (o + 1) (sc_pway ho) hM) dX7_begin_1 ?_
  refine aw_aload_n hC 1 dX7_begin_4 rfl rfl ?_
  refine aw_cV1v hC hSt (t_X10_copyFrom G l hM _ _ (sc_way ho) hw1) w_583 w_591 w_592 w_593 w_18 rfl rfl (by decide +kernel) ⟨Nat.le_of_ble_eq_true rfl, Nat.le_of_ble_eq_true rfl⟩ (cs_lt (o + 1) 10 0 (sc_way ho) hM) (cs_k (o + 1) 10 0 (sc_way ho) hM) rfl (Nat.le_of_ble_eq_true rfl) dX7_begin_5 ⟨Nat.zero_le _, Nat.zero_le _⟩ ?_
  generalize er1 : f_X10_copyFrom S (o + 1) w1 = r1
  have hM : CS r1 := CS.of (by rw [← er1]; exact q_X10_copyFrom _ _ _) hM
  refine aw_aload_n hC 0 dX7_begin_8 rfl rfl ?_
  refine aw_iconst (v := 1) hC dX7_begin_9 (by decide) ?_
  refine aw_putI hC hSt 2 (cs_lt o 7 0 ho hM) (cs_k o 7 0 ho hM) rfl (by decide) w_590 rfl rfl (by decide) (by decide) dX7_begin_10 ?_
  generalize eS2 : (sI r1 o 2 (1 : Int32)) = S2
  have hM : CS S2 := CS.of (by rw [← eS2]; exact shp_sI _ _ _ _) hM
  refine aw_aload_n hC 0 dX7_begin_13 rfl rfl ?_
  refine aw_iconst (v := 0) hC dX7_begin_14 (by decide) ?_
  refine aw_iconst (v := 0) hC dX7_begin_15 (by decide) ?_
  refine aw_cV2v hC hSt (t_X7_takeUp G l hM _ _ _ ho (h0 r1 er1 S2 eS2)) w_589 w_594 w_595 w_596 w_114 rfl rfl (by decide +kernel) ⟨Nat.le_of_ble_eq_true rfl, Nat.le_of_ble_eq_true rfl⟩ (cs_lt o 7 0 ho hM) (cs_k o 7 0 ho hM) rfl (Nat.le_of_ble_eq_true rfl) dX7_begin_16 ⟨Nat.zero_le _, Nat.zero_le _⟩ ?_
  generalize er3 : f_X7_takeUp S2 o (0 : Int32) (0 : Int32) = r3
  have hM : CS r3 := CS.of (by rw [← er3]; exact q_X7_takeUp _ _ _ _) hM
  refine aw_vret hC dX7_begin_19 (Nat.le_refl _) (Nat.le_refl _) ?_
  exact FP.qV ((bd_eq er1).trans ((bd_eq eS2).trans ((bd_eq er3).trans (rfl))))
theorem q_X7_begin (S : HSt) (o : Nat) (w1 : Nat) : shp (f_X7_begin S o w1) = shp S := by
  unfold f_X7_begin
  repeat' (first | with_reducible rfl | with_reducible refine (q_X10_copyFrom _ _ _).trans ?_ | with_reducible refine (q_X7_takeUp _ _ _ _).trans ?_ | with_reducible refine (shp_sI _ _ _ _).trans ?_ | with_reducible refine (shp_sJ _ _ _ _).trans ?_ | with_reducible refine (shp_rI _ _ _).trans ?_ | with_reducible refine shi ?_ ?_ | with_reducible refine shb (fun _ _ => ?_) | (subst_vars; with_reducible rfl) | (subst_vars; with_reducible refine (q_X10_copyFrom _ _ _).trans ?_) | (subst_vars; with_reducible refine (q_X7_takeUp _ _ _ _).trans ?_) | (subst_vars; with_reducible refine (shp_sI _ _ _ _).trans ?_) | (subst_vars; with_reducible refine (shp_sJ _ _ _ _).trans ?_) | (subst_vars; with_reducible refine (shp_rI _ _ _).trans ?_) | (subst_vars; with_reducible refine shi ?_ ?_) | (subst_vars; with_reducible refine shb (fun _ _ => ?_)))
theorem v_X7_begin (S : HSt) (o : Nat) (w1 : Nat) : Fr [(((o + 1) + 1), 1000), (((o + 1) + 2), 1000), ((o + 4), 0), ((o + 4), 1), ((o + 4), 2), ((o + 4), 3), ((o + 4), 4), ((o + 4), 5), ((o + 4), 6), (o, 2), (o, 3), (o, 4), (o, 5), (o, 6), (o, 7), (o, 8), (o, 9)] S (f_X7_begin S o w1) := by
  unfold f_X7_begin
  repeat' (first | with_reducible exact Fr.refl _ _ | with_reducible refine Fr.l1 (fun _ _ => ?_) | with_reducible refine Fr.ite ?_ ?_ | with_reducible refine Fr.sE (by assumption) (by first | decide | simp only [List.mem_cons, List.not_mem_nil, or_false, true_or, or_true, eq_self_iff_true]) ?_ | with_reducible refine Fr.jE (by assumption) ?_ | with_reducible refine Fr.rE (by assumption) (by first | decide | simp only [List.mem_cons, List.not_mem_nil, or_false, true_or, or_true, eq_self_iff_true]) ?_ | with_reducible refine Fr.iE (by assumption) ?_ ?_ | with_reducible refine Fr.tr (w_X10_copyFrom _ _ _ _ (by assumption)) (by first | decide | simp only [List.mem_cons, List.not_mem_nil, or_false, forall_eq_or_imp, forall_eq, true_or, or_true, and_self, eq_self_iff_true]) ?_ | with_reducible refine Fr.tr (w_X7_takeUp _ _ _ _ _ (by assumption)) (by first | decide | simp only [List.mem_cons, List.not_mem_nil, or_false, forall_eq_or_imp, forall_eq, true_or, or_true, and_self, eq_self_iff_true]) ?_)
theorem w_X7_begin (S : HSt) (o : Nat) (w1 : Nat) (r : HSt) (e : f_X7_begin S o w1 = r) : Fr [(((o + 1) + 1), 1000), (((o + 1) + 2), 1000), ((o + 4), 0), ((o + 4), 1), ((o + 4), 2), ((o + 4), 3), ((o + 4), 4), ((o + 4), 5), ((o + 4), 6), (o, 2), (o, 3), (o, 4), (o, 5), (o, 6), (o, 7), (o, 8), (o, 9)] S r := by
  rw [← e]
  exact v_X7_begin S o w1
noncomputable def f_X7_copyFrom (S : HSt) (o : Nat) (sc1 : Nat) : HSt := bd (f_X10_copyFrom S (o + 1) (sc1 + 1)) fun r1 => bd (f_X1_copyFrom r1 (o + 4) (sc1 + 4)) fun r2 => bd ((sI r2 o 2 (gI r2 sc1 2))) fun S3 => bd ((sI S3 o 4 (gI S3 sc1 4))) fun S4 => bd ((sI S4 o 5 (gI S4 sc1 5))) fun S5 => bd ((sI S5 o 6 (gI S5 sc1 6))) fun S6 => bd ((sI S6 o 7 (gI S6 sc1 7))) fun S7 => bd ((sI S7 o 8 (gI S7 sc1 8))) fun S8 => bd ((sI S8 o 9 (gI S8 sc1 9))) fun S9 => bd ((sI S9 o 3 ((gI S9 o 3) + (1 : Int32)))) fun S10 => S10
def p_X7_copyFrom (S : HSt) (o : Nat) (sc1 : Nat) : Prop := (∀ r1, f_X10_copyFrom S (o + 1) (sc1 + 1) = r1 → p_X1_copyFrom r1 (o + 4) (sc1 + 4)) ∧ (∀ r1, f_X10_copyFrom S (o + 1) (sc1 + 1) = r1 → ∀ r2, f_X1_copyFrom r1 (o + 4) (sc1 + 4) = r2 → Bz (gI r2 sc1 2))
set_option maxRecDepth 100000 in
theorem t_X7_copyFrom (G : GG) (l : Launch) {S : HSt} (hM : CS S) (o : Nat) (sc1 : Nat) (ho : (o, 7, 0) ∈ cKT) (hsc1 : (sc1, 7, 0) ∈ cKT) (hp : p_X7_copyFrom S o sc1) : AM G l yX7_copyFrom cX7_copyFrom 2 none (rmD 2 0 0) 0 0 [.ref o, .ref sc1] S (FP none (f_X7_copyFrom S o sc1)) := by
  obtain ⟨h0, h1⟩ := hp
  refine AM.mk (by decide) (Nat.le_of_ble_eq_true rfl) ?_
  intro p e s m below meth c hC hSt _
  refine aw_aload_n hC 0 dX7_copyFrom_0 rfl rfl ?_
  refine aw_getP (b := (o + 1)) hC hSt 0 (cs_lt o 7 0 ho hM) (cs_k o 7 0 ho hM) rfl (by decide) w_580 rfl (cs_p o 0 (o + 1) (sc_pway ho) hM) dX7_copyFrom_1 ?_
  refine aw_aload_n hC 1 dX7_copyFrom_4 rfl rfl ?_
  refine aw_getP (b := (sc1 + 1)) hC hSt 0 (cs_lt sc1 7 0 hsc1 hM) (cs_k sc1 7 0 hsc1 hM) rfl (by decide) w_580 rfl (cs_p sc1 0 (sc1 + 1) (sc_pway hsc1) hM) dX7_copyFrom_5 ?_
  refine aw_cV1v hC hSt (t_X10_copyFrom G l hM _ _ (sc_way ho) (sc_way hsc1)) w_583 w_591 w_592 w_593 w_18 rfl rfl (by decide +kernel) ⟨Nat.le_of_ble_eq_true rfl, Nat.le_of_ble_eq_true rfl⟩ (cs_lt (o + 1) 10 0 (sc_way ho) hM) (cs_k (o + 1) 10 0 (sc_way ho) hM) rfl (Nat.le_of_ble_eq_true rfl) dX7_copyFrom_8 ⟨Nat.zero_le _, Nat.zero_le _⟩ ?_
  generalize er1 : f_X10_copyFrom S (o + 1) (sc1 + 1) = r1
  have hM : CS r1 := CS.of (by rw [← er1]; exact q_X10_copyFrom _ _ _) hM
  refine aw_aload_n hC 0 dX7_copyFrom_11 rfl rfl ?_
  refine aw_getP (b := (o + 4)) hC hSt 1 (cs_lt o 7 0 ho hM) (cs_k o 7 0 ho hM) rfl (by decide) w_582 rfl (cs_p o 1 (o + 4) (sc_ploop ho) hM) dX7_copyFrom_12 ?_
  refine aw_aload_n hC 1 dX7_copyFrom_15 rfl rfl ?_
  refine aw_getP (b := (sc1 + 4)) hC hSt 1 (cs_lt sc1 7 0 hsc1 hM) (cs_k sc1 7 0 hsc1 hM) rfl (by decide) w_582 rfl (cs_p sc1 1 (sc1 + 4) (sc_ploop hsc1) hM) dX7_copyFrom_16 ?_
  refine aw_cV1v hC hSt (t_X1_copyFrom G l hM _ _ (sc_loop ho) (sc_loop hsc1) (h0 r1 er1)) w_86 w_598 w_213 w_214 w_84 rfl rfl (by decide +kernel) ⟨Nat.le_of_ble_eq_true rfl, Nat.le_of_ble_eq_true rfl⟩ (cs_lt (o + 4) 1 0 (sc_loop ho) hM) (cs_k (o + 4) 1 0 (sc_loop ho) hM) rfl (Nat.le_of_ble_eq_true rfl) dX7_copyFrom_19 ⟨Nat.zero_le _, Nat.zero_le _⟩ ?_
  generalize er2 : f_X1_copyFrom r1 (o + 4) (sc1 + 4) = r2
  have hM : CS r2 := CS.of (by rw [← er2]; exact q_X1_copyFrom _ _ _) hM
  refine aw_aload_n hC 0 dX7_copyFrom_22 rfl rfl ?_
  refine aw_aload_n hC 1 dX7_copyFrom_23 rfl rfl ?_
  refine aw_getI hC hSt 2 (cs_lt sc1 7 0 hsc1 hM) (cs_k sc1 7 0 hsc1 hM) rfl (by decide) w_590 rfl dX7_copyFrom_24 ?_
  refine aw_putI hC hSt 2 (cs_lt o 7 0 ho hM) (cs_k o 7 0 ho hM) rfl (by decide) w_590 rfl rfl (Bz.n (h1 r1 er1 r2 er2)) (Bz.f (h1 r1 er1 r2 er2)) dX7_copyFrom_27 ?_
  generalize eS3 : (sI r2 o 2 (gI r2 sc1 2)) = S3
  have hM : CS S3 := CS.of (by rw [← eS3]; exact shp_sI _ _ _ _) hM
  refine aw_aload_n hC 0 dX7_copyFrom_30 rfl rfl ?_
  refine aw_aload_n hC 1 dX7_copyFrom_31 rfl rfl ?_
  refine aw_getI hC hSt 4 (cs_lt sc1 7 0 hsc1 hM) (cs_k sc1 7 0 hsc1 hM) rfl (by decide) w_105 rfl dX7_copyFrom_32 ?_
  refine aw_putI hC hSt 4 (cs_lt o 7 0 ho hM) (cs_k o 7 0 ho hM) rfl (by decide) w_105 rfl rfl rfl rfl dX7_copyFrom_35 ?_
  generalize eS4 : (sI S3 o 4 (gI S3 sc1 4)) = S4
  have hM : CS S4 := CS.of (by rw [← eS4]; exact shp_sI _ _ _ _) hM
  refine aw_aload_n hC 0 dX7_copyFrom_38 rfl rfl ?_
  refine aw_aload_n hC 1 dX7_copyFrom_39 rfl rfl ?_
  refine aw_getI hC hSt 5 (cs_lt sc1 7 0 hsc1 hM) (cs_k sc1 7 0 hsc1 hM) rfl (by decide) w_102 rfl dX7_copyFrom_40 ?_
  refine aw_putI hC hSt 5 (cs_lt o 7 0 ho hM) (cs_k o 7 0 ho hM) rfl (by decide) w_102 rfl rfl rfl rfl dX7_copyFrom_43 ?_
  generalize eS5 : (sI S4 o 5 (gI S4 sc1 5)) = S5
  have hM : CS S5 := CS.of (by rw [← eS5]; exact shp_sI _ _ _ _) hM
  refine aw_aload_n hC 0 dX7_copyFrom_46 rfl rfl ?_
  refine aw_aload_n hC 1 dX7_copyFrom_47 rfl rfl ?_
  refine aw_getI hC hSt 6 (cs_lt sc1 7 0 hsc1 hM) (cs_k sc1 7 0 hsc1 hM) rfl (by decide) w_101 rfl dX7_copyFrom_48 ?_
  refine aw_putI hC hSt 6 (cs_lt o 7 0 ho hM) (cs_k o 7 0 ho hM) rfl (by decide) w_101 rfl rfl rfl rfl dX7_copyFrom_51 ?_
  generalize eS6 : (sI S5 o 6 (gI S5 sc1 6)) = S6
  have hM : CS S6 := CS.of (by rw [← eS6]; exact shp_sI _ _ _ _) hM
  refine aw_aload_n hC 0 dX7_copyFrom_54 rfl rfl ?_
  refine aw_aload_n hC 1 dX7_copyFrom_55 rfl rfl ?_
  refine aw_getI hC hSt 7 (cs_lt sc1 7 0 hsc1 hM) (cs_k sc1 7 0 hsc1 hM) rfl (by decide) w_155 rfl dX7_copyFrom_56 ?_
  refine aw_putI hC hSt 7 (cs_lt o 7 0 ho hM) (cs_k o 7 0 ho hM) rfl (by decide) w_155 rfl rfl rfl rfl dX7_copyFrom_59 ?_
  generalize eS7 : (sI S6 o 7 (gI S6 sc1 7)) = S7
  have hM : CS S7 := CS.of (by rw [← eS7]; exact shp_sI _ _ _ _) hM
  refine aw_aload_n hC 0 dX7_copyFrom_62 rfl rfl ?_
  refine aw_aload_n hC 1 dX7_copyFrom_63 rfl rfl ?_
  refine aw_getI hC hSt 8 (cs_lt sc1 7 0 hsc1 hM) (cs_k sc1 7 0 hsc1 hM) rfl (by decide) w_156 rfl dX7_copyFrom_64 ?_
  refine aw_putI hC hSt 8 (cs_lt o 7 0 ho hM) (cs_k o 7 0 ho hM) rfl (by decide) w_156 rfl rfl rfl rfl dX7_copyFrom_67 ?_
  generalize eS8 : (sI S7 o 8 (gI S7 sc1 8)) = S8
  have hM : CS S8 := CS.of (by rw [← eS8]; exact shp_sI _ _ _ _) hM
  refine aw_aload_n hC 0 dX7_copyFrom_70 rfl rfl ?_
  refine aw_aload_n hC 1 dX7_copyFrom_71 rfl rfl ?_
  refine aw_getI hC hSt 9 (cs_lt sc1 7 0 hsc1 hM) (cs_k sc1 7 0 hsc1 hM) rfl (by decide) w_585 rfl dX7_copyFrom_72 ?_
  refine aw_putI hC hSt 9 (cs_lt o 7 0 ho hM) (cs_k o 7 0 ho hM) rfl (by decide) w_585 rfl rfl rfl rfl dX7_copyFrom_75 ?_
  generalize eS9 : (sI S8 o 9 (gI S8 sc1 9)) = S9
  have hM : CS S9 := CS.of (by rw [← eS9]; exact shp_sI _ _ _ _) hM
  refine aw_aload_n hC 0 dX7_copyFrom_78 rfl rfl ?_
  refine aw_dup hC dX7_copyFrom_79 rfl ?_
  refine aw_getI hC hSt 3 (cs_lt o 7 0 ho hM) (cs_k o 7 0 ho hM) rfl (by decide) w_586 rfl dX7_copyFrom_80 ?_
  refine aw_iconst (v := 1) hC dX7_copyFrom_83 (by decide) ?_
  refine aw_iadd hC dX7_copyFrom_84 ?_
  refine aw_putI hC hSt 3 (cs_lt o 7 0 ho hM) (cs_k o 7 0 ho hM) rfl (by decide) w_586 rfl rfl rfl rfl dX7_copyFrom_85 ?_
  generalize eS10 : (sI S9 o 3 ((gI S9 o 3) + (1 : Int32))) = S10
  have hM : CS S10 := CS.of (by rw [← eS10]; exact shp_sI _ _ _ _) hM
  refine aw_vret hC dX7_copyFrom_88 (Nat.le_refl _) (Nat.le_refl _) ?_
  exact FP.qV ((bd_eq er1).trans ((bd_eq er2).trans ((bd_eq eS3).trans ((bd_eq eS4).trans ((bd_eq eS5).trans ((bd_eq eS6).trans ((bd_eq eS7).trans ((bd_eq eS8).trans ((bd_eq eS9).trans ((bd_eq eS10).trans (rfl)))))))))))
theorem q_X7_copyFrom (S : HSt) (o : Nat) (sc1 : Nat) : shp (f_X7_copyFrom S o sc1) = shp S := by
  unfold f_X7_copyFrom
  repeat' (first | with_reducible rfl | with_reducible refine (q_X10_copyFrom _ _ _).trans ?_ | with_reducible refine (q_X1_copyFrom _ _ _).trans ?_ | with_reducible refine (shp_sI _ _ _ _).trans ?_ | with_reducible refine (shp_sJ _ _ _ _).trans ?_ | with_reducible refine (shp_rI _ _ _).trans ?_ | with_reducible refine shi ?_ ?_ | with_reducible refine shb (fun _ _ => ?_) | (subst_vars; with_reducible rfl) | (subst_vars; with_reducible refine (q_X10_copyFrom _ _ _).trans ?_) | (subst_vars; with_reducible refine (q_X1_copyFrom _ _ _).trans ?_) | (subst_vars; with_reducible refine (shp_sI _ _ _ _).trans ?_) | (subst_vars; with_reducible refine (shp_sJ _ _ _ _).trans ?_) | (subst_vars; with_reducible refine (shp_rI _ _ _).trans ?_) | (subst_vars; with_reducible refine shi ?_ ?_) | (subst_vars; with_reducible refine shb (fun _ _ => ?_)))
theorem v_X7_copyFrom (S : HSt) (o : Nat) (sc1 : Nat) : Fr [(((o + 1) + 1), 1000), (((o + 1) + 2), 1000), ((o + 4), 0), ((o + 4), 1), ((o + 4), 2), ((o + 4), 3), ((o + 4), 4), ((o + 4), 5), ((o + 4), 6), (o, 2), (o, 3), (o, 4), (o, 5), (o, 6), (o, 7), (o, 8), (o, 9)] S (f_X7_copyFrom S o sc1) := by
  unfold f_X7_copyFrom
  repeat' (first | with_reducible exact Fr.refl _ _ | with_reducible refine Fr.l1 (fun _ _ => ?_) | with_reducible refine Fr.ite ?_ ?_ | with_reducible refine Fr.sE (by assumption) (by first | decide | simp only [List.mem_cons, List.not_mem_nil, or_false, true_or, or_true, eq_self_iff_true]) ?_ | with_reducible refine Fr.jE (by assumption) ?_ | with_reducible refine Fr.rE (by assumption) (by first | decide | simp only [List.mem_cons, List.not_mem_nil, or_false, true_or, or_true, eq_self_iff_true]) ?_ | with_reducible refine Fr.iE (by assumption) ?_ ?_ | with_reducible refine Fr.tr (w_X10_copyFrom _ _ _ _ (by assumption)) (by first | decide | simp only [List.mem_cons, List.not_mem_nil, or_false, forall_eq_or_imp, forall_eq, true_or, or_true, and_self, eq_self_iff_true]) ?_ | with_reducible refine Fr.tr (w_X1_copyFrom _ _ _ _ (by assumption)) (by first | decide | simp only [List.mem_cons, List.not_mem_nil, or_false, forall_eq_or_imp, forall_eq, true_or, or_true, and_self, eq_self_iff_true]) ?_)
theorem w_X7_copyFrom (S : HSt) (o : Nat) (sc1 : Nat) (r : HSt) (e : f_X7_copyFrom S o sc1 = r) : Fr [(((o + 1) + 1), 1000), (((o + 1) + 2), 1000), ((o + 4), 0), ((o + 4), 1), ((o + 4), 2), ((o + 4), 3), ((o + 4), 4), ((o + 4), 5), ((o + 4), 6), (o, 2), (o, 3), (o, 4), (o, 5), (o, 6), (o, 7), (o, 8), (o, 9)] S r := by
  rw [← e]
  exact v_X7_copyFrom S o sc1
noncomputable def f_X1_advance (S : HSt) (o : Nat) (sc1 : Nat) (a2 : Int32) (a3 : Int32) (a4 : Int32) (a5 : Int32) : HSt := bd ((sI S o 1 (f_X1_turned S (gI S o 1) a3 (gI S o 3)))) fun S1 => bd ((if a2 = 0 then (0 : Int32) else (2 : Int32))) fun x3 => bd ((((f_X7_needOf S1 sc1 (gI S1 o 0)) + x3) - (gI S1 o 1))) fun x4 => bd ((if 0 < x4 then (bd ((if a2 = 0 then (5 : Int32) else (3 : Int32))) fun x7 => bd ((sI S1 o 0 (if (0 : Int32) < ((gI S1 o 0) - (x7 * x4)) then ((gI S1 o 0) - (x7 * x4)) else (0 : Int32)))) fun S8 => S8) else (bd ((sI S1 o 0 (if ((gI S1 o 0) + ((a4 * (gI S1 o 1)) / (8 : Int32))) < (f_X7_room S1 sc1) then ((gI S1 o 0) + ((a4 * (gI S1 o 1)) / (8 : Int32))) else (f_X7_room S1 sc1)))) fun S9 => S9))) fun S10 => bd ((if a2 = 0 then ((gI S10 o 1) - a5) else (((gI S10 o 1) - a5) / (2 : Int32)))) fun x12 => bd ((sI S10 o 2 ((gI S10 o 2) + x12))) fun S13 => bd ((sI S13 o 3 ((gI S13 o 3) + (gI S13 o 1)))) fun S14 => bd ((sI S14 o 4 ((gI S14 o 4) + (1 : Int32)))) fun S15 => bd ((if (if 0 ≤ (gI S15 o 2) then (gI S15 o 2) else 0 - (gI S15 o 2)) ≤ (f_X7_limit S15 sc1) then (0 : Int32) else (1 : Int32))) fun x17 => bd ((sI S15 o 6 x17)) fun S18 => bd ((if x4 ≤ 0 then (0 : Int32) else (1 : Int32))) fun x20 => bd ((if (gI S18 o 0) = (f_X7_room S18 sc1) then (1 : Int32) else (0 : Int32))) fun x22 => bd ((sI S18 o 5 (f_X1_reason S18 o x20 x22))) fun S23 => S23
set_option maxRecDepth 100000 in
theorem t_X1_advance (G : GG) (l : Launch) {S : HSt} (hM : CS S) (o : Nat) (sc1 : Nat) (a2 : Int32) (a3 : Int32) (a4 : Int32) (a5 : Int32) (ho : (o, 1, 0) ∈ cKT) (hsc1 : (sc1, 7, 0) ∈ cKT)  : AM G l yX1_advance cX1_advance 7 none (rmD 2 0 0) 0 0 [.ref o, .ref sc1, .int a2, .int a3, .int a4, .int a5] S (FP none (f_X1_advance S o sc1 a2 a3 a4 a5)) := by
  refine AM.mk (by decide) (Nat.le_of_ble_eq_true rfl) ?_
  intro p e s m below meth c hC hSt _
  refine aw_aload_n hC 0 dX1_advance_0 rfl rfl ?_
  refine aw_aload_n hC 0 dX1_advance_1 rfl rfl ?_
  refine aw_getI hC hSt 1 (cs_lt o 1 0 ho hM) (cs_k o 1 0 ho hM) rfl (by decide) w_73 rfl dX1_advance_2 ?_
  refine aw_iload_n hC 3 dX1_advance_5 rfl rfl ?_
  refine aw_aload_n hC 0 dX1_advance_6 rfl rfl ?_
  refine aw_getI hC hSt 3 (cs_lt o 1 0 ho hM) (cs_k o 1 0 ho hM) rfl (by decide) w_80 rfl dX1_advance_7 ?_
  refine aw_cS3r hC hSt (t_X1_turned G l  _ _ _) w_89 w_98 w_99 w_84 rfl rfl (by decide +kernel) ⟨Nat.le_of_ble_eq_true rfl, Nat.le_of_ble_eq_true rfl⟩ (Nat.le_of_ble_eq_true rfl) dX1_advance_10 ⟨Nat.zero_le _, Nat.zero_le _⟩ ?_
  refine aw_putI hC hSt 1 (cs_lt o 1 0 ho hM) (cs_k o 1 0 ho hM) rfl (by decide) w_73 rfl rfl rfl rfl dX1_advance_13 ?_
  generalize eS1 : (sI S o 1 (f_X1_turned S (gI S o 1) a3 (gI S o 3))) = S1
  have hM : CS S1 := CS.of (by rw [← eS1]; exact shp_sI _ _ _ _) hM
  refine aw_aload_n hC 1 dX1_advance_16 rfl rfl ?_
  refine aw_aload_n hC 0 dX1_advance_17 rfl rfl ?_
  refine aw_getI hC hSt 0 (cs_lt o 1 0 ho hM) (cs_k o 1 0 ho hM) rfl (by decide) w_72 rfl dX1_advance_18 ?_
  refine aw_cV1r hC hSt (t_X7_needOf G l hM _ _ hsc1) w_100 w_111 w_112 w_113 w_114 rfl rfl (by decide +kernel) ⟨Nat.le_of_ble_eq_true rfl, Nat.le_of_ble_eq_true rfl⟩ (cs_lt sc1 7 0 hsc1 hM) (cs_k sc1 7 0 hsc1 hM) rfl (Nat.le_of_ble_eq_true rfl) dX1_advance_21 ⟨Nat.zero_le _, Nat.zero_le _⟩ ?_
  refine aw_iload_n hC 2 dX1_advance_24 rfl rfl ?_
  refine aw_cut (S' := S1) (pc' := 33) (lv' := [(0, .ref o), (1, .ref sc1), (2, .int a2), (3, .int a3), (4, .int a4), (5, .int a5)]) (st' := [.int (if a2 = 0 then (0 : Int32) else (2 : Int32)), .int (f_X7_needOf S1 sc1 (gI S1 o 0))]) ?_ (fun Jc2 => ?_)
  · generalize ex3 : (if a2 = 0 then (0 : Int32) else (2 : Int32)) = x3
    refine aw_iadd hC dX1_advance_33 ?_
    refine aw_aload_n hC 0 dX1_advance_34 rfl rfl ?_
    refine aw_getI hC hSt 1 (cs_lt o 1 0 ho hM) (cs_k o 1 0 ho hM) rfl (by decide) w_73 rfl dX1_advance_35 ?_
    refine aw_isub hC dX1_advance_38 ?_
    refine aw_istore hC [(6, .int _), (0, .ref o), (1, .ref sc1), (2, .int _), (3, .int _), (4, .int _), (5, .int _)] dX1_advance_39 (by decide) rfl ?_
    generalize ex4 : (((f_X7_needOf S1 sc1 (gI S1 o 0)) + x3) - (gI S1 o 1)) = x4
    refine aw_iload hC 0 dX1_advance_41 rfl ?_
    refine aw_cut (S' := (if 0 < x4 then (bd ((if a2 = 0 then (5 : Int32) else (3 : Int32))) fun x7 => bd ((sI S1 o 0 (if (0 : Int32) < ((gI S1 o 0) - (x7 * x4)) then ((gI S1 o 0) - (x7 * x4)) else (0 : Int32)))) fun S8 => S8) else (bd ((sI S1 o 0 (if ((gI S1 o 0) + ((a4 * (gI S1 o 1)) / (8 : Int32))) < (f_X7_room S1 sc1) then ((gI S1 o 0) + ((a4 * (gI S1 o 1)) / (8 : Int32))) else (f_X7_room S1 sc1)))) fun S9 => S9))) (pc' := 100) (lv' := [(6, .int x4), (0, .ref o), (1, .ref sc1), (2, .int a2), (3, .int a3), (4, .int a4), (5, .int a5)]) (st' := []) ?_ (fun Jc5 => ?_)
    · generalize eS10 : (if 0 < x4 then (bd ((if a2 = 0 then (5 : Int32) else (3 : Int32))) fun x7 => bd ((sI S1 o 0 (if (0 : Int32) < ((gI S1 o 0) - (x7 * x4)) then ((gI S1 o 0) - (x7 * x4)) else (0 : Int32)))) fun S8 => S8) else (bd ((sI S1 o 0 (if ((gI S1 o 0) + ((a4 * (gI S1 o 1)) / (8 : Int32))) < (f_X7_room S1 sc1) then ((gI S1 o 0) + ((a4 * (gI S1 o 1)) / (8 : Int32))) else (f_X7_room S1 sc1)))) fun S9 => S9)) = S10
      have hM : CS S10 := CS.of (by rw [← eS10]; repeat' (first | with_reducible rfl | with_reducible refine (shp_sI _ _ _ _).trans ?_ | with_reducible refine (shp_sJ _ _ _ _).trans ?_ | with_reducible refine (shp_rI _ _ _).trans ?_ | with_reducible refine shi ?_ ?_ | with_reducible refine shb (fun _ _ => ?_) | (subst_vars; with_reducible rfl) | (subst_vars; with_reducible refine (shp_sI _ _ _ _).trans ?_) | (subst_vars; with_reducible refine (shp_sJ _ _ _ _).trans ?_) | (subst_vars; with_reducible refine (shp_rI _ _ _).trans ?_) | (subst_vars; with_reducible refine shi ?_ ?_) | (subst_vars; with_reducible refine shb (fun _ _ => ?_)))) hM
      refine aw_aload_n hC 1 dX1_advance_100 rfl rfl ?_
      refine aw_dup hC dX1_advance_101 rfl ?_
      refine aw_getI hC hSt 2 (cs_lt o 1 0 ho hM) (cs_k o 1 0 ho hM) rfl (by decide) w_74 rfl dX1_advance_102 ?_
      refine aw_iload_n hC 3 dX1_advance_105 rfl rfl ?_
      refine aw_cut (S' := S10) (pc' := 128) (lv' := [(6, .int x4), (0, .ref o), (1, .ref sc1), (2, .int a2), (3, .int a3), (4, .int a4), (5, .int a5)]) (st' := [.int (if a2 = 0 then ((gI S10 o 1) - a5) else (((gI S10 o 1) - a5) / (2 : Int32))), .int (gI S10 o 2), .ref o]) ?_ (fun Jc11 => ?_)
      · generalize ex12 : (if a2 = 0 then ((gI S10 o 1) - a5) else (((gI S10 o 1) - a5) / (2 : Int32))) = x12
        refine aw_iadd hC dX1_advance_128 ?_
        refine aw_putI hC hSt 2 (cs_lt o 1 0 ho hM) (cs_k o 1 0 ho hM) rfl (by decide) w_74 rfl rfl rfl rfl dX1_advance_129 ?_
        generalize eS13 : (sI S10 o 2 ((gI S10 o 2) + x12)) = S13
        have hM : CS S13 := CS.of (by rw [← eS13]; exact shp_sI _ _ _ _) hM
        refine aw_aload_n hC 1 dX1_advance_132 rfl rfl ?_
        refine aw_dup hC dX1_advance_133 rfl ?_
        refine aw_getI hC hSt 3 (cs_lt o 1 0 ho hM) (cs_k o 1 0 ho hM) rfl (by decide) w_80 rfl dX1_advance_134 ?_
        refine aw_aload_n hC 1 dX1_advance_137 rfl rfl ?_
        refine aw_getI hC hSt 1 (cs_lt o 1 0 ho hM) (cs_k o 1 0 ho hM) rfl (by decide) w_73 rfl dX1_advance_138 ?_
        refine aw_iadd hC dX1_advance_141 ?_
        refine aw_putI hC hSt 3 (cs_lt o 1 0 ho hM) (cs_k o 1 0 ho hM) rfl (by decide) w_80 rfl rfl rfl rfl dX1_advance_142 ?_
        generalize eS14 : (sI S13 o 3 ((gI S13 o 3) + (gI S13 o 1))) = S14
        have hM : CS S14 := CS.of (by rw [← eS14]; exact shp_sI _ _ _ _) hM
        refine aw_aload_n hC 1 dX1_advance_145 rfl rfl ?_
        refine aw_dup hC dX1_advance_146 rfl ?_
        refine aw_getI hC hSt 4 (cs_lt o 1 0 ho hM) (cs_k o 1 0 ho hM) rfl (by decide) w_78 rfl dX1_advance_147 ?_
        refine aw_iconst (v := 1) hC dX1_advance_150 (by decide) ?_
        refine aw_iadd hC dX1_advance_151 ?_
        refine aw_putI hC hSt 4 (cs_lt o 1 0 ho hM) (cs_k o 1 0 ho hM) rfl (by decide) w_78 rfl rfl rfl rfl dX1_advance_152 ?_
        generalize eS15 : (sI S14 o 4 ((gI S14 o 4) + (1 : Int32))) = S15
        have hM : CS S15 := CS.of (by rw [← eS15]; exact shp_sI _ _ _ _) hM
        refine aw_aload_n hC 1 dX1_advance_155 rfl rfl ?_
        refine aw_aload_n hC 1 dX1_advance_156 rfl rfl ?_
        refine aw_getI hC hSt 2 (cs_lt o 1 0 ho hM) (cs_k o 1 0 ho hM) rfl (by decide) w_74 rfl dX1_advance_157 ?_
        refine aw_abs hC w_108 w_109 w_92 w_110 (by decide) (Nat.le_of_ble_eq_true rfl) (by decide) (by decide) dX1_advance_160 ?_
        refine aw_aload_n hC 2 dX1_advance_163 rfl rfl ?_
        refine aw_cV0r hC hSt (t_X7_limit G l hM _ hsc1) w_106 w_118 w_119 w_120 w_114 rfl rfl (by decide +kernel) ⟨Nat.le_of_ble_eq_true rfl, Nat.le_of_ble_eq_true rfl⟩ (cs_lt sc1 7 0 hsc1 hM) (cs_k sc1 7 0 hsc1 hM) rfl (Nat.le_of_ble_eq_true rfl) dX1_advance_164 ⟨Nat.zero_le _, Nat.zero_le _⟩ ?_
        refine aw_cut (S' := S15) (pc' := 175) (lv' := [(6, .int x4), (0, .ref o), (1, .ref sc1), (2, .int a2), (3, .int a3), (4, .int a4), (5, .int a5)]) (st' := [.int (if (if 0 ≤ (gI S15 o 2) then (gI S15 o 2) else 0 - (gI S15 o 2)) ≤ (f_X7_limit S15 sc1) then (0 : Int32) else (1 : Int32)), .ref o]) ?_ (fun Jc16 => ?_)
        · generalize ex17 : (if (if 0 ≤ (gI S15 o 2) then (gI S15 o 2) else 0 - (gI S15 o 2)) ≤ (f_X7_limit S15 sc1) then (0 : Int32) else (1 : Int32)) = x17
          refine aw_putI hC hSt 6 (cs_lt o 1 0 ho hM) (cs_k o 1 0 ho hM) rfl (by decide) w_75 rfl rfl (Bz.n (ex17 ▸ (Bz.ite (Or.inl rfl) (Or.inr rfl)))) (Bz.f (ex17 ▸ (Bz.ite (Or.inl rfl) (Or.inr rfl)))) dX1_advance_175 ?_
          generalize eS18 : (sI S15 o 6 x17) = S18
          have hM : CS S18 := CS.of (by rw [← eS18]; exact shp_sI _ _ _ _) hM
          refine aw_aload_n hC 1 dX1_advance_178 rfl rfl ?_
          refine aw_aload_n hC 1 dX1_advance_179 rfl rfl ?_
          refine aw_iload hC 0 dX1_advance_180 rfl ?_
          refine aw_cut (S' := S18) (pc' := 190) (lv' := [(6, .int x4), (0, .ref o), (1, .ref sc1), (2, .int a2), (3, .int a3), (4, .int a4), (5, .int a5)]) (st' := [.int (if x4 ≤ 0 then (0 : Int32) else (1 : Int32)), .ref o, .ref o]) ?_ (fun Jc19 => ?_)
          · generalize ex20 : (if x4 ≤ 0 then (0 : Int32) else (1 : Int32)) = x20
            refine aw_aload_n hC 1 dX1_advance_190 rfl rfl ?_
            refine aw_getI hC hSt 0 (cs_lt o 1 0 ho hM) (cs_k o 1 0 ho hM) rfl (by decide) w_72 rfl dX1_advance_191 ?_
            refine aw_aload_n hC 2 dX1_advance_194 rfl rfl ?_
            refine aw_cV0r hC hSt (t_X7_room G l hM _ hsc1) w_104 w_115 w_116 w_117 w_114 rfl rfl (by decide +kernel) ⟨Nat.le_of_ble_eq_true rfl, Nat.le_of_ble_eq_true rfl⟩ (cs_lt sc1 7 0 hsc1 hM) (cs_k sc1 7 0 hsc1 hM) rfl (Nat.le_of_ble_eq_true rfl) dX1_advance_195 ⟨Nat.zero_le _, Nat.zero_le _⟩ ?_
            refine aw_cut (S' := S18) (pc' := 206) (lv' := [(6, .int x4), (0, .ref o), (1, .ref sc1), (2, .int a2), (3, .int a3), (4, .int a4), (5, .int a5)]) (st' := [.int (if (gI S18 o 0) = (f_X7_room S18 sc1) then (1 : Int32) else (0 : Int32)), .int x20, .ref o, .ref o]) ?_ (fun Jc21 => ?_)
            · generalize ex22 : (if (gI S18 o 0) = (f_X7_room S18 sc1) then (1 : Int32) else (0 : Int32)) = x22
              refine aw_cV2r hC hSt (t_X1_reason G l hM _ _ _ ho) w_107 w_121 w_122 w_123 w_84 rfl rfl (by decide +kernel) ⟨Nat.le_of_ble_eq_true rfl, Nat.le_of_ble_eq_true rfl⟩ (cs_lt o 1 0 ho hM) (cs_k o 1 0 ho hM) rfl (Nat.le_of_ble_eq_true rfl) dX1_advance_206 ⟨Nat.zero_le _, Nat.zero_le _⟩ ?_
              refine aw_putI hC hSt 5 (cs_lt o 1 0 ho hM) (cs_k o 1 0 ho hM) rfl (by decide) w_77 rfl rfl rfl rfl dX1_advance_209 ?_
              generalize eS23 : (sI S18 o 5 (f_X1_reason S18 o x20 x22)) = S23
              have hM : CS S23 := CS.of (by rw [← eS23]; exact shp_sI _ _ _ _) hM
              refine aw_vret hC dX1_advance_212 (Nat.le_refl _) (Nat.le_refl _) ?_
              exact FP.qV ((bd_eq eS1).trans ((bd_eq ex3).trans ((bd_eq ex4).trans ((bd_eq eS10).trans ((bd_eq ex12).trans ((bd_eq eS13).trans ((bd_eq eS14).trans ((bd_eq eS15).trans ((bd_eq ex17).trans ((bd_eq eS18).trans ((bd_eq ex20).trans ((bd_eq ex22).trans ((bd_eq eS23).trans (rfl))))))))))))))
            · refine aw_icmp_ne hC 205 dX1_advance_198 (by decide) (fun c21 => ?_) (fun c21 => ?_)
              · refine aw_iconst (v := 0) hC dX1_advance_205 (by decide) ?_
                simp only [bd_def, if_neg c21] at Jc21 ⊢
                exact Jc21
              · refine aw_iconst (v := 1) hC dX1_advance_201 (by decide) ?_
                refine aw_goto hC 206 dX1_advance_202 (by decide) ?_
                simp only [bd_def, if_pos c21] at Jc21 ⊢
                exact Jc21
          · refine aw_if_le hC 189 dX1_advance_182 (by decide) (fun c19 => ?_) (fun c19 => ?_)
            · refine aw_iconst (v := 0) hC dX1_advance_189 (by decide) ?_
              simp only [bd_def, if_pos c19] at Jc19 ⊢
              exact Jc19
            · refine aw_iconst (v := 1) hC dX1_advance_185 (by decide) ?_
              refine aw_goto hC 190 dX1_advance_186 (by decide) ?_
              simp only [bd_def, if_neg c19] at Jc19 ⊢
              exact Jc19
        · refine aw_icmp_le hC 174 dX1_advance_167 (by decide) (fun c16 => ?_) (fun c16 => ?_)
          · refine aw_iconst (v := 0) hC dX1_advance_174 (by decide) ?_
            simp only [bd_def, if_pos c16] at Jc16 ⊢
            exact Jc16
          · refine aw_iconst (v := 1) hC dX1_advance_170 (by decide) ?_
            refine aw_goto hC 175 dX1_advance_171 (by decide) ?_
            simp only [bd_def, if_neg c16] at Jc16 ⊢
            exact Jc16
      · refine aw_if_eq hC 121 dX1_advance_106 (by decide) (fun c11 => ?_) (fun c11 => ?_)
        · refine aw_aload_n hC 1 dX1_advance_121 rfl rfl ?_
          refine aw_getI hC hSt 1 (cs_lt o 1 0 ho hM) (cs_k o 1 0 ho hM) rfl (by decide) w_73 rfl dX1_advance_122 ?_
          refine aw_iload hC 6 dX1_advance_125 rfl ?_
          refine aw_isub hC dX1_advance_127 ?_
          simp only [bd_def, if_pos c11] at Jc11 ⊢
          exact Jc11
        · refine aw_aload_n hC 1 dX1_advance_109 rfl rfl ?_
          refine aw_getI hC hSt 1 (cs_lt o 1 0 ho hM) (cs_k o 1 0 ho hM) rfl (by decide) w_73 rfl dX1_advance_110 ?_
          refine aw_iload hC 6 dX1_advance_113 rfl ?_
          refine aw_isub hC dX1_advance_115 ?_
          refine aw_iconst (v := 2) hC dX1_advance_116 (by decide) ?_
          refine aw_idiv hC dX1_advance_117 (by decide) ?_
          refine aw_goto hC 128 dX1_advance_118 (by decide) ?_
          simp only [bd_def, if_neg c11] at Jc11 ⊢
          exact Jc11
    · refine aw_if_gt hC 75 dX1_advance_43 (by decide) (fun c5 => ?_) (fun c5 => ?_)
      · refine aw_aload_n hC 1 dX1_advance_75 rfl rfl ?_
        refine aw_iconst (v := 0) hC dX1_advance_76 (by decide) ?_
        refine aw_aload_n hC 1 dX1_advance_77 rfl rfl ?_
        refine aw_getI hC hSt 0 (cs_lt o 1 0 ho hM) (cs_k o 1 0 ho hM) rfl (by decide) w_72 rfl dX1_advance_78 ?_
        refine aw_iload_n hC 3 dX1_advance_81 rfl rfl ?_
        refine aw_cut (S' := S1) (pc' := 90) (lv' := [(6, .int x4), (0, .ref o), (1, .ref sc1), (2, .int a2), (3, .int a3), (4, .int a4), (5, .int a5)]) (st' := [.int (if a2 = 0 then (5 : Int32) else (3 : Int32)), .int (gI S1 o 0), .int (0 : Int32), .ref o]) ?_ (fun Jc6 => ?_)
        · generalize ex7 : (if a2 = 0 then (5 : Int32) else (3 : Int32)) = x7
          refine aw_iload hC 0 dX1_advance_90 rfl ?_
          refine aw_imul hC dX1_advance_92 ?_
          refine aw_isub hC dX1_advance_93 ?_
          refine aw_max hC w_90 w_91 w_92 w_93 (by decide) (Nat.le_of_ble_eq_true rfl) (by decide) (by decide) dX1_advance_94 ?_
          refine aw_putI hC hSt 0 (cs_lt o 1 0 ho hM) (cs_k o 1 0 ho hM) rfl (by decide) w_72 rfl rfl rfl rfl dX1_advance_97 ?_
          generalize eS8 : (sI S1 o 0 (if (0 : Int32) < ((gI S1 o 0) - (x7 * x4)) then ((gI S1 o 0) - (x7 * x4)) else (0 : Int32))) = S8
          have hM : CS S8 := CS.of (by rw [← eS8]; exact shp_sI _ _ _ _) hM
          subst eS8
          subst ex7
          simp only [bd_def, if_pos c5] at Jc5 ⊢
          exact Jc5
        · refine aw_if_eq hC 89 dX1_advance_82 (by decide) (fun c6 => ?_) (fun c6 => ?_)
          · refine aw_iconst (v := 5) hC dX1_advance_89 (by decide) ?_
            simp only [bd_def, if_pos c6] at Jc6 ⊢
            exact Jc6
          · refine aw_iconst (v := 3) hC dX1_advance_85 (by decide) ?_
            refine aw_goto hC 90 dX1_advance_86 (by decide) ?_
            simp only [bd_def, if_neg c6] at Jc6 ⊢
            exact Jc6
      · refine aw_aload_n hC 1 dX1_advance_46 rfl rfl ?_
        refine aw_aload_n hC 2 dX1_advance_47 rfl rfl ?_
        refine aw_cV0r hC hSt (t_X7_room G l hM _ hsc1) w_104 w_115 w_116 w_117 w_114 rfl rfl (by decide +kernel) ⟨Nat.le_of_ble_eq_true rfl, Nat.le_of_ble_eq_true rfl⟩ (cs_lt sc1 7 0 hsc1 hM) (cs_k sc1 7 0 hsc1 hM) rfl (Nat.le_of_ble_eq_true rfl) dX1_advance_48 ⟨Nat.zero_le _, Nat.zero_le _⟩ ?_
        refine aw_aload_n hC 1 dX1_advance_51 rfl rfl ?_
        refine aw_getI hC hSt 0 (cs_lt o 1 0 ho hM) (cs_k o 1 0 ho hM) rfl (by decide) w_72 rfl dX1_advance_52 ?_
        refine aw_iload hC 5 dX1_advance_55 rfl ?_
        refine aw_aload_n hC 1 dX1_advance_57 rfl rfl ?_
        refine aw_getI hC hSt 1 (cs_lt o 1 0 ho hM) (cs_k o 1 0 ho hM) rfl (by decide) w_73 rfl dX1_advance_58 ?_
        refine aw_imul hC dX1_advance_61 ?_
        refine aw_bipush (v := 8) hC dX1_advance_62 (by decide) ?_
        refine aw_idiv hC dX1_advance_64 (by decide) ?_
        refine aw_iadd hC dX1_advance_65 ?_
        refine aw_min hC w_94 w_95 w_92 w_96 (by decide) (Nat.le_of_ble_eq_true rfl) (by decide) (by decide) dX1_advance_66 ?_
        refine aw_putI hC hSt 0 (cs_lt o 1 0 ho hM) (cs_k o 1 0 ho hM) rfl (by decide) w_72 rfl rfl rfl rfl dX1_advance_69 ?_
        generalize eS9 : (sI S1 o 0 (if ((gI S1 o 0) + ((a4 * (gI S1 o 1)) / (8 : Int32))) < (f_X7_room S1 sc1) then ((gI S1 o 0) + ((a4 * (gI S1 o 1)) / (8 : Int32))) else (f_X7_room S1 sc1))) = S9
        have hM : CS S9 := CS.of (by rw [← eS9]; exact shp_sI _ _ _ _) hM
        refine aw_goto hC 100 dX1_advance_72 (by decide) ?_
        subst eS9
        simp only [bd_def, if_neg c5] at Jc5 ⊢
        exact Jc5
  · refine aw_if_eq hC 32 dX1_advance_25 (by decide) (fun c2 => ?_) (fun c2 => ?_)
    · refine aw_iconst (v := 0) hC dX1_advance_32 (by decide) ?_
      simp only [bd_def, if_pos c2] at Jc2 ⊢
      exact Jc2
    · refine aw_iconst (v := 2) hC dX1_advance_28 (by decide) ?_
      refine aw_goto hC 33 dX1_advance_29 (by decide) ?_
      simp only [bd_def, if_neg c2] at Jc2 ⊢
      exact Jc2
theorem q_X1_advance (S : HSt) (o : Nat) (sc1 : Nat) (a2 : Int32) (a3 : Int32) (a4 : Int32) (a5 : Int32) : shp (f_X1_advance S o sc1 a2 a3 a4 a5) = shp S := by
  unfold f_X1_advance
  repeat' (first | with_reducible rfl | with_reducible refine (shp_sI _ _ _ _).trans ?_ | with_reducible refine (shp_sJ _ _ _ _).trans ?_ | with_reducible refine (shp_rI _ _ _).trans ?_ | with_reducible refine shi ?_ ?_ | with_reducible refine shb (fun _ _ => ?_) | (subst_vars; with_reducible rfl) | (subst_vars; with_reducible refine (shp_sI _ _ _ _).trans ?_) | (subst_vars; with_reducible refine (shp_sJ _ _ _ _).trans ?_) | (subst_vars; with_reducible refine (shp_rI _ _ _).trans ?_) | (subst_vars; with_reducible refine shi ?_ ?_) | (subst_vars; with_reducible refine shb (fun _ _ => ?_)))
theorem v_X1_advance (S : HSt) (o : Nat) (sc1 : Nat) (a2 : Int32) (a3 : Int32) (a4 : Int32) (a5 : Int32) : Fr [(o, 0), (o, 1), (o, 2), (o, 3), (o, 4), (o, 5), (o, 6)] S (f_X1_advance S o sc1 a2 a3 a4 a5) := by
  unfold f_X1_advance
  repeat' (first | with_reducible exact Fr.refl _ _ | with_reducible refine Fr.l1 (fun _ _ => ?_) | with_reducible refine Fr.ite ?_ ?_ | with_reducible refine Fr.sE (by assumption) (by first | decide | simp only [List.mem_cons, List.not_mem_nil, or_false, true_or, or_true, eq_self_iff_true]) ?_ | with_reducible refine Fr.jE (by assumption) ?_ | with_reducible refine Fr.rE (by assumption) (by first | decide | simp only [List.mem_cons, List.not_mem_nil, or_false, true_or, or_true, eq_self_iff_true]) ?_ | with_reducible refine Fr.iE (by assumption) ?_ ?_)
theorem w_X1_advance (S : HSt) (o : Nat) (sc1 : Nat) (a2 : Int32) (a3 : Int32) (a4 : Int32) (a5 : Int32) (r : HSt) (e : f_X1_advance S o sc1 a2 a3 a4 a5 = r) : Fr [(o, 0), (o, 1), (o, 2), (o, 3), (o, 4), (o, 5), (o, 6)] S r := by
  rw [← e]
  exact v_X1_advance S o sc1 a2 a3 a4 a5