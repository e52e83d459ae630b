noncomputable def L_X8_seekShow_19 (w1 : Nat) : Nat → HSt → Int32 → Int32 → Int32 → Int32 × Int32 × Int32 × HSt
  | 0, S, v2, v3, v4 => (v2, v3, v4, S)
  | n + 1, S, v2, v3, v4 =>
    if v2 ≤ v4 then ((pr (v2) (pr (v3) (pr (v4) (S))))) else (bd ((f_X8_nextForm S 38 w1 v3 v4)) fun x2005 => bd ((if x2005 = (-1000000 : Int32) then (1 : Int32) else ((1 : Int32) + (gI S 39 (f_X8_placeOf S (v3 ||| ((1 : Int32) <<< (x2005 &&& 31))) x2005).toNatClampNeg)))) fun x2007 => bd ((sI S 39 (f_X8_placeOf S v3 v4).toNatClampNeg x2007)) fun S2008 => L_X8_seekShow_19 w1 n S2008 v2 v3 (v4 + (1 : Int32)))
def T_X8_seekShow_19 (w1 : Nat) : Nat → HSt → Int32 → Int32 → Int32 → Prop
  | 0, _, _, _, _ => False
  | n + 1, S, v2, v3, v4 => ((¬ v2 ≤ v4) → p_X8_nextForm S 38 w1 v3 v4) ∧ ((¬ v2 ≤ v4) → ∀ x2005 : Int32, (f_X8_nextForm S 38 w1 v3 v4) = x2005 → (¬ x2005 = (-1000000 : Int32)) → vp_in (f_X8_placeOf S (v3 ||| ((1 : Int32) <<< (x2005 &&& 31))) x2005) 384) ∧ ((¬ v2 ≤ v4) → ∀ x2005 : Int32, (f_X8_nextForm S 38 w1 v3 v4) = x2005 → ∀ x2007 : Int32, (if x2005 = (-1000000 : Int32) then (1 : Int32) else ((1 : Int32) + (gI S 39 (f_X8_placeOf S (v3 ||| ((1 : Int32) <<< (x2005 &&& 31))) x2005).toNatClampNeg))) = x2007 → vp_in (f_X8_placeOf S v3 v4) 384) ∧ ((¬ v2 ≤ v4) → ∀ x2005 : Int32, (f_X8_nextForm S 38 w1 v3 v4) = x2005 → ∀ x2007 : Int32, (if x2005 = (-1000000 : Int32) then (1 : Int32) else ((1 : Int32) + (gI S 39 (f_X8_placeOf S (v3 ||| ((1 : Int32) <<< (x2005 &&& 31))) x2005).toNatClampNeg))) = x2007 → ∀ S2008 : HSt, (sI S 39 (f_X8_placeOf S v3 v4).toNatClampNeg x2007) = S2008 → T_X8_seekShow_19 w1 n S2008 v2 v3 (v4 + (1 : Int32)))
theorem qL_X8_seekShow_19 (w1 : Nat) : ∀ (n : Nat) (S : HSt) (v2 : Int32) (v3 : Int32) (v4 : Int32), shp (L_X8_seekShow_19 w1 n S v2 v3 v4).2.2.2 = shp S := by
  intro n
  induction n with
  | zero => intros; rfl
  | succ n ih =>
    intro S v2 v3 v4
    unfold L_X8_seekShow_19
    repeat' (first | with_reducible refine shpr3 ?_ | with_reducible rfl | with_reducible refine (ih _ _ _ _).trans ?_ | with_reducible refine (shp_sI _ _ _ _).trans ?_ | with_reducible refine (shp_sJ _ _ _ _).trans ?_ | with_reducible refine (shp_rI _ _ _).trans ?_ | with_reducible refine shi ?_ ?_ | with_reducible refine shb (fun _ _ => ?_) | with_reducible refine shiP (fun q : Int32 × Int32 × Int32 × HSt => q.2.2.2) ?_ ?_ | with_reducible refine shbP (fun q : Int32 × Int32 × Int32 × HSt => q.2.2.2) (fun _ _ => ?_) | (subst_vars; with_reducible rfl) | (subst_vars; with_reducible refine (ih _ _ _ _).trans ?_) | (subst_vars; with_reducible refine (shp_sI _ _ _ _).trans ?_) | (subst_vars; with_reducible refine (shp_sJ _ _ _ _).trans ?_) | (subst_vars; with_reducible refine (shp_rI _ _ _).trans ?_) | (subst_vars; with_reducible refine shi ?_ ?_) | (subst_vars; with_reducible refine shb (fun _ _ => ?_)))
theorem vL_X8_seekShow_19 (w1 : Nat) : ∀ (n : Nat) (S : HSt) (v2 : Int32) (v3 : Int32) (v4 : Int32), Fr [(39, 1000)] S (L_X8_seekShow_19 w1 n S v2 v3 v4).2.2.2 := by
  intro n
  induction n with
  | zero => intros; exact Fr.refl _ _
  | succ n ih =>
    intro S v2 v3 v4
    unfold L_X8_seekShow_19
    repeat' (first | with_reducible refine frpr3 ?_ | with_reducible exact Fr.refl _ _ | with_reducible refine Fr.lP (fun q : Int32 × Int32 × Int32 × HSt => q.2.2.2) (fun _ _ => ?_) | with_reducible refine Fr.iteP (fun q : Int32 × Int32 × Int32 × HSt => q.2.2.2) ?_ ?_ | with_reducible refine Fr.l1 (fun _ _ => ?_) | with_reducible refine Fr.ite ?_ ?_ | with_reducible refine Fr.sE (by assumption) (by first | decide | simp only [List.mem_cons, List.not_mem_nil, or_false, true_or, or_true, eq_self_iff_true]) ?_ | with_reducible refine Fr.jE (by assumption) ?_ | with_reducible refine Fr.rE (by assumption) (by first | decide | simp only [List.mem_cons, List.not_mem_nil, or_false, true_or, or_true, eq_self_iff_true]) ?_ | with_reducible refine Fr.iE (by assumption) ?_ ?_ | with_reducible refine Fr.tr (ih _ _ _ _) (by first | decide | simp only [List.mem_cons, List.not_mem_nil, or_false, forall_eq_or_imp, forall_eq, true_or, or_true, and_self, eq_self_iff_true]) ?_)
theorem wL_X8_seekShow_19 (w1 : Nat) (n : Nat) (S : HSt) (v2 : Int32) (v3 : Int32) (v4 : Int32) (r : Int32 × Int32 × Int32 × HSt) (e : L_X8_seekShow_19 w1 n S v2 v3 v4 = r) : Fr [(39, 1000)] S r.2.2.2 := by
  rw [← e]
  exact vL_X8_seekShow_19 w1 n S v2 v3 v4
set_option maxRecDepth 100000 in
theorem l_X8_seekShow_19 {p : Program} {l : Launch} {e : Env} {s : State} {m : MethodId} {args : Array Value} {below : List Frame} {meth : Method} {c : Code} {G : GG} {Q : State → Prop} (hC : ACx p s m args meth c cX8_seekShow RX8 6 none) (hSt : St G s) {w1 : Nat} (hw1 : (w1, 10, 0) ∈ cKT) : ∀ (n : Nat) (S : HSt) (v2 : Int32) (v3 : Int32) (v4 : Int32), CS S → T_X8_seekShow_19 w1 n S v2 v3 v4 → AW p l e (rmD 4 0 0) s m args below meth c G 6 Q (L_X8_seekShow_19 w1 n S v2 v3 v4).2.2.2 0 0 81 [(0, .ref 38), (1, .ref w1), (2, .int (L_X8_seekShow_19 w1 n S v2 v3 v4).1), (3, .int (L_X8_seekShow_19 w1 n S v2 v3 v4).2.1), (4, .int (L_X8_seekShow_19 w1 n S v2 v3 v4).2.2.1)] [] → AW p l e (rmD 4 0 0) s m args below meth c G 6 Q S 0 0 19 [(0, .ref 38), (1, .ref w1), (2, .int v2), (3, .int v3), (4, .int v4)] [] := by
  intro n
  induction n with
  | zero => intro S v2 v3 v4 _ hT; exact hT.elim
  | succ n ih =>
    intro S v2 v3 v4 hM hT hk
    unfold T_X8_seekShow_19 at hT
    obtain ⟨h0, h1, h2, h3⟩ := hT
    refine aw_iload hC 4 dX8_seekShow_19 rfl ?_
    refine aw_iload_n hC 2 dX8_seekShow_21 rfl rfl ?_
    refine aw_icmp_ge hC 81 dX8_seekShow_22 (by decide) (fun c2004 => ?_) (fun c2004 => ?_)
    · refine aw_sub [0, 1, 2, 3, 4] rfl ?_
      have E : L_X8_seekShow_19 w1 (n + 1) S v2 v3 v4 = _ := (if_pos c2004).trans (rfl)
      rw [E] at hk
      exact hk
    · refine aw_aload_n hC 0 dX8_seekShow_25 rfl rfl ?_
      refine aw_aload_n hC 1 dX8_seekShow_26 rfl rfl ?_
      refine aw_iload_n hC 3 dX8_seekShow_27 rfl rfl ?_
      refine aw_iload hC 4 dX8_seekShow_28 rfl ?_
      refine aw_cV3r hC hSt (t_X8_nextForm G l hM _ _ _ hw1 (h0 c2004)) w_632 w_634 w_635 w_636 w_625 rfl rfl (by decide +kernel) ⟨Nat.le_of_ble_eq_true rfl, Nat.le_of_ble_eq_true rfl⟩ (cs_lt 38 8 0 (by decide) hM) (cs_k 38 8 0 (by decide) hM) rfl (Nat.le_of_ble_eq_true rfl) dX8_seekShow_30 ⟨Nat.zero_le _, Nat.zero_le _⟩ ?_
      refine aw_istore hC [(5, .int _), (0, .ref 38), (1, .ref w1), (2, .int _), (3, .int _), (4, .int _)] dX8_seekShow_33 (by decide) rfl ?_
      generalize ex2005 : (f_X8_nextForm S 38 w1 v3 v4) = x2005
      refine aw_aload_n hC 1 dX8_seekShow_35 rfl rfl ?_
      refine aw_getP (b := 39) hC hSt 0 (cs_lt 38 8 0 (by decide) hM) (cs_k 38 8 0 (by decide) hM) rfl (by decide) w_614 rfl (cs_p 38 0 39 (by decide) hM) dX8_seekShow_36 ?_
      refine aw_iload_n hC 4 dX8_seekShow_39 rfl rfl ?_
      refine aw_iload hC 5 dX8_seekShow_40 rfl ?_
      refine aw_cS2r hC hSt (t_X8_placeOf G l  _ _) w_619 w_628 w_629 w_625 rfl rfl (by decide +kernel) ⟨Nat.le_of_ble_eq_true rfl, Nat.le_of_ble_eq_true rfl⟩ (Nat.le_of_ble_eq_true rfl) dX8_seekShow_42 ⟨Nat.zero_le _, Nat.zero_le _⟩ ?_
      refine aw_iload hC 0 dX8_seekShow_45 rfl ?_
      refine aw_ldc (v := -1000000) hC w_626 dX8_seekShow_47 ?_
      refine aw_cut (S' := S) (pc' := 74) (lv' := [(5, .int x2005), (0, .ref 38), (1, .ref w1), (2, .int v2), (3, .int v3), (4, .int v4)]) (st' := [.int (if x2005 = (-1000000 : Int32) then (1 : Int32) else ((1 : Int32) + (gI S 39 (f_X8_placeOf S (v3 ||| ((1 : Int32) <<< (x2005 &&& 31))) x2005).toNatClampNeg))), .int (f_X8_placeOf S v3 v4), .ref 39]) ?_ (fun Jc2006 => ?_)
      · generalize ex2007 : (if x2005 = (-1000000 : Int32) then (1 : Int32) else ((1 : Int32) + (gI S 39 (f_X8_placeOf S (v3 ||| ((1 : Int32) <<< (x2005 &&& 31))) x2005).toNatClampNeg))) = x2007
        refine aw_iast hC hSt (cs_lt 39 14 384 (by decide) hM) (cs_k 39 14 384 (by decide) hM) (vp_len (n := 384) (cs_l 39 14 384 (by decide) hM) (h2 c2004 x2005 ex2005 x2007 ex2007)) dX8_seekShow_74 ?_
        generalize eS2008 : (sI S 39 (f_X8_placeOf S v3 v4).toNatClampNeg x2007) = S2008
        have hM : CS S2008 := CS.of (by rw [← eS2008]; exact shp_sI _ _ _ _) hM
        refine aw_iinc (v := (v4 + (1 : Int32))) hC 5 [(4, .int _), (5, .int _), (0, .ref 38), (1, .ref w1), (2, .int _), (3, .int _)] dX8_seekShow_75 rfl rfl (by decide) rfl ?_
        refine aw_goto hC 19 dX8_seekShow_78 (by decide) ?_
        refine aw_sub [2, 3, 4, 5, 0] rfl ?_
        have hTn := (h3 c2004 x2005 ex2005 x2007 ex2007 S2008 eS2008)
        have hMn : CS S2008 := hM
        have E : L_X8_seekShow_19 w1 (n + 1) S v2 v3 v4 = _ := (if_neg c2004).trans ((bd_eq ex2005).trans ((bd_eq ex2007).trans ((bd_eq eS2008).trans (rfl))))
        rw [E] at hk
        exact ih _ _ _ _ hMn hTn hk
      · refine aw_icmp_ne hC 56 dX8_seekShow_49 (by decide) (fun c2006 => ?_) (fun c2006 => ?_)
        · refine aw_iconst (v := 1) hC dX8_seekShow_56 (by decide) ?_
          refine aw_aload_n hC 1 dX8_seekShow_57 rfl rfl ?_
          refine aw_getP (b := 39) hC hSt 0 (cs_lt 38 8 0 (by decide) hM) (cs_k 38 8 0 (by decide) hM) rfl (by decide) w_614 rfl (cs_p 38 0 39 (by decide) hM) dX8_seekShow_58 ?_
          refine aw_iload_n hC 4 dX8_seekShow_61 rfl rfl ?_
          refine aw_iconst (v := 1) hC dX8_seekShow_62 (by decide) ?_
          refine aw_iload hC 0 dX8_seekShow_63 rfl ?_
          refine aw_ishl hC dX8_seekShow_65 ?_
          refine aw_ior hC dX8_seekShow_66 ?_
          refine aw_iload hC 0 dX8_seekShow_67 rfl ?_
          refine aw_cS2r hC hSt (t_X8_placeOf G l  _ _) w_619 w_628 w_629 w_625 rfl rfl (by decide +kernel) ⟨Nat.le_of_ble_eq_true rfl, Nat.le_of_ble_eq_true rfl⟩ (Nat.le_of_ble_eq_true rfl) dX8_seekShow_69 ⟨Nat.zero_le _, Nat.zero_le _⟩ ?_
          refine aw_iald hC hSt (cs_lt 39 14 384 (by decide) hM) (cs_k 39 14 384 (by decide) hM) (vp_len (n := 384) (cs_l 39 14 384 (by decide) hM) (h1 c2004 x2005 ex2005 c2006)) dX8_seekShow_72 ?_
          refine aw_iadd hC dX8_seekShow_73 ?_
          simp only [bd_def, if_neg c2006] at Jc2006 ⊢
          exact Jc2006
        · refine aw_iconst (v := 1) hC dX8_seekShow_52 (by decide) ?_
          refine aw_goto hC 74 dX8_seekShow_53 (by decide) ?_
          simp only [bd_def, if_pos c2006] at Jc2006 ⊢
          exact Jc2006
noncomputable def L_X8_seekShow_12 (w1 : Nat) : Nat → HSt → Int32 → Int32 → Int32 × Int32 × HSt
  | 0, S, v2, v3 => (v2, v3, S)
  | n + 1, S, v2, v3 =>
    if v3 ≤ 0 then ((pr (v2) (pr (v3) (S)))) else (bd (L_X8_seekShow_19 w1 1000 S v2 v3 (0 : Int32)) fun r1004 => L_X8_seekShow_12 w1 n r1004.2.2.2 r1004.1 (r1004.2.1 + (-1 : Int32)))
def T_X8_seekShow_12 (w1 : Nat) : Nat → HSt → Int32 → Int32 → Prop
  | 0, _, _, _ => False
  | n + 1, S, v2, v3 => ((¬ v3 ≤ 0) → T_X8_seekShow_19 w1 1000 S v2 v3 (0 : Int32)) ∧ ((¬ v3 ≤ 0) → ∀ r1004, L_X8_seekShow_19 w1 1000 S v2 v3 (0 : Int32) = r1004 → T_X8_seekShow_12 w1 n r1004.2.2.2 r1004.1 (r1004.2.1 + (-1 : Int32)))
theorem qL_X8_seekShow_12 (w1 : Nat) : ∀ (n : Nat) (S : HSt) (v2 : Int32) (v3 : Int32), shp (L_X8_seekShow_12 w1 n S v2 v3).2.2 = shp S := by
  intro n
  induction n with
  | zero => intros; rfl
  | succ n ih =>
    intro S v2 v3
    unfold L_X8_seekShow_12
    repeat' (first | with_reducible refine shpr2 ?_ | with_reducible rfl | with_reducible refine (ih _ _ _).trans ?_ | with_reducible refine (qL_X8_seekShow_19 w1 _ _ _ _ _).trans ?_ | with_reducible refine (shp_sI _ _ _ _).trans ?_ | with_reducible refine (shp_sJ _ _ _ _).trans ?_ | with_reducible refine (shp_rI _ _ _).trans ?_ | with_reducible refine shi ?_ ?_ | with_reducible refine shb (fun _ _ => ?_) | with_reducible refine shiP (fun q : Int32 × Int32 × HSt => q.2.2) ?_ ?_ | with_reducible refine shbP (fun q : Int32 × Int32 × HSt => q.2.2) (fun _ _ => ?_) | (subst_vars; with_reducible rfl) | (subst_vars; with_reducible refine (ih _ _ _).trans ?_) | (subst_vars; with_reducible refine (qL_X8_seekShow_19 w1 _ _ _ _ _).trans ?_) | (subst_vars; with_reducible refine (shp_sI _ _ _ _).trans ?_) | (subst_vars; with_reducible refine (shp_sJ _ _ _ _).trans ?_) | (subst_vars; with_reducible refine (shp_rI _ _ _).trans ?_) | (subst_vars; with_reducible refine shi ?_ ?_) | (subst_vars; with_reducible refine shb (fun _ _ => ?_)))
theorem vL_X8_seekShow_12 (w1 : Nat) : ∀ (n : Nat) (S : HSt) (v2 : Int32) (v3 : Int32), Fr [(39, 1000)] S (L_X8_seekShow_12 w1 n S v2 v3).2.2 := by
  intro n
  induction n with
  | zero => intros; exact Fr.refl _ _
  | succ n ih =>
    intro S v2 v3
    unfold L_X8_seekShow_12
    repeat' (first | with_reducible refine frpr2 ?_ | with_reducible exact Fr.refl _ _ | with_reducible refine Fr.lP (fun q : Int32 × Int32 × HSt => q.2.2) (fun _ _ => ?_) | with_reducible refine Fr.iteP (fun q : Int32 × Int32 × HSt => q.2.2) ?_ ?_ | with_reducible refine Fr.l1 (fun _ _ => ?_) | with_reducible refine Fr.ite ?_ ?_ | with_reducible refine Fr.sE (by assumption) (by first | decide | simp only [List.mem_cons, List.not_mem_nil, or_false, true_or, or_true, eq_self_iff_true]) ?_ | with_reducible refine Fr.jE (by assumption) ?_ | with_reducible refine Fr.rE (by assumption) (by first | decide | simp only [List.mem_cons, List.not_mem_nil, or_false, true_or, or_true, eq_self_iff_true]) ?_ | with_reducible refine Fr.iE (by assumption) ?_ ?_ | with_reducible refine Fr.tr (ih _ _ _) (by first | decide | simp only [List.mem_cons, List.not_mem_nil, or_false, forall_eq_or_imp, forall_eq, true_or, or_true, and_self, eq_self_iff_true]) ?_ | with_reducible refine Fr.tr (wL_X8_seekShow_19 w1 _ _ _ _ _ _ (by assumption)) (by first | decide | simp only [List.mem_cons, List.not_mem_nil, or_false, forall_eq_or_imp, forall_eq, true_or, or_true, and_self, eq_self_iff_true]) ?_)
theorem wL_X8_seekShow_12 (w1 : Nat) (n : Nat) (S : HSt) (v2 : Int32) (v3 : Int32) (r : Int32 × Int32 × HSt) (e : L_X8_seekShow_12 w1 n S v2 v3 = r) : Fr [(39, 1000)] S r.2.2 := by
  rw [← e]
  exact vL_X8_seekShow_12 w1 n S v2 v3
set_option maxRecDepth 100000 in
theorem l_X8_seekShow_12 {p : Program} {l : Launch} {e : Env} {s : State} {m : MethodId} {args : Array Value} {below : List Frame} {meth : Method} {c : Code} {G : GG} {Q : State → Prop} (hC : ACx p s m args meth c cX8_seekShow RX8 6 none) (hSt : St G s) {w1 : Nat} (hw1 : (w1, 10, 0) ∈ cKT) : ∀ (n : Nat) (S : HSt) (v2 : Int32) (v3 : Int32), CS S → T_X8_seekShow_12 w1 n S v2 v3 → AW p l e (rmD 4 0 0) s m args below meth c G 6 Q (L_X8_seekShow_12 w1 n S v2 v3).2.2 0 0 87 [(0, .ref 38), (1, .ref w1), (2, .int (L_X8_seekShow_12 w1 n S v2 v3).1), (3, .int (L_X8_seekShow_12 w1 n S v2 v3).2.1)] [] → AW p l e (rmD 4 0 0) s m args below meth c G 6 Q S 0 0 12 [(0, .ref 38), (1, .ref w1), (2, .int v2), (3, .int v3)] [] := by
  intro n
  induction n with
  | zero => intro S v2 v3 _ hT; exact hT.elim
  | succ n ih =>
    intro S v2 v3 hM hT hk
    unfold T_X8_seekShow_12 at hT
    obtain ⟨h0, h1⟩ := hT
    refine aw_iload_n hC 3 dX8_seekShow_12 rfl rfl ?_
    refine aw_if_le hC 87 dX8_seekShow_13 (by decide) (fun c1003 => ?_) (fun c1003 => ?_)
    · refine aw_sub [0, 1, 2, 3] rfl ?_
      have E : L_X8_seekShow_12 w1 (n + 1) S v2 v3 = _ := (if_pos c1003).trans (rfl)
      rw [E] at hk
      exact hk
    · refine aw_iconst (v := 0) hC dX8_seekShow_16 (by decide) ?_
      refine aw_istore hC [(4, .int _), (0, .ref 38), (1, .ref w1), (2, .int _), (3, .int _)] dX8_seekShow_17 (by decide) rfl ?_
      refine aw_sub [1, 2, 3, 4, 0] rfl ?_
      refine l_X8_seekShow_19 hC hSt hw1 1000 _ _ _ _ hM (h0 c1003) ?_
      generalize er1004 : L_X8_seekShow_19 w1 1000 S v2 v3 (0 : Int32) = r1004
      have hM : CS r1004.2.2.2 := CS.of (by rw [← er1004]; exact qL_X8_seekShow_19 w1 _ _ _ _ _) hM
      refine aw_iinc (v := (r1004.2.1 + (-1 : Int32))) hC 3 [(3, .int _), (0, .ref 38), (1, .ref w1), (2, .int _), (4, .int _)] dX8_seekShow_81 rfl rfl (by decide) rfl ?_
      refine aw_goto hC 12 dX8_seekShow_84 (by decide) ?_
      refine aw_sub [1, 2, 3, 0] rfl ?_
      have hTn := (h1 c1003 r1004 er1004)
      have hMn : CS r1004.2.2.2 := hM
      have E : L_X8_seekShow_12 w1 (n + 1) S v2 v3 = _ := (if_neg c1003).trans ((bd_eq er1004).trans (rfl))
      rw [E] at hk
      exact ih _ _ _ hMn hTn hk
noncomputable def L_X8_seekShow_104 (w1 : Nat) : Nat → HSt → Int32 → Int32 → Int32 → Int32 × Int32 × Int32 × HSt
  | 0, S, v2, v3, v4 => (v2, v3, v4, S)
  | n + 1, S, v2, v3, v4 =>
    if v4 = (-1000000 : Int32) then ((pr (v2) (pr (v3) (pr (v4) (S))))) else (if v2 ≤ (gI S 38 4) then ((pr (v2) (pr (v3) (pr (v4) (S))))) else (bd ((sI S 40 (gI S 38 4).toNatClampNeg v4)) fun S1008 => bd ((sI S1008 38 4 ((gI S1008 38 4) + (1 : Int32)))) fun S1009 => bd ((v3 ||| ((1 : Int32) <<< (v4 &&& 31)))) fun x1010 => bd ((f_X8_nextForm S1009 38 w1 x1010 v4)) fun x1011 => L_X8_seekShow_104 w1 n S1009 v2 x1010 x1011))
def T_X8_seekShow_104 (w1 : Nat) : Nat → HSt → Int32 → Int32 → Int32 → Prop
  | 0, _, _, _, _ => False
  | n + 1, S, v2, v3, v4 => ((¬ v4 = (-1000000 : Int32)) → (¬ v2 ≤ (gI S 38 4)) → vp_in (gI S 38 4) 6) ∧ ((¬ v4 = (-1000000 : Int32)) → (¬ v2 ≤ (gI S 38 4)) → ∀ S1008 : HSt, (sI S 40 (gI S 38 4).toNatClampNeg v4) = S1008 → ∀ S1009 : HSt, (sI S1008 38 4 ((gI S1008 38 4) + (1 : Int32))) = S1009 → ∀ x1010 : Int32, (v3 ||| ((1 : Int32) <<< (v4 &&& 31))) = x1010 → p_X8_nextForm S1009 38 w1 x1010 v4) ∧ ((¬ v4 = (-1000000 : Int32)) → (¬ v2 ≤ (gI S 38 4)) → ∀ S1008 : HSt, (sI S 40 (gI S 38 4).toNatClampNeg v4) = S1008 → ∀ S1009 : HSt, (sI S1008 38 4 ((gI S1008 38 4) + (1 : Int32))) = S1009 → ∀ x1010 : Int32, (v3 ||| ((1 : Int32) <<< (v4 &&& 31))) = x1010 → ∀ x1011 : Int32, (f_X8_nextForm S1009 38 w1 x1010 v4) = x1011 → T_X8_seekShow_104 w1 n S1009 v2 x1010 x1011)
theorem qL_X8_seekShow_104 (w1 : Nat) : ∀ (n : Nat) (S : HSt) (v2 : Int32) (v3 : Int32) (v4 : Int32), shp (L_X8_seekShow_104 w1 n S v2 v3 v4).2.2.2 = shp S := by
  intro n
  induction n with
  | zero => intros; rfl
  | succ n ih =>
    intro S v2 v3 v4
    unfold L_X8_seekShow_104
    repeat' (first | with_reducible refine shpr3 ?_ | with_reducible rfl | with_reducible refine (ih _ _ _ _).trans ?_ | with_reducible refine (qL_X8_seekShow_12 w1 _ _ _ _).trans ?_ | with_reducible refine (qL_X8_seekShow_19 w1 _ _ _ _ _).trans ?_ | with_reducible refine (shp_sI _ _ _ _).trans ?_ | with_reducible refine (shp_sJ _ _ _ _).trans ?_ | with_reducible refine (shp_rI _ _ _).trans ?_ | with_reducible refine shi ?_ ?_ | with_reducible refine shb (fun _ _ => ?_) | with_reducible refine shiP (fun q : Int32 × Int32 × Int32 × HSt => q.2.2.2) ?_ ?_ | with_reducible refine shbP (fun q : Int32 × Int32 × Int32 × HSt => q.2.2.2) (fun _ _ => ?_) | (subst_vars; with_reducible rfl) | (subst_vars; with_reducible refine (ih _ _ _ _).trans ?_) | (subst_vars; with_reducible refine (qL_X8_seekShow_12 w1 _ _ _ _).trans ?_) | (subst_vars; with_reducible refine (qL_X8_seekShow_19 w1 _ _ _ _ _).trans ?_) | (subst_vars; with_reducible refine (shp_sI _ _ _ _).trans ?_) | (subst_vars; with_reducible refine (shp_sJ _ _ _ _).trans ?_) | (subst_vars; with_reducible refine (shp_rI _ _ _).trans ?_) | (subst_vars; with_reducible refine shi ?_ ?_) | (subst_vars; with_reducible refine shb (fun _ _ => ?_)))
theorem vL_X8_seekShow_104 (w1 : Nat) : ∀ (n : Nat) (S : HSt) (v2 : Int32) (v3 : Int32) (v4 : Int32), Fr [(38, 4), (40, 1000)] S (L_X8_seekShow_104 w1 n S v2 v3 v4).2.2.2 := by
  intro n
  induction n with
  | zero => intros; exact Fr.refl _ _
  | succ n ih =>
    intro S v2 v3 v4
    unfold L_X8_seekShow_104
    repeat' (first | with_reducible refine frpr3 ?_ | with_reducible exact Fr.refl _ _ | with_reducible refine Fr.lP (fun q : Int32 × Int32 × Int32 × HSt => q.2.2.2) (fun _ _ => ?_) | with_reducible refine Fr.iteP (fun q : Int32 × Int32 × Int32 × HSt => q.2.2.2) ?_ ?_ | with_reducible refine Fr.l1 (fun _ _ => ?_) | with_reducible refine Fr.ite ?_ ?_ | with_reducible refine Fr.sE (by assumption) (by first | decide | simp only [List.mem_cons, List.not_mem_nil, or_false, true_or, or_true, eq_self_iff_true]) ?_ | with_reducible refine Fr.jE (by assumption) ?_ | with_reducible refine Fr.rE (by assumption) (by first | decide | simp only [List.mem_cons, List.not_mem_nil, or_false, true_or, or_true, eq_self_iff_true]) ?_ | with_reducible refine Fr.iE (by assumption) ?_ ?_ | with_reducible refine Fr.tr (ih _ _ _ _) (by first | decide | simp only [List.mem_cons, List.not_mem_nil, or_false, forall_eq_or_imp, forall_eq, true_or, or_true, and_self, eq_self_iff_true]) ?_ | with_reducible refine Fr.tr (wL_X8_seekShow_12 w1 _ _ _ _ _ (by assumption)) (by first | decide | simp only [List.mem_cons, List.not_mem_nil, or_false, forall_eq_or_imp, forall_eq, true_or, or_true, and_self, eq_self_iff_true]) ?_ | with_reducible refine Fr.tr (wL_X8_seekShow_19 w1 _ _ _ _ _ _ (by assumption)) (by first | decide | simp only [List.mem_cons, List.not_mem_nil, or_false, forall_eq_or_imp, forall_eq, true_or, or_true, and_self, eq_self_iff_true]) ?_)
theorem wL_X8_seekShow_104 (w1 : Nat) (n : Nat) (S : HSt) (v2 : Int32) (v3 : Int32) (v4 : Int32) (r : Int32 × Int32 × Int32 × HSt) (e : L_X8_seekShow_104 w1 n S v2 v3 v4 = r) : Fr [(38, 4), (40, 1000)] S r.2.2.2 := by
  rw [← e]
  exact vL_X8_seekShow_104 w1 n S v2 v3 v4
set_option maxRecDepth 100000 in
theorem l_X8_seekShow_104 {p : Program} {l : Launch} {e : Env} {s : State} {m : MethodId} {args : Array Value} {below : List Frame} {meth : Method} {c : Code} {G : GG} {Q : State → Prop} (hC : ACx p s m args meth c cX8_seekShow RX8 6 none) (hSt : St G s) {w1 : Nat} (hw1 : (w1, 10, 0) ∈ cKT) : ∀ (n : Nat) (S : HSt) (v2 : Int32) (v3 : Int32) (v4 : Int32), CS S → T_X8_seekShow_104 w1 n S v2 v3 v4 → AW p l e (rmD 4 0 0) s m args below meth c G 6 Q (L_X8_seekShow_104 w1 n S v2 v3 v4).2.2.2 0 0 160 [(0, .ref 38), (1, .ref w1), (2, .int (L_X8_seekShow_104 w1 n S v2 v3 v4).1), (3, .int (L_X8_seekShow_104 w1 n S v2 v3 v4).2.1), (4, .int (L_X8_seekShow_104 w1 n S v2 v3 v4).2.2.1)] [] → AW p l e (rmD 4 0 0) s m args below meth c G 6 Q S 0 0 104 [(0, .ref 38), (1, .ref w1), (2, .int v2), (3, .int v3), (4, .int v4)] [] := by
  intro n
  induction n with
  | zero => intro S v2 v3 v4 _ hT; exact hT.elim
  | succ n ih =>
    intro S v2 v3 v4 hM hT hk
    unfold T_X8_seekShow_104 at hT
    obtain ⟨h0, h1, h2⟩ := hT
    refine aw_iload hC 4 dX8_seekShow_104 rfl ?_
    refine aw_ldc (v := -1000000) hC w_626 dX8_seekShow_106 ?_
    refine aw_icmp_eq hC 160 dX8_seekShow_108 (by decide) (fun c1006 => ?_) (fun c1006 => ?_)
    · refine aw_sub [0, 1, 2, 3, 4] rfl ?_
      have E : L_X8_seekShow_104 w1 (n + 1) S v2 v3 v4 = _ := (if_pos c1006).trans (rfl)
      rw [E] at hk
      exact hk
    · refine aw_aload_n hC 0 dX8_seekShow_111 rfl rfl ?_
      refine aw_getI hC hSt 4 (cs_lt 38 8 0 (by decide) hM) (cs_k 38 8 0 (by decide) hM) rfl (by decide) w_633 rfl dX8_seekShow_112 ?_
      refine aw_iload_n hC 2 dX8_seekShow_115 rfl rfl ?_
      refine aw_icmp_ge hC 160 dX8_seekShow_116 (by decide) (fun c1007 => ?_) (fun c1007 => ?_)
      · refine aw_sub [0, 1, 2, 3, 4] rfl ?_
        have E : L_X8_seekShow_104 w1 (n + 1) S v2 v3 v4 = _ := (if_neg c1006).trans ((if_pos c1007).trans (rfl))
        rw [E] at hk
        exact hk
      · refine aw_aload_n hC 0 dX8_seekShow_119 rfl rfl ?_
        refine aw_getP (b := 40) hC hSt 1 (cs_lt 38 8 0 (by decide) hM) (cs_k 38 8 0 (by decide) hM) rfl (by decide) w_615 rfl (cs_p 38 1 40 (by decide) hM) dX8_seekShow_120 ?_
        refine aw_aload_n hC 0 dX8_seekShow_123 rfl rfl ?_
        refine aw_getI hC hSt 4 (cs_lt 38 8 0 (by decide) hM) (cs_k 38 8 0 (by decide) hM) rfl (by decide) w_633 rfl dX8_seekShow_124 ?_
        refine aw_iload hC 4 dX8_seekShow_127 rfl ?_
        refine aw_iast hC hSt (cs_lt 40 14 6 (by decide) hM) (cs_k 40 14 6 (by decide) hM) (vp_len (n := 6) (cs_l 40 14 6 (by decide) hM) (h0 c1006 c1007)) dX8_seekShow_129 ?_
        generalize eS1008 : (sI S 40 (gI S 38 4).toNatClampNeg v4) = S1008
        have hM : CS S1008 := CS.of (by rw [← eS1008]; exact shp_sI _ _ _ _) hM
        refine aw_aload_n hC 0 dX8_seekShow_130 rfl rfl ?_
        refine aw_dup hC dX8_seekShow_131 rfl ?_
        refine aw_getI hC hSt 4 (cs_lt 38 8 0 (by decide) hM) (cs_k 38 8 0 (by decide) hM) rfl (by decide) w_633 rfl dX8_seekShow_132 ?_
        refine aw_iconst (v := 1) hC dX8_seekShow_135 (by decide) ?_
        refine aw_iadd hC dX8_seekShow_136 ?_
        refine aw_putI hC hSt 4 (cs_lt 38 8 0 (by decide) hM) (cs_k 38 8 0 (by decide) hM) rfl (by decide) w_633 rfl rfl rfl rfl dX8_seekShow_137 ?_
        generalize eS1009 : (sI S1008 38 4 ((gI S1008 38 4) + (1 : Int32))) = S1009
        have hM : CS S1009 := CS.of (by rw [← eS1009]; exact shp_sI _ _ _ _) hM
        refine aw_iload_n hC 3 dX8_seekShow_140 rfl rfl ?_
        refine aw_iconst (v := 1) hC dX8_seekShow_141 (by decide) ?_
        refine aw_iload hC 4 dX8_seekShow_142 rfl ?_
        refine aw_ishl hC dX8_seekShow_144 ?_
        refine aw_ior hC dX8_seekShow_145 ?_
        refine aw_istore_n hC [(3, .int _), (0, .ref 38), (1, .ref w1), (2, .int _), (4, .int _)] dX8_seekShow_146 rfl (by decide) rfl ?_
        generalize ex1010 : (v3 ||| ((1 : Int32) <<< (v4 &&& 31))) = x1010
        refine aw_aload_n hC 1 dX8_seekShow_147 rfl rfl ?_
        refine aw_aload_n hC 2 dX8_seekShow_148 rfl rfl ?_
        refine aw_iload_n hC 0 dX8_seekShow_149 rfl rfl ?_
        refine aw_iload hC 4 dX8_seekShow_150 rfl ?_
        refine aw_cV3r hC hSt (t_X8_nextForm G l hM _ _ _ hw1 (h1 c1006 c1007 S1008 eS1008 S1009 eS1009 x1010 ex1010)) w_632 w_634 w_635 w_636 w_625 rfl rfl (by decide +kernel) ⟨Nat.le_of_ble_eq_true rfl, Nat.le_of_ble_eq_true rfl⟩ (cs_lt 38 8 0 (by decide) hM) (cs_k 38 8 0 (by decide) hM) rfl (Nat.le_of_ble_eq_true rfl) dX8_seekShow_152 ⟨Nat.zero_le _, Nat.zero_le _⟩ ?_
        refine aw_istore hC [(4, .int _), (3, .int _), (0, .ref 38), (1, .ref w1), (2, .int _)] dX8_seekShow_155 (by decide) rfl ?_
        generalize ex1011 : (f_X8_nextForm S1009 38 w1 x1010 v4) = x1011
        refine aw_goto hC 104 dX8_seekShow_157 (by decide) ?_
        refine aw_sub [2, 3, 4, 1, 0] rfl ?_
        have hTn := (h2 c1006 c1007 S1008 eS1008 S1009 eS1009 x1010 ex1010 x1011 ex1011)
        have hMn : CS S1009 := hM
        have E : L_X8_seekShow_104 w1 (n + 1) S v2 v3 v4 = _ := (if_neg c1006).trans ((if_neg c1007).trans ((bd_eq eS1008).trans ((bd_eq eS1009).trans ((bd_eq ex1010).trans ((bd_eq ex1011).trans (rfl))))))
        rw [E] at hk
        exact ih _ _ _ _ hMn hTn hk
noncomputable def f_X8_seekShow (S : HSt) (_o0 : Nat) (w1 : Nat) : HSt := bd ((f_X10_howMany S w1 (3 : Int32))) fun x1 => bd ((((1 : Int32) <<< (x1 &&& 31)) - (1 : Int32))) fun x2 => bd (L_X8_seekShow_12 w1 1000 S x1 x2) fun r3 => bd ((sI r3.2.2 38 4 (0 : Int32))) fun S4 => bd ((f_X8_nextForm S4 38 w1 (0 : Int32) (-1000000 : Int32))) fun x5 => bd (L_X8_seekShow_104 w1 1000 S4 r3.1 (0 : Int32) x5) fun r6 => r6.2.2.2
def p_X8_seekShow (S : HSt) (_o0 : Nat) (w1 : Nat) : Prop := (p_X10_howMany S w1 (3 : Int32)) ∧ (∀ x1 : Int32, (f_X10_howMany S w1 (3 : Int32)) = x1 → ∀ x2 : Int32, (((1 : Int32) <<< (x1 &&& 31)) - (1 : Int32)) = x2 → T_X8_seekShow_12 w1 1000 S x1 x2) ∧ (∀ x1 : Int32, (f_X10_howMany S w1 (3 : Int32)) = x1 → ∀ x2 : Int32, (((1 : Int32) <<< (x1 &&& 31)) - (1 : Int32)) = x2 → ∀ r3, L_X8_seekShow_12 w1 1000 S x1 x2 = r3 → ∀ S4 : HSt, (sI r3.2.2 38 4 (0 : Int32)) = S4 → p_X8_nextForm S4 38 w1 (0 : Int32) (-1000000 : Int32)) ∧ (∀ x1 : Int32, (f_X10_howMany S w1 (3 : Int32)) = x1 → ∀ x2 : Int32, (((1 : Int32) <<< (x1 &&& 31)) - (1 : Int32)) = x2 → ∀ r3, L_X8_seekShow_12 w1 1000 S x1 x2 = r3 → ∀ S4 : HSt, (sI r3.2.2 38 4 (0 : Int32)) = S4 → ∀ x5 : Int32, (f_X8_nextForm S4 38 w1 (0 : Int32) (-1000000 : Int32)) = x5 → T_X8_seekShow_104 w1 1000 S4 r3.1 (0 : Int32) x5)
set_option maxRecDepth 100000 in
theorem t_X8_seekShow (G : GG) (l : Launch) {S : HSt} (hM : CS S) (w1 : Nat) (hw1 : (w1, 10, 0) ∈ cKT) (hp : p_X8_seekShow S 38 w1) : AM G l yX8_seekShow cX8_seekShow 6 none (rmD 4 0 0) 0 0 [.ref 38, .ref w1] S (FP none (f_X8_seekShow S 38 w1)) := by
  obtain ⟨h0, h1, h2, h3⟩ := hp
  refine AM.mk (by decide) (Nat.le_of_ble_eq_true rfl) ?_
  intro p e s m below meth c hC hSt _
  refine aw_aload_n hC 1 dX8_seekShow_0 rfl rfl ?_
  refine aw_iconst (v := 3) hC dX8_seekShow_1 (by decide) ?_
  refine aw_cV1r hC hSt (t_X10_howMany G l hM _ _ hw1 (h0)) w_152 w_627 w_237 w_238 w_18 rfl rfl (by decide +kernel) ⟨Nat.le_of_ble_eq_true rfl, Nat.le_of_ble_eq_true rfl⟩ (cs_lt w1 10 0 hw1 hM) (cs_k w1 10 0 hw1 hM) rfl (Nat.le_of_ble_eq_true rfl) dX8_seekShow_2 ⟨Nat.zero_le _, Nat.zero_le _⟩ ?_
  refine aw_istore_n hC [(2, .int _), (0, .ref 38), (1, .ref w1)] dX8_seekShow_5 rfl (by decide) rfl ?_
  generalize ex1 : (f_X10_howMany S w1 (3 : Int32)) = x1
  refine aw_iconst (v := 1) hC dX8_seekShow_6 (by decide) ?_
  refine aw_iload_n hC 0 dX8_seekShow_7 rfl rfl ?_
  refine aw_ishl hC dX8_seekShow_8 ?_
  refine aw_iconst (v := 1) hC dX8_seekShow_9 (by decide) ?_
  refine aw_isub hC dX8_seekShow_10 ?_
  refine aw_istore_n hC [(3, .int _), (2, .int _), (0, .ref 38), (1, .ref w1)] dX8_seekShow_11 rfl (by decide) rfl ?_
  generalize ex2 : (((1 : Int32) <<< (x1 &&& 31)) - (1 : Int32)) = x2
  refine aw_sub [2, 3, 1, 0] rfl ?_
  refine l_X8_seekShow_12 hC hSt hw1 1000 _ _ _ hM (h1 x1 ex1 x2 ex2) ?_
  generalize er3 : L_X8_seekShow_12 w1 1000 S x1 x2 = r3
  have hM : CS r3.2.2 := CS.of (by rw [← er3]; exact qL_X8_seekShow_12 w1 _ _ _ _) hM
  refine aw_aload_n hC 0 dX8_seekShow_87 rfl rfl ?_
  refine aw_iconst (v := 0) hC dX8_seekShow_88 (by decide) ?_
  refine aw_putI hC hSt 4 (cs_lt 38 8 0 (by decide) hM) (cs_k 38 8 0 (by decide) hM) rfl (by decide) w_633 rfl rfl rfl rfl dX8_seekShow_89 ?_
  generalize eS4 : (sI r3.2.2 38 4 (0 : Int32)) = S4
  have hM : CS S4 := CS.of (by rw [← eS4]; exact shp_sI _ _ _ _) hM
  refine aw_iconst (v := 0) hC dX8_seekShow_92 (by decide) ?_
  refine aw_istore_n hC [(3, .int _), (0, .ref 38), (1, .ref w1), (2, .int _)] dX8_seekShow_93 rfl (by decide) rfl ?_
  refine aw_aload_n hC 1 dX8_seekShow_94 rfl rfl ?_
  refine aw_aload_n hC 2 dX8_seekShow_95 rfl rfl ?_
  refine aw_iconst (v := 0) hC dX8_seekShow_96 (by decide) ?_
  refine aw_ldc (v := -1000000) hC w_626 dX8_seekShow_97 ?_
  refine aw_cV3r hC hSt (t_X8_nextForm G l hM _ _ _ hw1 (h2 x1 ex1 x2 ex2 r3 er3 S4 eS4)) w_632 w_634 w_635 w_636 w_625 rfl rfl (by decide +kernel) ⟨Nat.le_of_ble_eq_true rfl, Nat.le_of_ble_eq_true rfl⟩ (cs_lt 38 8 0 (by decide) hM) (cs_k 38 8 0 (by decide) hM) rfl (Nat.le_of_ble_eq_true rfl) dX8_seekShow_99 ⟨Nat.zero_le _, Nat.zero_le _⟩ ?_
  refine aw_istore hC [(4, .int _), (3, .int _), (0, .ref 38), (1, .ref w1), (2, .int _)] dX8_seekShow_102 (by decide) rfl ?_
  generalize ex5 : (f_X8_nextForm S4 38 w1 (0 : Int32) (-1000000 : Int32)) = x5
  refine aw_sub [2, 3, 4, 1, 0] rfl ?_
  refine l_X8_seekShow_104 hC hSt hw1 1000 _ _ _ _ hM (h3 x1 ex1 x2 ex2 r3 er3 S4 eS4 x5 ex5) ?_
  generalize er6 : L_X8_seekShow_104 w1 1000 S4 r3.1 (0 : Int32) x5 = r6
  have hM : CS r6.2.2.2 := CS.of (by rw [← er6]; exact qL_X8_seekShow_104 w1 _ _ _ _ _) hM
  refine aw_vret hC dX8_seekShow_160 (Nat.le_refl _) (Nat.le_refl _) ?_
  exact FP.qV ((bd_eq ex1).trans ((bd_eq ex2).trans ((bd_eq er3).trans ((bd_eq eS4).trans ((bd_eq ex5).trans ((bd_eq er6).trans (rfl)))))))
theorem q_X8_seekShow (S : HSt) (_o0 : Nat) (w1 : Nat) : shp (f_X8_seekShow S _o0 w1) = shp S := by
  unfold f_X8_seekShow
  repeat' (first | with_reducible rfl | with_reducible refine (qL_X8_seekShow_12 w1 _ _ _ _).trans ?_ | with_reducible refine (qL_X8_seekShow_19 w1 _ _ _ _ _).trans ?_ | with_reducible refine (qL_X8_seekShow_104 w1 _ _ _ _ _).trans ?_ | with_reducible refine (shp_sI _ _ _ _).trans ?_ | with_reducible refine (shp_sJ _ _ _ _).trans ?_ | with_reducible refine (shp_rI _ _ _).trans ?_ | with_reducible refine shi ?_ ?_ | with_reducible refine shb (fun _ _ => ?_) | (subst_vars; with_reducible rfl) | (subst_vars; with_reducible refine (qL_X8_seekShow_12 w1 _ _ _ _).trans ?_) | (subst_vars; with_reducible refine (qL_X8_seekShow_19 w1 _ _ _ _ _).trans ?_) | (subst_vars; with_reducible refine (qL_X8_seekShow_104 w1 _ _ _ _ _).trans ?_) | (subst_vars; with_reducible refine (shp_sI _ _ _ _).trans ?_) | (subst_vars; with_reducible refine (shp_sJ _ _ _ _).trans ?_) | (subst_vars; with_reducible refine (shp_rI _ _ _).trans ?_) | (subst_vars; with_reducible refine shi ?_ ?_) | (subst_vars; with_reducible refine shb (fun _ _ => ?_)))
theorem v_X8_seekShow (S : HSt) (_o0 : Nat) (w1 : Nat) : Fr [(38, 4), (39, 1000), (40, 1000)] S (f_X8_seekShow S _o0 w1) := by
  unfold f_X8_seekShow
  repeat' (first | with_reducible exact Fr.refl _ _ | with_reducible refine Fr.l1 (fun _ _ => ?_) | with_reducible refine Fr.ite ?_ ?_ | with_reducible refine Fr.sE (by assumption) (by first | decide | simp only [List.mem_cons, List.not_mem_nil, or_false, true_or, or_true, eq_self_iff_true]) ?_ | with_reducible refine Fr.jE (by assumption) ?_ | with_reducible refine Fr.rE (by assumption) (by first | decide | simp only [List.mem_cons, List.not_mem_nil, or_false, true_or, or_true, eq_self_iff_true]) ?_ | with_reducible refine Fr.iE (by assumption) ?_ ?_ | with_reducible refine Fr.tr (wL_X8_seekShow_12 w1 _ _ _ _ _ (by assumption)) (by first | decide | simp only [List.mem_cons, List.not_mem_nil, or_false, forall_eq_or_imp, forall_eq, true_or, or_true, and_self, eq_self_iff_true]) ?_ | with_reducible refine Fr.tr (wL_X8_seekShow_19 w1 _ _ _ _ _ _ (by assumption)) (by first | decide | simp only [List.mem_cons, List.not_mem_nil, or_false, forall_eq_or_imp, forall_eq, true_or, or_true, and_self, eq_self_iff_true]) ?_ | with_reducible refine Fr.tr (wL_X8_seekShow_104 w1 _ _ _ _ _ _ (by assumption)) (by first | decide | simp only [List.mem_cons, List.not_mem_nil, or_false, forall_eq_or_imp, forall_eq, true_or, or_true, and_self, eq_self_iff_true]) ?_)
theorem w_X8_seekShow (S : HSt) (_o0 : Nat) (w1 : Nat) (r : HSt) (e : f_X8_seekShow S _o0 w1 = r) : Fr [(38, 4), (39, 1000), (40, 1000)] S r := by
  rw [← e]
  exact v_X8_seekShow S _o0 w1
noncomputable def F_X8_skillBehind (S : HSt) (w1 : Nat) (a2 : Int32) (a3 : Int32) : Int32 × HSt := bd ((f_X10_value S w1 (0 : Int32) a2 (1 : Int32))) fun x1 => bd ((f_X10_value S w1 (0 : Int32) a2 (0 : Int32))) fun x2 => bd ((if 0 ≤ (((a3 / (10 : Int32)) - x1) - (x2 / (50 : Int32))) then (((a3 / (10 : Int32)) - x1) - (x2 / (50 : Int32))) else 0 - (((a3 / (10 : Int32)) - x1) - (x2 / (50 : Int32))))) fun x3 => pr ((if (a3 + (if (0 : Int32) < ((10 : Int32) - x3) then ((10 : Int32) - x3) else (0 : Int32))) < (100 : Int32) then (a3 + (if (0 : Int32) < ((10 : Int32) - x3) then ((10 : Int32) - x3) else (0 : Int32))) else (100 : Int32))) (S)
noncomputable def f_X8_skillBehind (S : HSt) (w1 : Nat) (a2 : Int32) (a3 : Int32) : Int32 := (F_X8_skillBehind S w1 a2 a3).1
def p_X8_skillBehind (S : HSt) (w1 : Nat) (a2 : Int32) (a3 : Int32) : Prop := (p_X10_value S w1 (0 : Int32) a2 (1 : Int32)) ∧ (∀ x1 : Int32, (f_X10_value S w1 (0 : Int32) a2 (1 : Int32)) = x1 → p_X10_value S w1 (0 : Int32) a2 (0 : Int32))
set_option maxRecDepth 100000 in
theorem t_X8_skillBehind (G : GG) (l : Launch) {S : HSt} (hM : CS S) (w1 : Nat) (a2 : Int32) (a3 : Int32) (hw1 : (w1, 10, 0) ∈ cKT) (hp : p_X8_skillBehind S w1 a2 a3) : AM G l yX8_skillBehind cX8_skillBehind 6 (some .int) (rmD 1 0 0) 0 0 [.ref w1, .int a2, .int a3] S (FP (some (.int (f_X8_skillBehind S w1 a2 a3))) (S)) := by
  obtain ⟨h0, h1⟩ := hp
  refine AM.mk (by decide) (Nat.le_of_ble_eq_true rfl) ?_
  intro p e s m below meth c hC hSt _
  refine aw_aload_n hC 0 dX8_skillBehind_0 rfl rfl ?_
  refine aw_iconst (v := 0) hC dX8_skillBehind_1 (by decide) ?_
  refine aw_iload_n hC 1 dX8_skillBehind_2 rfl rfl ?_
  refine aw_iconst (v := 1) hC dX8_skillBehind_3 (by decide) ?_
  refine aw_cV3r hC hSt (t_X10_value G l hM _ _ _ _ hw1 (h0)) w_10 w_621 w_16 w_17 w_18 rfl rfl (by decide +kernel) ⟨Nat.le_of_ble_eq_true rfl, Nat.le_of_ble_eq_true rfl⟩ (cs_lt w1 10 0 hw1 hM) (cs_k w1 10 0 hw1 hM) rfl (Nat.le_of_ble_eq_true rfl) dX8_skillBehind_4 ⟨Nat.zero_le _, Nat.zero_le _⟩ ?_
  refine aw_istore_n hC [(3, .int _), (0, .ref w1), (1, .int _), (2, .int _)] dX8_skillBehind_7 rfl (by decide) rfl ?_
  generalize ex1 : (f_X10_value S w1 (0 : Int32) a2 (1 : Int32)) = x1
  refine aw_aload_n hC 1 dX8_skillBehind_8 rfl rfl ?_
  refine aw_iconst (v := 0) hC dX8_skillBehind_9 (by decide) ?_
  refine aw_iload_n hC 2 dX8_skillBehind_10 rfl rfl ?_
  refine aw_iconst (v := 0) hC dX8_skillBehind_11 (by decide) ?_
  refine aw_cV3r hC hSt (t_X10_value G l hM _ _ _ _ hw1 (h1 x1 ex1)) w_10 w_621 w_16 w_17 w_18 rfl rfl (by decide +kernel) ⟨Nat.le_of_ble_eq_true rfl, Nat.le_of_ble_eq_true rfl⟩ (cs_lt w1 10 0 hw1 hM) (cs_k w1 10 0 hw1 hM) rfl (Nat.le_of_ble_eq_true rfl) dX8_skillBehind_12 ⟨Nat.zero_le _, Nat.zero_le _⟩ ?_
  refine aw_istore hC [(4, .int _), (3, .int _), (0, .ref w1), (1, .int _), (2, .int _)] dX8_skillBehind_15 (by decide) rfl ?_
  generalize ex2 : (f_X10_value S w1 (0 : Int32) a2 (0 : Int32)) = x2
  refine aw_iload_n hC 4 dX8_skillBehind_17 rfl rfl ?_
  refine aw_bipush (v := 10) hC dX8_skillBehind_18 (by decide) ?_
  refine aw_idiv hC dX8_skillBehind_20 (by decide) ?_
  refine aw_iload_n hC 1 dX8_skillBehind_21 rfl rfl ?_
  refine aw_isub hC dX8_skillBehind_22 ?_
  refine aw_iload hC 0 dX8_skillBehind_23 rfl ?_
  refine aw_bipush (v := 50) hC dX8_skillBehind_25 (by decide) ?_
  refine aw_idiv hC dX8_skillBehind_27 (by decide) ?_
  refine aw_isub hC dX8_skillBehind_28 ?_
  refine aw_abs hC w_641 w_109 w_92 w_110 (by decide) (Nat.le_of_ble_eq_true rfl) (by decide) (by decide) dX8_skillBehind_29 ?_
  refine aw_istore hC [(5, .int _), (4, .int _), (3, .int _), (0, .ref w1), (1, .int _), (2, .int _)] dX8_skillBehind_32 (by decide) rfl ?_
  generalize ex3 : (if 0 ≤ (((a3 / (10 : Int32)) - x1) - (x2 / (50 : Int32))) then (((a3 / (10 : Int32)) - x1) - (x2 / (50 : Int32))) else 0 - (((a3 / (10 : Int32)) - x1) - (x2 / (50 : Int32)))) = x3
  refine aw_bipush (v := 100) hC dX8_skillBehind_34 (by decide) ?_
  refine aw_iload_n hC 5 dX8_skillBehind_36 rfl rfl ?_
  refine aw_iconst (v := 0) hC dX8_skillBehind_37 (by decide) ?_
  refine aw_bipush (v := 10) hC dX8_skillBehind_38 (by decide) ?_
  refine aw_iload hC 0 dX8_skillBehind_40 rfl ?_
  refine aw_isub hC dX8_skillBehind_42 ?_
  refine aw_max hC w_642 w_91 w_92 w_93 (by decide) (Nat.le_of_ble_eq_true rfl) (by decide) (by decide) dX8_skillBehind_43 ?_
  refine aw_iadd hC dX8_skillBehind_46 ?_
  refine aw_min hC w_643 w_95 w_92 w_96 (by decide) (Nat.le_of_ble_eq_true rfl) (by decide) (by decide) dX8_skillBehind_47 ?_
  refine aw_iret hC dX8_skillBehind_50 (Nat.le_refl _) (Nat.le_refl _) ?_
  exact FP.pI ((bd_eq ex1).trans ((bd_eq ex2).trans ((bd_eq ex3).trans (rfl))))
noncomputable def F_X8_triesBy (S : HSt) (_o0 : Nat) (w1 : Nat) (a2 : Int32) (a3 : Int32) : Int32 × HSt := bd ((f_X8_skillBehind S w1 a2 a3)) fun x1 => bd ((if x1 ≤ a3 then (31 : Int32) else (if (100 : Int32) < x1 then (31 : Int32) else ((1 : Int32) + (gI S 41 x1.toNatClampNeg))))) fun x4 => pr (x4) (S)
noncomputable def f_X8_triesBy (S : HSt) (_o0 : Nat) (w1 : Nat) (a2 : Int32) (a3 : Int32) : Int32 := (F_X8_triesBy S _o0 w1 a2 a3).1
def p_X8_triesBy (S : HSt) (_o0 : Nat) (w1 : Nat) (a2 : Int32) (a3 : Int32) : Prop := (p_X8_skillBehind S w1 a2 a3) ∧ (∀ x1 : Int32, (f_X8_skillBehind S w1 a2 a3) = x1 → (¬ x1 ≤ a3) → (¬ (100 : Int32) < x1) → vp_in x1 101)
set_option maxRecDepth 100000 in
theorem t_X8_triesBy (G : GG) (l : Launch) {S : HSt} (hM : CS S) (w1 : Nat) (a2 : Int32) (a3 : Int32) (hw1 : (w1, 10, 0) ∈ cKT) (hp : p_X8_triesBy S 38 w1 a2 a3) : AM G l yX8_triesBy cX8_triesBy 5 (some .int) (rmD 2 0 0) 0 0 [.ref 38, .ref w1, .int a2, .int a3] S (FP (some (.int (f_X8_triesBy S 38 w1 a2 a3))) (S)) := by
  obtain ⟨h0, h1⟩ := hp
  refine AM.mk (by decide) (Nat.le_of_ble_eq_true rfl) ?_
  intro p e s m below meth c hC hSt _
  refine aw_aload_n hC 1 dX8_triesBy_0 rfl rfl ?_
  refine aw_iload_n hC 2 dX8_triesBy_1 rfl rfl ?_
  refine aw_iload_n hC 3 dX8_triesBy_2 rfl rfl ?_
  refine aw_cS3r hC hSt (t_X8_skillBehind G l hM _ _ _ hw1 (h0)) w_640 w_645 w_646 w_625 rfl rfl (by decide +kernel) ⟨Nat.le_of_ble_eq_true rfl, Nat.le_of_ble_eq_true rfl⟩ (Nat.le_of_ble_eq_true rfl) dX8_triesBy_3 ⟨Nat.zero_le _, Nat.zero_le _⟩ ?_
  refine aw_istore hC [(4, .int _), (0, .ref 38), (1, .ref w1), (2, .int _), (3, .int _)] dX8_triesBy_6 (by decide) rfl ?_
  generalize ex1 : (f_X8_skillBehind S w1 a2 a3) = x1
  refine aw_iload hC 0 dX8_triesBy_8 rfl ?_
  refine aw_iload_n hC 4 dX8_triesBy_10 rfl rfl ?_
  refine aw_cut (S' := S) (pc' := 35) (lv' := [(4, .int x1), (0, .ref 38), (1, .ref w1), (2, .int a2), (3, .int a3)]) (st' := [.int (if x1 ≤ a3 then (31 : Int32) else (if (100 : Int32) < x1 then (31 : Int32) else ((1 : Int32) + (gI S 41 x1.toNatClampNeg))))]) ?_ (fun Jc2 => ?_)
  · generalize ex4 : (if x1 ≤ a3 then (31 : Int32) else (if (100 : Int32) < x1 then (31 : Int32) else ((1 : Int32) + (gI S 41 x1.toNatClampNeg)))) = x4
    refine aw_iret hC dX8_triesBy_35 (Nat.le_refl _) (Nat.le_refl _) ?_
    exact FP.pI ((bd_eq ex1).trans ((bd_eq ex4).trans (rfl)))
  · refine aw_icmp_le hC 33 dX8_triesBy_11 (by decide) (fun c2 => ?_) (fun c2 => ?_)
    · refine aw_bipush (v := 31) hC dX8_triesBy_33 (by decide) ?_
      simp only [bd_def, if_pos c2] at Jc2 ⊢
      exact Jc2
    · refine aw_iload hC 0 dX8_triesBy_14 rfl ?_
      refine aw_bipush (v := 100) hC dX8_triesBy_16 (by decide) ?_
      refine aw_icmp_gt hC 33 dX8_triesBy_18 (by decide) (fun c3 => ?_) (fun c3 => ?_)
      · refine aw_bipush (v := 31) hC dX8_triesBy_33 (by decide) ?_
        simp only [bd_def, if_neg c2, if_pos c3] at Jc2 ⊢
        exact Jc2
      · refine aw_iconst (v := 1) hC dX8_triesBy_21 (by decide) ?_
        refine aw_aload_n hC 1 dX8_triesBy_22 rfl rfl ?_
        refine aw_getP (b := 41) hC hSt 2 (cs_lt 38 8 0 (by decide) hM) (cs_k 38 8 0 (by decide) hM) rfl (by decide) w_616 rfl (cs_p 38 2 41 (by decide) hM) dX8_triesBy_23 ?_
        refine aw_iload hC 0 dX8_triesBy_26 rfl ?_
        refine aw_iald hC hSt (cs_lt 41 14 101 (by decide) hM) (cs_k 41 14 101 (by decide) hM) (vp_len (n := 101) (cs_l 41 14 101 (by decide) hM) (h1 x1 ex1 c2 c3)) dX8_triesBy_28 ?_
        refine aw_iadd hC dX8_triesBy_29 ?_
        refine aw_goto hC 35 dX8_triesBy_30 (by decide) ?_
        simp only [bd_def, if_neg c2, if_neg c3] at Jc2 ⊢
        exact Jc2
noncomputable def L_X8_seekTries_14 (w1 : Nat) : Nat → HSt → Int32 → Int32 → Int32 → Int32 → Int32 × Int32 × Int32 × Int32
  | 0, S, v2, v3, v4, v5 => (v2, v3, v4, v5)
  | n + 1, S, v2, v3, v4, v5 =>
    if v2 ≤ v3 then ((pr (v2) (pr (v3) (pr (v4) (v5))))) else (if (f_X10_howMany S w1 (0 : Int32)) ≤ v5 then ((pr (v2) (pr (v3) (pr (v4) (v5))))) else (bd ((if (f_X8_triesBy S 38 w1 v5 v3) < v4 then (f_X8_triesBy S 38 w1 v5 v3) else v4)) fun x2004 => L_X8_seekTries_14 w1 n S v2 v3 x2004 (v5 + (1 : Int32))))
def T_X8_seekTries_14 (w1 : Nat) : Nat → HSt → Int32 → Int32 → Int32 → Int32 → Prop
  | 0, _, _, _, _, _ => False
  | n + 1, S, v2, v3, v4, v5 => ((¬ v2 ≤ v3) → p_X10_howMany S w1 (0 : Int32)) ∧ ((¬ v2 ≤ v3) → (¬ (f_X10_howMany S w1 (0 : Int32)) ≤ v5) → p_X8_triesBy S 38 w1 v5 v3) ∧ ((¬ v2 ≤ v3) → (¬ (f_X10_howMany S w1 (0 : Int32)) ≤ v5) → ∀ x2004 : Int32, (if (f_X8_triesBy S 38 w1 v5 v3) < v4 then (f_X8_triesBy S 38 w1 v5 v3) else v4) = x2004 → T_X8_seekTries_14 w1 n S v2 v3 x2004 (v5 + (1 : Int32)))
set_option maxRecDepth 100000 in
theorem l_X8_seekTries_14 {p : Program} {l : Launch} {e : Env} {s : State} {m : MethodId} {args : Array Value} {below : List Frame} {meth : Method} {c : Code} {G : GG} {Q : State → Prop} (hC : ACx p s m args meth c cX8_seekTries RX8 6 none) (hSt : St G s) {w1 : Nat} (hw1 : (w1, 10, 0) ∈ cKT) : ∀ (n : Nat) (S : HSt) (v2 : Int32) (v3 : Int32) (v4 : Int32) (v5 : Int32), CS S → T_X8_seekTries_14 w1 n S v2 v3 v4 v5 → AW p l e (rmD 3 0 0) s m args below meth c G 6 Q S 0 0 50 [(0, .ref 38), (1, .ref w1), (2, .int (L_X8_seekTries_14 w1 n S v2 v3 v4 v5).1), (3, .int (L_X8_seekTries_14 w1 n S v2 v3 v4 v5).2.1), (4, .int (L_X8_seekTries_14 w1 n S v2 v3 v4 v5).2.2.1), (5, .int (L_X8_seekTries_14 w1 n S v2 v3 v4 v5).2.2.2)] [] → AW p l e (rmD 3 0 0) s m args below meth c G 6 Q S 0 0 14 [(0, .ref 38), (1, .ref w1), (2, .int v2), (3, .int v3), (4, .int v4), (5, .int v5)] [] := by
  intro n
  induction n with
  | zero => intro S v2 v3 v4 v5 _ hT; exact hT.elim
  | succ n ih =>
    intro S v2 v3 v4 v5 hM hT hk
    unfold T_X8_seekTries_14 at hT
    obtain ⟨h0, h1, h2⟩ := hT
    refine aw_iload_n hC 3 dX8_seekTries_14 rfl rfl ?_
    refine aw_iload_n hC 2 dX8_seekTries_15 rfl rfl ?_
    refine aw_icmp_ge hC 50 dX8_seekTries_16 (by decide) (fun c2002 => ?_) (fun c2002 => ?_)
    · refine aw_sub [0, 1, 2, 3, 4, 5] rfl ?_
      have E : L_X8_seekTries_14 w1 (n + 1) S v2 v3 v4 v5 = _ := (if_pos c2002).trans (rfl)
      rw [E] at hk
      exact hk
    · refine aw_iload hC 5 dX8_seekTries_19 rfl ?_
      refine aw_aload_n hC 1 dX8_seekTries_21 rfl rfl ?_
      refine aw_iconst (v := 0) hC dX8_seekTries_22 (by decide) ?_
      refine aw_cV1r hC hSt (t_X10_howMany G l hM _ _ hw1 (h0 c2002)) w_152 w_627 w_237 w_238 w_18 rfl rfl (by decide +kernel) ⟨Nat.le_of_ble_eq_true rfl, Nat.le_of_ble_eq_true rfl⟩ (cs_lt w1 10 0 hw1 hM) (cs_k w1 10 0 hw1 hM) rfl (Nat.le_of_ble_eq_true rfl) dX8_seekTries_23 ⟨Nat.zero_le _, Nat.zero_le _⟩ ?_
      refine aw_icmp_ge hC 50 dX8_seekTries_26 (by decide) (fun c2003 => ?_) (fun c2003 => ?_)
      · refine aw_sub [0, 1, 2, 3, 4, 5] rfl ?_
        have E : L_X8_seekTries_14 w1 (n + 1) S v2 v3 v4 v5 = _ := (if_neg c2002).trans ((if_pos c2003).trans (rfl))
        rw [E] at hk
        exact hk
      · refine aw_iload hC 4 dX8_seekTries_29 rfl ?_
        refine aw_aload_n hC 0 dX8_seekTries_31 rfl rfl ?_
        refine aw_aload_n hC 1 dX8_seekTries_32 rfl rfl ?_
        refine aw_iload hC 5 dX8_seekTries_33 rfl ?_
        refine aw_iload_n hC 3 dX8_seekTries_35 rfl rfl ?_
        refine aw_cV3r hC hSt (t_X8_triesBy G l hM _ _ _ hw1 (h1 c2002 c2003)) w_644 w_647 w_648 w_649 w_625 rfl rfl (by decide +kernel) ⟨Nat.le_of_ble_eq_true rfl, Nat.le_of_ble_eq_true rfl⟩ (cs_lt 38 8 0 (by decide) hM) (cs_k 38 8 0 (by decide) hM) rfl (Nat.le_of_ble_eq_true rfl) dX8_seekTries_36 ⟨Nat.zero_le _, Nat.zero_le _⟩ ?_
        refine aw_min hC w_643 w_95 w_92 w_96 (by decide) (Nat.le_of_ble_eq_true rfl) (by decide) (by decide) dX8_seekTries_39 ?_
        refine aw_istore hC [(4, .int _), (0, .ref 38), (1, .ref w1), (2, .int _), (3, .int _), (5, .int _)] dX8_seekTries_42 (by decide) rfl ?_
        generalize ex2004 : (if (f_X8_triesBy S 38 w1 v5 v3) < v4 then (f_X8_triesBy S 38 w1 v5 v3) else v4) = x2004
        refine aw_iinc (v := (v5 + (1 : Int32))) hC 5 [(5, .int _), (4, .int _), (0, .ref 38), (1, .ref w1), (2, .int _), (3, .int _)] dX8_seekTries_44 rfl rfl (by decide) rfl ?_
        refine aw_goto hC 14 dX8_seekTries_47 (by decide) ?_
        refine aw_sub [2, 3, 4, 5, 1, 0] rfl ?_
        have hTn := (h2 c2002 c2003 x2004 ex2004)
        have hMn : CS S := hM
        have E : L_X8_seekTries_14 w1 (n + 1) S v2 v3 v4 v5 = _ := (if_neg c2002).trans ((if_neg c2003).trans ((bd_eq ex2004).trans (rfl)))
        rw [E] at hk
        exact ih _ _ _ _ _ hMn hTn hk
noncomputable def L_X8_seekTries_3 (w1 : Nat) : Nat → HSt → Int32 → Int32 → Int32 × Int32 × HSt
  | 0, S, v2, v3 => (v2, v3, S)
  | n + 1, S, v2, v3 =>
    if v3 < 0 then ((pr (v2) (pr (v3) (S)))) else (bd (L_X8_seekTries_14 w1 1000 S v2 v3 (31 : Int32) (0 : Int32)) fun r1002 => bd ((if r1002.2.1 < r1002.1 then r1002.2.2.1 else (0 : Int32))) fun x1004 => bd ((sI S 41 r1002.2.1.toNatClampNeg x1004)) fun S1005 => L_X8_seekTries_3 w1 n S1005 r1002.1 (r1002.2.1 + (-1 : Int32)))
def T_X8_seekTries_3 (w1 : Nat) : Nat → HSt → Int32 → Int32 → Prop
  | 0, _, _, _ => False
  | n + 1, S, v2, v3 => ((¬ v3 < 0) → T_X8_seekTries_14 w1 1000 S v2 v3 (31 : Int32) (0 : Int32)) ∧ ((¬ v3 < 0) → ∀ r1002, L_X8_seekTries_14 w1 1000 S v2 v3 (31 : Int32) (0 : Int32) = r1002 → ∀ x1004 : Int32, (if r1002.2.1 < r1002.1 then r1002.2.2.1 else (0 : Int32)) = x1004 → vp_in r1002.2.1 101) ∧ ((¬ v3 < 0) → ∀ r1002, L_X8_seekTries_14 w1 1000 S v2 v3 (31 : Int32) (0 : Int32) = r1002 → ∀ x1004 : Int32, (if r1002.2.1 < r1002.1 then r1002.2.2.1 else (0 : Int32)) = x1004 → ∀ S1005 : HSt, (sI S 41 r1002.2.1.toNatClampNeg x1004) = S1005 → T_X8_seekTries_3 w1 n S1005 r1002.1 (r1002.2.1 + (-1 : Int32)))
theorem qL_X8_seekTries_3 (w1 : Nat) : ∀ (n : Nat) (S : HSt) (v2 : Int32) (v3 : Int32), shp (L_X8_seekTries_3 w1 n S v2 v3).2.2 = shp S := by
  intro n
  induction n with
  | zero => intros; rfl
  | succ n ih =>
    intro S v2 v3
    unfold L_X8_seekTries_3
    repeat' (first | with_reducible refine shpr2 ?_ | with_reducible rfl | with_reducible refine (ih _ _ _).trans ?_ | with_reducible refine (shp_sI _ _ _ _).trans ?_ | with_reducible refine (shp_sJ _ _ _ _).trans ?_ | with_reducible refine (shp_rI _ _ _).trans ?_ | with_reducible refine shi ?_ ?_ | with_reducible refine shb (fun _ _ => ?_) | with_reducible refine shiP (fun q : Int32 × Int32 × HSt => q.2.2) ?_ ?_ | with_reducible refine shbP (fun q : Int32 × Int32 × HSt => q.2.2) (fun _ _ => ?_) | (subst_vars; with_reducible rfl) | (subst_vars; with_reducible refine (ih _ _ _).trans ?_) | (subst_vars; with_reducible refine (shp_sI _ _ _ _).trans ?_) | (subst_vars; with_reducible refine (shp_sJ _ _ _ _).trans ?_) | (subst_vars; with_reducible refine (shp_rI _ _ _).trans ?_) | (subst_vars; with_reducible refine shi ?_ ?_) | (subst_vars; with_reducible refine shb (fun _ _ => ?_)))
theorem vL_X8_seekTries_3 (w1 : Nat) : ∀ (n : Nat) (S : HSt) (v2 : Int32) (v3 : Int32), Fr [(41, 1000)] S (L_X8_seekTries_3 w1 n S v2 v3).2.2 := by
  intro n
  induction n with
  | zero => intros; exact Fr.refl _ _
  | succ n ih =>
    intro S v2 v3
    unfold L_X8_seekTries_3
    repeat' (first | with_reducible refine frpr2 ?_ | with_reducible exact Fr.refl _ _ | with_reducible refine Fr.lP (fun q : Int32 × Int32 × HSt => q.2.2) (fun _ _ => ?_) | with_reducible refine Fr.iteP (fun q : Int32 × Int32 × HSt => q.2.2) ?_ ?_ | with_reducible refine Fr.l1 (fun _ _ => ?_) | with_reducible refine Fr.ite ?_ ?_ | with_reducible refine Fr.sE (by assumption) (by first | decide | simp only [List.mem_cons, List.not_mem_nil, or_false, true_or, or_true, eq_self_iff_true]) ?_ | with_reducible refine Fr.jE (by assumption) ?_ | with_reducible refine Fr.rE (by assumption) (by first | decide | simp only [List.mem_cons, List.not_mem_nil, or_false, true_or, or_true, eq_self_iff_true]) ?_ | with_reducible refine Fr.iE (by assumption) ?_ ?_ | with_reducible refine Fr.tr (ih _ _ _) (by first | decide | simp only [List.mem_cons, List.not_mem_nil, or_false, forall_eq_or_imp, forall_eq, true_or, or_true, and_self, eq_self_iff_true]) ?_)
theorem wL_X8_seekTries_3 (w1 : Nat) (n : Nat) (S : HSt) (v2 : Int32) (v3 : Int32) (r : Int32 × Int32 × HSt) (e : L_X8_seekTries_3 w1 n S v2 v3 = r) : Fr [(41, 1000)] S r.2.2 := by
  rw [← e]
  exact vL_X8_seekTries_3 w1 n S v2 v3
set_option maxRecDepth 100000 in
theorem l_X8_seekTries_3 {p : Program} {l : Launch} {e : Env} {s : State} {m : MethodId} {args : Array Value} {below : List Frame} {meth : Method} {c : Code} {G : GG} {Q : State → Prop} (hC : ACx p s m args meth c cX8_seekTries RX8 6 none) (hSt : St G s) {w1 : Nat} (hw1 : (w1, 10, 0) ∈ cKT) : ∀ (n : Nat) (S : HSt) (v2 : Int32) (v3 : Int32), CS S → T_X8_seekTries_3 w1 n S v2 v3 → AW p l e (rmD 3 0 0) s m args below meth c G 6 Q (L_X8_seekTries_3 w1 n S v2 v3).2.2 0 0 73 [(0, .ref 38), (1, .ref w1), (2, .int (L_X8_seekTries_3 w1 n S v2 v3).1), (3, .int (L_X8_seekTries_3 w1 n S v2 v3).2.1)] [] → AW p l e (rmD 3 0 0) s m args below meth c G 6 Q S 0 0 3 [(0, .ref 38), (1, .ref w1), (2, .int v2), (3, .int v3)] [] := by
  intro n
  induction n with
  | zero => intro S v2 v3 _ hT; exact hT.elim
  | succ n ih =>
    intro S v2 v3 hM hT hk
    unfold T_X8_seekTries_3 at hT
    obtain ⟨h0, h1, h2⟩ := hT
    refine aw_iload_n hC 3 dX8_seekTries_3 rfl rfl ?_
    refine aw_if_lt hC 73 dX8_seekTries_4 (by decide) (fun c1001 => ?_) (fun c1001 => ?_)
    · refine aw_sub [0, 1, 2, 3] rfl ?_
      have E : L_X8_seekTries_3 w1 (n + 1) S v2 v3 = _ := (if_pos c1001).trans (rfl)
      rw [E] at hk
      exact hk
    · refine aw_bipush (v := 31) hC dX8_seekTries_7 (by decide) ?_
      refine aw_istore hC [(4, .int _), (0, .ref 38), (1, .ref w1), (2, .int _), (3, .int _)] dX8_seekTries_9 (by decide) rfl ?_
      refine aw_iconst (v := 0) hC dX8_seekTries_11 (by decide) ?_
      refine aw_istore hC [(5, .int _), (4, .int _), (0, .ref 38), (1, .ref w1), (2, .int _), (3, .int _)] dX8_seekTries_12 (by decide) rfl ?_
      refine aw_sub [2, 3, 4, 5, 1, 0] rfl ?_
      refine l_X8_seekTries_14 hC hSt hw1 1000 _ _ _ _ _ hM (h0 c1001) ?_
      generalize er1002 : L_X8_seekTries_14 w1 1000 S v2 v3 (31 : Int32) (0 : Int32) = r1002
      refine aw_aload_n hC 0 dX8_seekTries_50 rfl rfl ?_
      refine aw_getP (b := 41) hC hSt 2 (cs_lt 38 8 0 (by decide) hM) (cs_k 38 8 0 (by decide) hM) rfl (by decide) w_616 rfl (cs_p 38 2 41 (by decide) hM) dX8_seekTries_51 ?_
      refine aw_iload_n hC 3 dX8_seekTries_54 rfl rfl ?_
      refine aw_iload_n hC 3 dX8_seekTries_55 rfl rfl ?_
      refine aw_iload_n hC 2 dX8_seekTries_56 rfl rfl ?_
      refine aw_cut (S' := S) (pc' := 66) (lv' := [(0, .ref 38), (1, .ref w1), (2, .int r1002.1), (3, .int r1002.2.1), (4, .int r1002.2.2.1), (5, .int r1002.2.2.2)]) (st' := [.int (if r1002.2.1 < r1002.1 then r1002.2.2.1 else (0 : Int32)), .int r1002.2.1, .ref 41]) ?_ (fun Jc1003 => ?_)
      · generalize ex1004 : (if r1002.2.1 < r1002.1 then r1002.2.2.1 else (0 : Int32)) = x1004
        refine aw_iast hC hSt (cs_lt 41 14 101 (by decide) hM) (cs_k 41 14 101 (by decide) hM) (vp_len (n := 101) (cs_l 41 14 101 (by decide) hM) (h1 c1001 r1002 er1002 x1004 ex1004)) dX8_seekTries_66 ?_
        generalize eS1005 : (sI S 41 r1002.2.1.toNatClampNeg x1004) = S1005
        have hM : CS S1005 := CS.of (by rw [← eS1005]; exact shp_sI _ _ _ _) hM
        refine aw_iinc (v := (r1002.2.1 + (-1 : Int32))) hC 3 [(3, .int _), (0, .ref 38), (1, .ref w1), (2, .int _), (4, .int _), (5, .int _)] dX8_seekTries_67 rfl rfl (by decide) rfl ?_
        refine aw_goto hC 3 dX8_seekTries_70 (by decide) ?_
        refine aw_sub [1, 2, 3, 0] rfl ?_
        have hTn := (h2 c1001 r1002 er1002 x1004 ex1004 S1005 eS1005)
        have hMn : CS S1005 := hM
        have E : L_X8_seekTries_3 w1 (n + 1) S v2 v3 = _ := (if_neg c1001).trans ((bd_eq er1002).trans ((bd_eq ex1004).trans ((bd_eq eS1005).trans (rfl))))
        rw [E] at hk
        exact ih _ _ _ hMn hTn hk
      · refine aw_icmp_lt hC 64 dX8_seekTries_57 (by decide) (fun c1003 => ?_) (fun c1003 => ?_)
        · refine aw_iload hC 4 dX8_seekTries_64 rfl ?_
          simp only [bd_def, if_pos c1003] at Jc1003 ⊢
          exact Jc1003
        · refine aw_iconst (v := 0) hC dX8_seekTries_60 (by decide) ?_
          refine aw_goto hC 66 dX8_seekTries_61 (by decide) ?_
          simp only [bd_def, if_neg c1003] at Jc1003 ⊢
          exact Jc1003
noncomputable def f_X8_seekTries (S : HSt) (_o0 : Nat) (w1 : Nat) (a2 : Int32) : HSt := bd (L_X8_seekTries_3 w1 1000 S a2 (100 : Int32)) fun r1 => r1.2.2
def p_X8_seekTries (S : HSt) (_o0 : Nat) (w1 : Nat) (a2 : Int32) : Prop := (T_X8_seekTries_3 w1 1000 S a2 (100 : Int32))
set_option maxRecDepth 100000 in
theorem t_X8_seekTries (G : GG) (l : Launch) {S : HSt} (hM : CS S) (w1 : Nat) (a2 : Int32) (hw1 : (w1, 10, 0) ∈ cKT) (hp : p_X8_seekTries S 38 w1 a2) : AM G l yX8_seekTries cX8_seekTries 6 none (rmD 3 0 0) 0 0 [.ref 38, .ref w1, .int a2] S (FP none (f_X8_seekTries S 38 w1 a2)) := by
  have h0 := hp
  unfold p_X8_seekTries at h0
  refine AM.mk (by decide) (Nat.le_of_ble_eq_true rfl) ?_
  intro p e s m below meth c hC hSt _
  refine aw_bipush (v := 100) hC dX8_seekTries_0 (by decide) ?_
  refine aw_istore_n hC [(3, .int _), (0, .ref 38), (1, .ref w1), (2, .int _)] dX8_seekTries_2 rfl (by decide) rfl ?_
  refine aw_sub [1, 2, 3, 0] rfl ?_
  refine l_X8_seekTries_3 hC hSt hw1 1000 _ _ _ hM (h0) ?_
  generalize er1 : L_X8_seekTries_3 w1 1000 S a2 (100 : Int32) = r1
  have hM : CS r1.2.2 := CS.of (by rw [← er1]; exact qL_X8_seekTries_3 w1 _ _ _ _) hM
  refine aw_vret hC dX8_seekTries_73 (Nat.le_refl _) (Nat.le_refl _) ?_
  exact FP.qV ((bd_eq er1).trans (rfl))
theorem q_X8_seekTries (S : HSt) (_o0 : Nat) (w1 : Nat) (a2 : Int32) : shp (f_X8_seekTries S _o0 w1 a2) = shp S := by
  unfold f_X8_seekTries
  repeat' (first | with_reducible rfl | with_reducible refine (qL_X8_seekTries_3 w1 _ _ _ _).trans ?_ | with_reducible refine (shp_sI _ _ _ _).trans ?_ | with_reducible refine (shp_sJ _ _ _ _).trans ?_ | with_reducible refine (shp_rI _ _ _).trans ?_ | with_reducible refine shi ?_ ?_ | with_reducible refine shb (fun _ _ => ?_) | (subst_vars; with_reducible rfl) | (subst_vars; with_reducible refine (qL_X8_seekTries_3 w1 _ _ _ _).trans ?_) | (subst_vars; with_reducible refine (shp_sI _ _ _ _).trans ?_) | (subst_vars; with_reducible refine (shp_sJ _ _ _ _).trans ?_) | (subst_vars; with_reducible refine (shp_rI _ _ _).trans ?_) | (subst_vars; with_reducible refine shi ?_ ?_) | (subst_vars; with_reducible refine shb (fun _ _ => ?_)))
theorem v_X8_seekTries (S : HSt) (_o0 : Nat) (w1 : Nat) (a2 : Int32) : Fr [(41, 1000)] S (f_X8_seekTries S _o0 w1 a2) := by
  unfold f_X8_seekTries
  repeat' (first | with_reducible exact Fr.refl _ _ | with_reducible refine Fr.l1 (fun _ _ => ?_) | with_reducible refine Fr.ite ?_ ?_ | with_reducible refine Fr.sE (by assumption) (by first | decide | simp only [List.mem_cons, List.not_mem_nil, or_false, true_or, or_true, eq_self_iff_true]) ?_ | with_reducible refine Fr.jE (by assumption) ?_ | with_reducible refine Fr.rE (by assumption) (by first | decide | simp only [List.mem_cons, List.not_mem_nil, or_false, true_or, or_true, eq_self_iff_true]) ?_ | with_reducible refine Fr.iE (by assumption) ?_ ?_ | with_reducible refine Fr.tr (wL_X8_seekTries_3 w1 _ _ _ _ _ (by assumption)) (by first | decide | simp only [List.mem_cons, List.not_mem_nil, or_false, forall_eq_or_imp, forall_eq, true_or, or_true, and_self, eq_self_iff_true]) ?_)
theorem w_X8_seekTries (S : HSt) (_o0 : Nat) (w1 : Nat) (a2 : Int32) (r : HSt) (e : f_X8_seekTries S _o0 w1 a2 = r) : Fr [(41, 1000)] S r := by
  rw [← e]
  exact v_X8_seekTries S _o0 w1 a2
noncomputable def F_X8_triesFrom (S : HSt) (_o0 : Nat) (a1 : Int32) : Int32 × HSt := bd ((if a1 < 0 then (0 : Int32) else (if (100 : Int32) < a1 then (0 : Int32) else (1 : Int32)))) fun x3 => bd ((if x3 = 0 then (-1000000 : Int32) else (if (30 : Int32) < (gI S 41 a1.toNatClampNeg) then (-1000000 : Int32) else (gI S 41 a1.toNatClampNeg)))) fun x6 => pr (x6) (S)
noncomputable def f_X8_triesFrom (S : HSt) (_o0 : Nat) (a1 : Int32) : Int32 := (F_X8_triesFrom S _o0 a1).1
def p_X8_triesFrom (S : HSt) (_o0 : Nat) (a1 : Int32) : Prop := (∀ x3 : Int32, (if a1 < 0 then (0 : Int32) else (if (100 : Int32) < a1 then (0 : Int32) else (1 : Int32))) = x3 → (¬ x3 = 0) → vp_in a1 101) ∧ (∀ x3 : Int32, (if a1 < 0 then (0 : Int32) else (if (100 : Int32) < a1 then (0 : Int32) else (1 : Int32))) = x3 → (¬ x3 = 0) → (¬ (30 : Int32) < (gI S 41 a1.toNatClampNeg)) → vp_in a1 101)
set_option maxRecDepth 100000 in
theorem t_X8_triesFrom (G : GG) (l : Launch) {S : HSt} (hM : CS S) (a1 : Int32)  (hp : p_X8_triesFrom S 38 a1) : AM G l yX8_triesFrom cX8_triesFrom 3 (some .int) (rmD 0 0 0) 0 0 [.ref 38, .int a1] S (FP (some (.int (f_X8_triesFrom S 38 a1))) (S)) := by
  obtain ⟨h0, h1⟩ := hp
  refine AM.mk (by decide) (Nat.le_of_ble_eq_true rfl) ?_
  intro p e s m below meth c hC hSt _
  refine aw_iload_n hC 1 dX8_triesFrom_0 rfl rfl ?_
  refine aw_cut (S' := S) (pc' := 15) (lv' := [(0, .ref 38), (1, .int a1)]) (st' := [.int (if a1 < 0 then (0 : Int32) else (if (100 : Int32) < a1 then (0 : Int32) else (1 : Int32)))]) ?_ (fun Jc1 => ?_)
  · generalize ex3 : (if a1 < 0 then (0 : Int32) else (if (100 : Int32) < a1 then (0 : Int32) else (1 : Int32))) = x3
    refine aw_istore_n hC [(2, .int _), (0, .ref 38), (1, .int _)] dX8_triesFrom_15 rfl (by decide) rfl ?_
    refine aw_iload_n hC 0 dX8_triesFrom_16 rfl rfl ?_
    refine aw_cut (S' := S) (pc' := 42) (lv' := [(2, .int x3), (0, .ref 38), (1, .int a1)]) (st' := [.int (if x3 = 0 then (-1000000 : Int32) else (if (30 : Int32) < (gI S 41 a1.toNatClampNeg) then (-1000000 : Int32) else (gI S 41 a1.toNatClampNeg)))]) ?_ (fun Jc4 => ?_)
    · generalize ex6 : (if x3 = 0 then (-1000000 : Int32) else (if (30 : Int32) < (gI S 41 a1.toNatClampNeg) then (-1000000 : Int32) else (gI S 41 a1.toNatClampNeg))) = x6
      refine aw_iret hC dX8_triesFrom_42 (Nat.le_refl _) (Nat.le_refl _) ?_
      exact FP.pI ((bd_eq ex3).trans ((bd_eq ex6).trans (rfl)))
    · refine aw_if_eq hC 40 dX8_triesFrom_17 (by decide) (fun c4 => ?_) (fun c4 => ?_)
      · refine aw_ldc (v := -1000000) hC w_626 dX8_triesFrom_40 ?_
        simp only [bd_def, if_pos c4] at Jc4 ⊢
        exact Jc4
      · refine aw_aload_n hC 1 dX8_triesFrom_20 rfl rfl ?_
        refine aw_getP (b := 41) hC hSt 2 (cs_lt 38 8 0 (by decide) hM) (cs_k 38 8 0 (by decide) hM) rfl (by decide) w_616 rfl (cs_p 38 2 41 (by decide) hM) dX8_triesFrom_21 ?_
        refine aw_iload_n hC 2 dX8_triesFrom_24 rfl rfl ?_
        refine aw_iald hC hSt (cs_lt 41 14 101 (by decide) hM) (cs_k 41 14 101 (by decide) hM) (vp_len (n := 101) (cs_l 41 14 101 (by decide) hM) (h0 x3 ex3 c4)) dX8_triesFrom_25 ?_
        refine aw_bipush (v := 30) hC dX8_triesFrom_26 (by decide) ?_
        refine aw_icmp_gt hC 40 dX8_triesFrom_28 (by decide) (fun c5 => ?_) (fun c5 => ?_)
        · refine aw_ldc (v := -1000000) hC w_626 dX8_triesFrom_40 ?_
          simp only [bd_def, if_neg c4, if_pos c5] at Jc4 ⊢
          exact Jc4
        · refine aw_aload_n hC 1 dX8_triesFrom_31 rfl rfl ?_
          refine aw_getP (b := 41) hC hSt 2 (cs_lt 38 8 0 (by decide) hM) (cs_k 38 8 0 (by decide) hM) rfl (by decide) w_616 rfl (cs_p 38 2 41 (by decide) hM) dX8_triesFrom_32 ?_
          refine aw_iload_n hC 2 dX8_triesFrom_35 rfl rfl ?_
          refine aw_iald hC hSt (cs_lt 41 14 101 (by decide) hM) (cs_k 41 14 101 (by decide) hM) (vp_len (n := 101) (cs_l 41 14 101 (by decide) hM) (h1 x3 ex3 c4 c5)) dX8_triesFrom_36 ?_
          refine aw_goto hC 42 dX8_triesFrom_37 (by decide) ?_
          simp only [bd_def, if_neg c4, if_neg c5] at Jc4 ⊢
          exact Jc4
  · refine aw_if_lt hC 14 dX8_triesFrom_1 (by decide) (fun c1 => ?_) (fun c1 => ?_)
    · refine aw_iconst (v := 0) hC dX8_triesFrom_14 (by decide) ?_
      simp only [bd_def, if_pos c1] at Jc1 ⊢
      exact Jc1
    · refine aw_iload_n hC 1 dX8_triesFrom_4 rfl rfl ?_
      refine aw_bipush (v := 100) hC dX8_triesFrom_5 (by decide) ?_
      refine aw_icmp_gt hC 14 dX8_triesFrom_7 (by decide) (fun c2 => ?_) (fun c2 => ?_)
      · refine aw_iconst (v := 0) hC dX8_triesFrom_14 (by decide) ?_
        simp only [bd_def, if_neg c1, if_pos c2] at Jc1 ⊢
        exact Jc1
      · refine aw_iconst (v := 1) hC dX8_triesFrom_10 (by decide) ?_
        refine aw_goto hC 15 dX8_triesFrom_11 (by decide) ?_
        simp only [bd_def, if_neg c1, if_neg c2] at Jc1 ⊢
        exact Jc1
noncomputable def L_X8_firstRope_9 (w1 : Nat) : Nat → HSt → Int32 → Int32 → Int32 → Int32 × Int32 × Int32 × Int32 × Int32
  | 0, S, v2, v3, v4 => ((1 : Int32), 0, v2, v3, v4)
  | n + 1, S, v2, v3, v4 =>
    if v3 ≤ 0 then ((pr ((0 : Int32)) (pr (0) (pr (v2) (pr (v3) (v4)))))) else (if (f_X10_howMany S w1 (0 : Int32)) ≤ v4 then ((pr ((0 : Int32)) (pr (0) (pr (v2) (pr (v3) (v4)))))) else (if (f_X8_triesBy S 38 w1 v4 v2) = v3 then ((pr ((1 : Int32)) (pr (v4) (pr (v2) (pr (v3) (v4)))))) else (L_X8_firstRope_9 w1 n S v2 v3 (v4 + (1 : Int32)))))
def T_X8_firstRope_9 (w1 : Nat) : Nat → HSt → Int32 → Int32 → Int32 → Prop
  | 0, _, _, _, _ => False
  | n + 1, S, v2, v3, v4 => ((¬ v3 ≤ 0) → p_X10_howMany S w1 (0 : Int32)) ∧ ((¬ v3 ≤ 0) → (¬ (f_X10_howMany S w1 (0 : Int32)) ≤ v4) → p_X8_triesBy S 38 w1 v4 v2) ∧ ((¬ v3 ≤ 0) → (¬ (f_X10_howMany S w1 (0 : Int32)) ≤ v4) → (¬ (f_X8_triesBy S 38 w1 v4 v2) = v3) → T_X8_firstRope_9 w1 n S v2 v3 (v4 + (1 : Int32)))
set_option maxRecDepth 100000 in
theorem l_X8_firstRope_9 {p : Program} {l : Launch} {e : Env} {s : State} {m : MethodId} {args : Array Value} {below : List Frame} {meth : Method} {c : Code} {G : GG} {Post : Option Value → HSt → Prop} (hC : ACx p s m args meth c cX8_firstRope RX8 5 (some .int)) (hSt : St G s) {w1 : Nat} (hw1 : (w1, 10, 0) ∈ cKT) : ∀ (n : Nat) (S : HSt) (v2 : Int32) (v3 : Int32) (v4 : Int32), CS S → T_X8_firstRope_9 w1 n S v2 v3 v4 → ((L_X8_firstRope_9 w1 n S v2 v3 v4).1 = 1 → Post (some (.int (L_X8_firstRope_9 w1 n S v2 v3 v4).2.1)) S) → ((L_X8_firstRope_9 w1 n S v2 v3 v4).1 ≠ 1 → AW p l e (rmD 3 0 0) s m args below meth c G 5 (AQ G below args s 0 0 Post) S 0 0 44 [(0, .ref 38), (1, .ref w1), (2, .int (L_X8_firstRope_9 w1 n S v2 v3 v4).2.2.1), (3, .int (L_X8_firstRope_9 w1 n S v2 v3 v4).2.2.2.1), (4, .int (L_X8_firstRope_9 w1 n S v2 v3 v4).2.2.2.2)] []) → AW p l e (rmD 3 0 0) s m args below meth c G 5 (AQ G below args s 0 0 Post) S 0 0 9 [(0, .ref 38), (1, .ref w1), (2, .int v2), (3, .int v3), (4, .int v4)] [] := by
  intro n
  induction n with
  | zero => intro S v2 v3 v4 _ hT; exact hT.elim
  | succ n ih =>
    intro S v2 v3 v4 hM hT hr hk
    unfold T_X8_firstRope_9 at hT
    obtain ⟨h0, h1, h2⟩ := hT
    refine aw_iload_n hC 3 dX8_firstRope_9 rfl rfl ?_
    refine aw_if_le hC 44 dX8_firstRope_10 (by decide) (fun c1002 => ?_) (fun c1002 => ?_)
    · refine aw_sub [0, 1, 2, 3, 4] rfl ?_
      have E : L_X8_firstRope_9 w1 (n + 1) S v2 v3 v4 = _ := (if_pos c1002).trans (rfl)
      rw [E] at hk hr
      exact hk (by show ¬ (0 : Int32) = 1; decide)
    · refine aw_iload hC 4 dX8_firstRope_13 rfl ?_
      refine aw_aload_n hC 1 dX8_firstRope_15 rfl rfl ?_
      refine aw_iconst (v := 0) hC dX8_firstRope_16 (by decide) ?_
      refine aw_cV1r hC hSt (t_X10_howMany G l hM _ _ hw1 (h0 c1002)) w_152 w_627 w_237 w_238 w_18 rfl rfl (by decide +kernel) ⟨Nat.le_of_ble_eq_true rfl, Nat.le_of_ble_eq_true rfl⟩ (cs_lt w1 10 0 hw1 hM) (cs_k w1 10 0 hw1 hM) rfl (Nat.le_of_ble_eq_true rfl) dX8_firstRope_17 ⟨Nat.zero_le _, Nat.zero_le _⟩ ?_
      refine aw_icmp_ge hC 44 dX8_firstRope_20 (by decide) (fun c1003 => ?_) (fun c1003 => ?_)
      · refine aw_sub [0, 1, 2, 3, 4] rfl ?_
        have E : L_X8_firstRope_9 w1 (n + 1) S v2 v3 v4 = _ := (if_neg c1002).trans ((if_pos c1003).trans (rfl))
        rw [E] at hk hr
        exact hk (by show ¬ (0 : Int32) = 1; decide)
      · refine aw_aload_n hC 0 dX8_firstRope_23 rfl rfl ?_
        refine aw_aload_n hC 1 dX8_firstRope_24 rfl rfl ?_
        refine aw_iload hC 4 dX8_firstRope_25 rfl ?_
        refine aw_iload_n hC 2 dX8_firstRope_27 rfl rfl ?_
        refine aw_cV3r hC hSt (t_X8_triesBy G l hM _ _ _ hw1 (h1 c1002 c1003)) w_644 w_647 w_648 w_649 w_625 rfl rfl (by decide +kernel) ⟨Nat.le_of_ble_eq_true rfl, Nat.le_of_ble_eq_true rfl⟩ (cs_lt 38 8 0 (by decide) hM) (cs_k 38 8 0 (by decide) hM) rfl (Nat.le_of_ble_eq_true rfl) dX8_firstRope_28 ⟨Nat.zero_le _, Nat.zero_le _⟩ ?_
        refine aw_iload_n hC 3 dX8_firstRope_31 rfl rfl ?_
        refine aw_icmp_ne hC 38 dX8_firstRope_32 (by decide) (fun c1004 => ?_) (fun c1004 => ?_)
        · refine aw_iinc (v := (v4 + (1 : Int32))) hC 4 [(4, .int _), (0, .ref 38), (1, .ref w1), (2, .int _), (3, .int _)] dX8_firstRope_38 rfl rfl (by decide) rfl ?_
          refine aw_goto hC 9 dX8_firstRope_41 (by decide) ?_
          refine aw_sub [1, 2, 3, 4, 0] rfl ?_
          have hTn := (h2 c1002 c1003 c1004)
          have hMn : CS S := hM
          have E : L_X8_firstRope_9 w1 (n + 1) S v2 v3 v4 = _ := (if_neg c1002).trans ((if_neg c1003).trans ((if_neg c1004).trans (rfl)))
          rw [E] at hk hr
          exact ih _ _ _ _ hMn hTn hr hk
        · refine aw_iload hC 4 dX8_firstRope_35 rfl ?_
          refine aw_iret hC dX8_firstRope_37 (Nat.le_refl _) (Nat.le_refl _) ?_
          have E : L_X8_firstRope_9 w1 (n + 1) S v2 v3 v4 = _ := (if_neg c1002).trans ((if_neg c1003).trans ((if_pos c1004).trans (rfl)))
          rw [E] at hr
          exact hr rfl
noncomputable def F_X8_firstRope (S : HSt) (_o0 : Nat) (w1 : Nat) (a2 : Int32) : Int32 × HSt := bd ((f_X8_triesFrom S 38 a2)) fun x1 => bd (L_X8_firstRope_9 w1 1000 S a2 x1 (0 : Int32)) fun r2 => if r2.1 = 1 then (pr (r2.2.1) (S)) else (pr ((-1000000 : Int32)) (S))
noncomputable def f_X8_firstRope (S : HSt) (_o0 : Nat) (w1 : Nat) (a2 : Int32) : Int32 := (F_X8_firstRope S _o0 w1 a2).1
def p_X8_firstRope (S : HSt) (_o0 : Nat) (w1 : Nat) (a2 : Int32) : Prop := (p_X8_triesFrom S 38 a2) ∧ (∀ x1 : Int32, (f_X8_triesFrom S 38 a2) = x1 → T_X8_firstRope_9 w1 1000 S a2 x1 (0 : Int32))
set_option maxRecDepth 100000 in
theorem t_X8_firstRope (G : GG) (l : Launch) {S : HSt} (hM : CS S) (w1 : Nat) (a2 : Int32) (hw1 : (w1, 10, 0) ∈ cKT) (hp : p_X8_firstRope S 38 w1 a2) : AM G l yX8_firstRope cX8_firstRope 5 (some .int) (rmD 3 0 0) 0 0 [.ref 38, .ref w1, .int a2] S (FP (some (.int (f_X8_firstRope S 38 w1 a2))) (S)) := by
  obtain ⟨h0, h1⟩ := hp
  refine AM.mk (by decide) (Nat.le_of_ble_eq_true rfl) ?_
  intro p e s m below meth c hC hSt _
  refine aw_aload_n hC 0 dX8_firstRope_0 rfl rfl ?_
  refine aw_iload_n hC 2 dX8_firstRope_1 rfl rfl ?_
  refine aw_cV1r hC hSt (t_X8_triesFrom G l hM _ (h0)) w_651 w_652 w_653 w_654 w_625 rfl rfl (by decide +kernel) ⟨Nat.le_of_ble_eq_true rfl, Nat.le_of_ble_eq_true rfl⟩ (cs_lt 38 8 0 (by decide) hM) (cs_k 38 8 0 (by decide) hM) rfl (Nat.le_of_ble_eq_true rfl) dX8_firstRope_2 ⟨Nat.zero_le _, Nat.zero_le _⟩ ?_
  refine aw_istore_n hC [(3, .int _), (0, .ref 38), (1, .ref w1), (2, .int _)] dX8_firstRope_5 rfl (by decide) rfl ?_
  generalize ex1 : (f_X8_triesFrom S 38 a2) = x1
  refine aw_iconst (v := 0) hC dX8_firstRope_6 (by decide) ?_
  refine aw_istore hC [(4, .int _), (3, .int _), (0, .ref 38), (1, .ref w1), (2, .int _)] dX8_firstRope_7 (by decide) rfl ?_
  refine aw_sub [2, 3, 4, 1, 0] rfl ?_
  refine l_X8_firstRope_9 hC hSt hw1 1000 _ _ _ _ hM (h1 x1 ex1) (fun c3 => ?_) (fun c3 => ?_)
  · revert c3
    generalize er2 : L_X8_firstRope_9 w1 1000 S a2 x1 (0 : Int32) = r2
    intro c3
    exact FP.pI ((bd_eq ex1).trans ((bd_eq er2).trans ((if_pos c3).trans (rfl))))
  · revert c3
    generalize er2 : L_X8_firstRope_9 w1 1000 S a2 x1 (0 : Int32) = r2
    intro c3
    refine aw_ldc (v := -1000000) hC w_626 dX8_firstRope_44 ?_
    refine aw_iret hC dX8_firstRope_46 (Nat.le_refl _) (Nat.le_refl _) ?_
    exact FP.pI ((bd_eq ex1).trans ((bd_eq er2).trans ((if_neg c3).trans (rfl))))
noncomputable def L_X8_isHandOf_10 (sc2 : Nat) : Nat → HSt → Int32 → Int32 → Int32 → Int32 → Int32 → Int32 × Int32 × Int32 × Int32 × Int32 × Int32 × Int32 × HSt
  | 0, S, v1, v4, v5, v6, v7 => ((1 : Int32), 0, v1, v4, v5, v6, v7, S)
  | n + 1, S, v1, v4, v5, v6, v7 =>
    if v6 ≤ v7 then ((pr ((0 : Int32)) (pr (0) (pr (v1) (pr (v4) (pr (v5) (pr (v6) (pr (v7) (S))))))))) else (bd ((if (f_X1_hasFallen S 42) = 0 then (bd (((1 : Int32) + (v1 / (3 : Int32)))) fun x1004 => bd (f_X1_advance S 42 sc2 (0 : Int32) x1004 ((4 : Int32) * (v1 - v1 / (3 : Int32) * (3 : Int32))) (f_X1_spinBy S 42 x1004)) fun r1005 => r1005) else S)) fun S1006 => if (gI S1006 42 0) = (f_X5_itemAt S1006 1 v4 (v5 + v7)) then (L_X8_isHandOf_10 sc2 n S1006 v1 v4 v5 v6 (v7 + (1 : Int32))) else ((pr ((1 : Int32)) (pr ((0 : Int32)) (pr (v1) (pr (v4) (pr (v5) (pr (v6) (pr (v7) (S1006))))))))))
def T_X8_isHandOf_10 (sc2 : Nat) : Nat → HSt → Int32 → Int32 → Int32 → Int32 → Int32 → Prop
  | 0, _, _, _, _, _, _ => False
  | n + 1, S, v1, v4, v5, v6, v7 => ((¬ v6 ≤ v7) → ∀ S1006 : HSt, (if (f_X1_hasFallen S 42) = 0 then (bd (((1 : Int32) + (v1 / (3 : Int32)))) fun x1004 => bd (f_X1_advance S 42 sc2 (0 : Int32) x1004 ((4 : Int32) * (v1 - v1 / (3 : Int32) * (3 : Int32))) (f_X1_spinBy S 42 x1004)) fun r1005 => r1005) else S) = S1006 → p_X5_itemAt S1006 1 v4 (v5 + v7)) ∧ ((¬ v6 ≤ v7) → ∀ S1006 : HSt, (if (f_X1_hasFallen S 42) = 0 then (bd (((1 : Int32) + (v1 / (3 : Int32)))) fun x1004 => bd (f_X1_advance S 42 sc2 (0 : Int32) x1004 ((4 : Int32) * (v1 - v1 / (3 : Int32) * (3 : Int32))) (f_X1_spinBy S 42 x1004)) fun r1005 => r1005) else S) = S1006 → ((gI S1006 42 0) = (f_X5_itemAt S1006 1 v4 (v5 + v7))) → T_X8_isHandOf_10 sc2 n S1006 v1 v4 v5 v6 (v7 + (1 : Int32)))
theorem qL_X8_isHandOf_10 (sc2 : Nat) : ∀ (n : Nat) (S : HSt) (v1 : Int32) (v4 : Int32) (v5 : Int32) (v6 : Int32) (v7 : Int32), shp (L_X8_isHandOf_10 sc2 n S v1 v4 v5 v6 v7).2.2.2.2.2.2.2 = shp S := by
  intro n
  induction n with
  | zero => intros; rfl
  | succ n ih =>
    intro S v1 v4 v5 v6 v7
    unfold L_X8_isHandOf_10
    repeat' (first | with_reducible refine shpr7 ?_ | with_reducible rfl | with_reducible refine (ih _ _ _ _ _ _).trans ?_ | with_reducible refine (q_X1_advance _ _ _ _ _ _ _).trans ?_ | with_reducible refine (q_X1_begin _ _).trans ?_ | with_reducible refine (shp_sI _ _ _ _).trans ?_ | with_reducible refine (shp_sJ _ _ _ _).trans ?_ | with_reducible refine (shp_rI _ _ _).trans ?_ | with_reducible refine shi ?_ ?_ | with_reducible refine shb (fun _ _ => ?_) | with_reducible refine shiP (fun q : Int32 × Int32 × Int32 × Int32 × Int32 × Int32 × Int32 × HSt => q.2.2.2.2.2.2.2) ?_ ?_ | with_reducible refine shbP (fun q : Int32 × Int32 × Int32 × Int32 × Int32 × Int32 × Int32 × HSt => q.2.2.2.2.2.2.2) (fun _ _ => ?_) | (subst_vars; with_reducible rfl) | (subst_vars; with_reducible refine (ih _ _ _ _ _ _).trans ?_) | (subst_vars; with_reducible refine (q_X1_advance _ _ _ _ _ _ _).trans ?_) | (subst_vars; with_reducible refine (q_X1_begin _ _).trans ?_) | (subst_vars; with_reducible refine (shp_sI _ _ _ _).trans ?_) | (subst_vars; with_reducible refine (shp_sJ _ _ _ _).trans ?_) | (subst_vars; with_reducible refine (shp_rI _ _ _).trans ?_) | (subst_vars; with_reducible refine shi ?_ ?_) | (subst_vars; with_reducible refine shb (fun _ _ => ?_)))
theorem vL_X8_isHandOf_10 (sc2 : Nat) : ∀ (n : Nat) (S : HSt) (v1 : Int32) (v4 : Int32) (v5 : Int32) (v6 : Int32) (v7 : Int32), Fr [(42, 0), (42, 1), (42, 2), (42, 3), (42, 4), (42, 5), (42, 6)] S (L_X8_isHandOf_10 sc2 n S v1 v4 v5 v6 v7).2.2.2.2.2.2.2 := by
  intro n
  induction n with
  | zero => intros; exact Fr.refl _ _
  | succ n ih =>
    intro S v1 v4 v5 v6 v7
    unfold L_X8_isHandOf_10
    repeat' (first | with_reducible refine frpr7 ?_ | with_reducible exact Fr.refl _ _ | with_reducible refine Fr.lP (fun q : Int32 × Int32 × Int32 × Int32 × Int32 × Int32 × Int32 × HSt => q.2.2.2.2.2.2.2) (fun _ _ => ?_) | with_reducible refine Fr.iteP (fun q : Int32 × Int32 × Int32 × Int32 × Int32 × Int32 × Int32 × HSt => q.2.2.2.2.2.2.2) ?_ ?_ | with_reducible refine Fr.l1 (fun _ _ => ?_) | with_reducible refine Fr.ite ?_ ?_ | with_reducible refine Fr.sE (by assumption) (by first | decide | simp only [List.mem_cons, List.not_mem_nil, or_false, true_or, or_true, eq_self_iff_true]) ?_ | with_reducible refine Fr.jE (by assumption) ?_ | with_reducible refine Fr.rE (by assumption) (by first | decide | simp only [List.mem_cons, List.not_mem_nil, or_false, true_or, or_true, eq_self_iff_true]) ?_ | with_reducible refine Fr.iE (by assumption) ?_ ?_ | with_reducible refine Fr.tr (ih _ _ _ _ _ _) (by first | decide | simp only [List.mem_cons, List.not_mem_nil, or_false, forall_eq_or_imp, forall_eq, true_or, or_true, and_self, eq_self_iff_true]) ?_ | with_reducible refine Fr.tr (w_X1_advance _ _ _ _ _ _ _ _ (by assumption)) (by first | decide | simp only [List.mem_cons, List.not_mem_nil, or_false, forall_eq_or_imp, forall_eq, true_or, or_true, and_self, eq_self_iff_true]) ?_ | with_reducible refine Fr.tr (w_X1_begin _ _ _ (by assumption)) (by first | decide | simp only [List.mem_cons, List.not_mem_nil, or_false, forall_eq_or_imp, forall_eq, true_or, or_true, and_self, eq_self_iff_true]) ?_)
theorem wL_X8_isHandOf_10 (sc2 : Nat) (n : Nat) (S : HSt) (v1 : Int32) (v4 : Int32) (v5 : Int32) (v6 : Int32) (v7 : Int32) (r : Int32 × Int32 × Int32 × Int32 × Int32 × Int32 × Int32 × HSt) (e : L_X8_isHandOf_10 sc2 n S v1 v4 v5 v6 v7 = r) : Fr [(42, 0), (42, 1), (42, 2), (42, 3), (42, 4), (42, 5), (42, 6)] S r.2.2.2.2.2.2.2 := by
  rw [← e]
  exact vL_X8_isHandOf_10 sc2 n S v1 v4 v5 v6 v7
set_option maxRecDepth 100000 in
theorem l_X8_isHandOf_10 {p : Program} {l : Launch} {e : Env} {s : State} {m : MethodId} {args : Array Value} {below : List Frame} {meth : Method} {c : Code} {G : GG} {Post : Option Value → HSt → Prop} (hC : ACx p s m args meth c cX8_isHandOf RX8 9 (some .boolean)) (hSt : St G s) {sc2 : Nat} (hsc2 : (sc2, 7, 0) ∈ cKT) : ∀ (n : Nat) (S : HSt) (v1 : Int32) (v4 : Int32) (v5 : Int32) (v6 : Int32) (v7 : Int32), CS S → T_X8_isHandOf_10 sc2 n S v1 v4 v5 v6 v7 → ((L_X8_isHandOf_10 sc2 n S v1 v4 v5 v6 v7).1 = 1 → Post (some (.int (L_X8_isHandOf_10 sc2 n S v1 v4 v5 v6 v7).2.1)) (L_X8_isHandOf_10 sc2 n S v1 v4 v5 v6 v7).2.2.2.2.2.2.2) → ((L_X8_isHandOf_10 sc2 n S v1 v4 v5 v6 v7).1 ≠ 1 → AW p l e (rmD 4 0 0) s m args below meth c G 9 (AQ G below args s 0 0 Post) (L_X8_isHandOf_10 sc2 n S v1 v4 v5 v6 v7).2.2.2.2.2.2.2 0 0 88 [(0, .ref 38), (1, .int (L_X8_isHandOf_10 sc2 n S v1 v4 v5 v6 v7).2.2.1), (2, .ref sc2), (3, .ref 1), (4, .int (L_X8_isHandOf_10 sc2 n S v1 v4 v5 v6 v7).2.2.2.1), (5, .int (L_X8_isHandOf_10 sc2 n S v1 v4 v5 v6 v7).2.2.2.2.1), (6, .int (L_X8_isHandOf_10 sc2 n S v1 v4 v5 v6 v7).2.2.2.2.2.1), (7, .int (L_X8_isHandOf_10 sc2 n S v1 v4 v5 v6 v7).2.2.2.2.2.2.1)] []) → AW p l e (rmD 4 0 0) s m args below meth c G 9 (AQ G below args s 0 0 Post) S 0 0 10 [(0, .ref 38), (1, .int v1), (2, .ref sc2), (3, .ref 1), (4, .int v4), (5, .int v5), (6, .int v6), (7, .int v7)] [] := by
  intro n
  induction n with
  | zero => intro S v1 v4 v5 v6 v7 _ hT; exact hT.elim
  | succ n ih =>
    intro S v1 v4 v5 v6 v7 hM hT hr hk
    unfold T_X8_isHandOf_10 at hT
    obtain ⟨h0, h1⟩ := hT
    refine aw_iload hC 7 dX8_isHandOf_10 rfl ?_
    refine aw_iload hC 6 dX8_isHandOf_12 rfl ?_
    refine aw_icmp_ge hC 88 dX8_isHandOf_14 (by decide) (fun c1002 => ?_) (fun c1002 => ?_)
    · refine aw_sub [0, 1, 2, 3, 4, 5, 6, 7] rfl ?_
      have E : L_X8_isHandOf_10 sc2 (n + 1) S v1 v4 v5 v6 v7 = _ := (if_pos c1002).trans (rfl)
      rw [E] at hk hr
      exact hk (by show ¬ (0 : Int32) = 1; decide)
    · refine aw_aload_n hC 0 dX8_isHandOf_17 rfl rfl ?_
      refine aw_getP (b := 42) hC hSt 3 (cs_lt 38 8 0 (by decide) hM) (cs_k 38 8 0 (by decide) hM) rfl (by decide) w_618 rfl (cs_p 38 3 42 (by decide) hM) dX8_isHandOf_18 ?_
      refine aw_cV0r hC hSt (t_X1_hasFallen G l hM _ (by decide)) w_88 w_658 w_204 w_205 w_84 rfl rfl (by decide +kernel) ⟨Nat.le_of_ble_eq_true rfl, Nat.le_of_ble_eq_true rfl⟩ (cs_lt 42 1 0 (by decide) hM) (cs_k 42 1 0 (by decide) hM) rfl (Nat.le_of_ble_eq_true rfl) dX8_isHandOf_21 ⟨Nat.zero_le _, Nat.zero_le _⟩ ?_
      refine aw_cut (S' := (if (f_X1_hasFallen S 42) = 0 then (bd (((1 : Int32) + (v1 / (3 : Int32)))) fun x1004 => bd (f_X1_advance S 42 sc2 (0 : Int32) x1004 ((4 : Int32) * (v1 - v1 / (3 : Int32) * (3 : Int32))) (f_X1_spinBy S 42 x1004)) fun r1005 => r1005) else S)) (pc' := 59) (lv' := [(0, .ref 38), (1, .int v1), (2, .ref sc2), (3, .ref 1), (4, .int v4), (5, .int v5), (6, .int v6), (7, .int v7)]) (st' := []) ?_ (fun Jc1003 => ?_)
      · generalize eS1006 : (if (f_X1_hasFallen S 42) = 0 then (bd (((1 : Int32) + (v1 / (3 : Int32)))) fun x1004 => bd (f_X1_advance S 42 sc2 (0 : Int32) x1004 ((4 : Int32) * (v1 - v1 / (3 : Int32) * (3 : Int32))) (f_X1_spinBy S 42 x1004)) fun r1005 => r1005) else S) = S1006
        have hM : CS S1006 := CS.of (by rw [← eS1006]; repeat' (first | with_reducible rfl | with_reducible refine (q_X1_advance _ _ _ _ _ _ _).trans ?_ | with_reducible refine (shp_sI _ _ _ _).trans ?_ | with_reducible refine (shp_sJ _ _ _ _).trans ?_ | with_reducible refine (shp_rI _ _ _).trans ?_ | with_reducible refine shi ?_ ?_ | with_reducible refine shb (fun _ _ => ?_) | (subst_vars; with_reducible rfl) | (subst_vars; with_reducible refine (q_X1_advance _ _ _ _ _ _ _).trans ?_) | (subst_vars; with_reducible refine (shp_sI _ _ _ _).trans ?_) | (subst_vars; with_reducible refine (shp_sJ _ _ _ _).trans ?_) | (subst_vars; with_reducible refine (shp_rI _ _ _).trans ?_) | (subst_vars; with_reducible refine shi ?_ ?_) | (subst_vars; with_reducible refine shb (fun _ _ => ?_)))) hM
        refine aw_aload_n hC 0 dX8_isHandOf_59 rfl rfl ?_
        refine aw_getP (b := 42) hC hSt 3 (cs_lt 38 8 0 (by decide) hM) (cs_k 38 8 0 (by decide) hM) rfl (by decide) w_618 rfl (cs_p 38 3 42 (by decide) hM) dX8_isHandOf_60 ?_
        refine aw_getI hC hSt 0 (cs_lt 42 1 0 (by decide) hM) (cs_k 42 1 0 (by decide) hM) rfl (by decide) w_656 rfl dX8_isHandOf_63 ?_
        refine aw_aload_n hC 3 dX8_isHandOf_66 rfl rfl ?_
        refine aw_iload hC 4 dX8_isHandOf_67 rfl ?_
        refine aw_iload hC 5 dX8_isHandOf_69 rfl ?_
        refine aw_iload hC 7 dX8_isHandOf_71 rfl ?_
        refine aw_iadd hC dX8_isHandOf_73 ?_
        refine aw_cV2r hC hSt (t_X5_itemAt G l hM _ _ (h0 c1002 S1006 eS1006)) w_485 w_661 w_662 w_663 w_473 rfl rfl (by decide +kernel) ⟨Nat.le_of_ble_eq_true rfl, Nat.le_of_ble_eq_true rfl⟩ (cs_lt 1 5 0 (by decide) hM) (cs_k 1 5 0 (by decide) hM) rfl (Nat.le_of_ble_eq_true rfl) dX8_isHandOf_74 ⟨Nat.zero_le _, Nat.zero_le _⟩ ?_
        refine aw_icmp_eq hC 82 dX8_isHandOf_77 (by decide) (fun c1007 => ?_) (fun c1007 => ?_)
        · refine aw_iinc (v := (v7 + (1 : Int32))) hC 7 [(7, .int _), (0, .ref 38), (1, .int _), (2, .ref sc2), (3, .ref 1), (4, .int _), (5, .int _), (6, .int _)] dX8_isHandOf_82 rfl rfl (by decide) rfl ?_
          refine aw_goto hC 10 dX8_isHandOf_85 (by decide) ?_
          refine aw_sub [1, 2, 3, 4, 5, 6, 7, 0] rfl ?_
          have hTn := (h1 c1002 S1006 eS1006 c1007)
          have hMn : CS S1006 := hM
          have E : L_X8_isHandOf_10 sc2 (n + 1) S v1 v4 v5 v6 v7 = _ := (if_neg c1002).trans ((bd_eq eS1006).trans ((if_pos c1007).trans (rfl)))
          rw [E] at hk hr
          exact ih _ _ _ _ _ _ hMn hTn hr hk
        · refine aw_iconst (v := 0) hC dX8_isHandOf_80 (by decide) ?_
          refine aw_zret hC dX8_isHandOf_81 (Nat.le_refl _) (Nat.le_refl _) (by decide) ?_
          have E : L_X8_isHandOf_10 sc2 (n + 1) S v1 v4 v5 v6 v7 = _ := (if_neg c1002).trans ((bd_eq eS1006).trans ((if_neg c1007).trans (rfl)))
          rw [E] at hr
          exact hr rfl
      · refine aw_if_ne hC 59 dX8_isHandOf_24 (by decide) (fun c1003 => ?_) (fun c1003 => ?_)
        · simp only [bd_def, if_neg c1003] at Jc1003 ⊢
          exact Jc1003
        · refine aw_iconst (v := 1) hC dX8_isHandOf_27 (by decide) ?_
          refine aw_iload_n hC 1 dX8_isHandOf_28 rfl rfl ?_
          refine aw_iconst (v := 3) hC dX8_isHandOf_29 (by decide) ?_
          refine aw_idiv hC dX8_isHandOf_30 (by decide) ?_
          refine aw_iadd hC dX8_isHandOf_31 ?_
          refine aw_istore hC [(8, .int _), (0, .ref 38), (1, .int _), (2, .ref sc2), (3, .ref 1), (4, .int _), (5, .int _), (6, .int _), (7, .int _)] dX8_isHandOf_32 (by decide) rfl ?_
          generalize ex1004 : ((1 : Int32) + (v1 / (3 : Int32))) = x1004
          refine aw_aload_n hC 1 dX8_isHandOf_34 rfl rfl ?_
          refine aw_getP (b := 42) hC hSt 3 (cs_lt 38 8 0 (by decide) hM) (cs_k 38 8 0 (by decide) hM) rfl (by decide) w_618 rfl (cs_p 38 3 42 (by decide) hM) dX8_isHandOf_35 ?_
          refine aw_aload_n hC 3 dX8_isHandOf_38 rfl rfl ?_
          refine aw_iconst (v := 0) hC dX8_isHandOf_39 (by decide) ?_
          refine aw_iload hC 0 dX8_isHandOf_40 rfl ?_
          refine aw_iconst (v := 4) hC dX8_isHandOf_42 (by decide) ?_
          refine aw_iload_n hC 2 dX8_isHandOf_43 rfl rfl ?_
          refine aw_iconst (v := 3) hC dX8_isHandOf_44 (by decide) ?_
          refine aw_irem hC dX8_isHandOf_45 (by decide) ?_
          refine aw_imul hC dX8_isHandOf_46 ?_
          refine aw_aload_n hC 1 dX8_isHandOf_47 rfl rfl ?_
          refine aw_getP (b := 42) hC hSt 3 (cs_lt 38 8 0 (by decide) hM) (cs_k 38 8 0 (by decide) hM) rfl (by decide) w_618 rfl (cs_p 38 3 42 (by decide) hM) dX8_isHandOf_48 ?_
          refine aw_iload hC 0 dX8_isHandOf_51 rfl ?_
          refine aw_cV1r hC hSt (t_X1_spinBy G l hM _ _ (by decide)) w_97 w_659 w_247 w_248 w_84 rfl rfl (by decide +kernel) ⟨Nat.le_of_ble_eq_true rfl, Nat.le_of_ble_eq_true rfl⟩ (cs_lt 42 1 0 (by decide) hM) (cs_k 42 1 0 (by decide) hM) rfl (Nat.le_of_ble_eq_true rfl) dX8_isHandOf_53 ⟨Nat.zero_le _, Nat.zero_le _⟩ ?_
          refine aw_cV5v hC hSt (t_X1_advance G l hM _ _ _ _ _ _ (by decide) hsc2) w_124 w_660 w_229 w_230 w_84 rfl rfl (by decide +kernel) ⟨Nat.le_of_ble_eq_true rfl, Nat.le_of_ble_eq_true rfl⟩ (cs_lt 42 1 0 (by decide) hM) (cs_k 42 1 0 (by decide) hM) rfl (Nat.le_of_ble_eq_true rfl) dX8_isHandOf_56 ⟨Nat.zero_le _, Nat.zero_le _⟩ ?_
          generalize er1005 : f_X1_advance S 42 sc2 (0 : Int32) x1004 ((4 : Int32) * (v1 - v1 / (3 : Int32) * (3 : Int32))) (f_X1_spinBy S 42 x1004) = r1005
          have hM : CS r1005 := CS.of (by rw [← er1005]; exact q_X1_advance _ _ _ _ _ _ _) hM
          refine aw_sub [1, 2, 3, 4, 5, 6, 7, 8] rfl ?_
          subst er1005
          subst ex1004
          simp only [bd_def, if_pos c1003] at Jc1003 ⊢
          exact Jc1003
noncomputable def f_X8_isHandOf (S : HSt) (_o0 : Nat) (a1 : Int32) (sc2 : Nat) (_o3 : Nat) (a4 : Int32) (a5 : Int32) (a6 : Int32) : Int32 × HSt := bd (f_X1_begin S 42) fun r1 => bd (L_X8_isHandOf_10 sc2 1000 r1 a1 a4 a5 a6 (0 : Int32)) fun r2 => if r2.1 = 1 then (pr (r2.2.1) (r2.2.2.2.2.2.2.2)) else (pr ((1 : Int32)) (r2.2.2.2.2.2.2.2))
def p_X8_isHandOf (S : HSt) (_o0 : Nat) (a1 : Int32) (sc2 : Nat) (_o3 : Nat) (a4 : Int32) (a5 : Int32) (a6 : Int32) : Prop := (∀ r1, f_X1_begin S 42 = r1 → T_X8_isHandOf_10 sc2 1000 r1 a1 a4 a5 a6 (0 : Int32))
set_option maxRecDepth 100000 in
theorem t_X8_isHandOf (G : GG) (l : Launch) {S : HSt} (hM : CS S) (a1 : Int32) (sc2 : Nat) (a4 : Int32) (a5 : Int32) (a6 : Int32) (hsc2 : (sc2, 7, 0) ∈ cKT) (hp : p_X8_isHandOf S 38 a1 sc2 1 a4 a5 a6) : AM G l yX8_isHandOf cX8_isHandOf 9 (some .boolean) (rmD 4 0 0) 0 0 [.ref 38, .int a1, .ref sc2, .ref 1, .int a4, .int a5, .int a6] S (FP (some (.int (f_X8_isHandOf S 38 a1 sc2 1 a4 a5 a6).1)) ((f_X8_isHandOf S 38 a1 sc2 1 a4 a5 a6).2)) := by
  have h0 := hp
  unfold p_X8_isHandOf at h0
  refine AM.mk (by decide) (Nat.le_of_ble_eq_true rfl) ?_
  intro p e s m below meth c hC hSt _
  refine aw_aload_n hC 0 dX8_isHandOf_0 rfl rfl ?_
  refine aw_getP (b := 42) hC hSt 3 (cs_lt 38 8 0 (by decide) hM) (cs_k 38 8 0 (by decide) hM) rfl (by decide) w_618 rfl (cs_p 38 3 42 (by decide) hM) dX8_isHandOf_1 ?_
  refine aw_cV0v hC hSt (t_X1_begin G l hM _ (by decide)) w_79 w_657 w_562 w_563 w_84 rfl rfl (by decide +kernel) ⟨Nat.le_of_ble_eq_true rfl, Nat.le_of_ble_eq_true rfl⟩ (cs_lt 42 1 0 (by decide) hM) (cs_k 42 1 0 (by decide) hM) rfl (Nat.le_of_ble_eq_true rfl) dX8_isHandOf_4 ⟨Nat.zero_le _, Nat.zero_le _⟩ ?_
  generalize er1 : f_X1_begin S 42 = r1
  have hM : CS r1 := CS.of (by rw [← er1]; exact q_X1_begin _ _) hM
  refine aw_iconst (v := 0) hC dX8_isHandOf_7 (by decide) ?_
  refine aw_istore hC [(7, .int _), (0, .ref 38), (1, .int _), (2, .ref sc2), (3, .ref 1), (4, .int _), (5, .int _), (6, .int _)] dX8_isHandOf_8 (by decide) rfl ?_
  refine aw_sub [1, 2, 3, 4, 5, 6, 7, 0] rfl ?_
  refine l_X8_isHandOf_10 hC hSt hsc2 1000 _ _ _ _ _ _ hM (h0 r1 er1) (fun c3 => ?_) (fun c3 => ?_)
  · revert c3
    generalize er2 : L_X8_isHandOf_10 sc2 1000 r1 a1 a4 a5 a6 (0 : Int32) = r2
    intro c3
    exact FP.qI ((bd_eq er1).trans ((bd_eq er2).trans ((if_pos c3).trans (rfl))))
  · revert c3
    generalize er2 : L_X8_isHandOf_10 sc2 1000 r1 a1 a4 a5 a6 (0 : Int32) = r2
    have hM : CS r2.2.2.2.2.2.2.2 := CS.of (by rw [← er2]; exact qL_X8_isHandOf_10 sc2 _ _ _ _ _ _ _) hM
    intro c3
    refine aw_iconst (v := 1) hC dX8_isHandOf_88 (by decide) ?_
    refine aw_zret hC dX8_isHandOf_89 (Nat.le_refl _) (Nat.le_refl _) (by decide) ?_
    exact FP.qI ((bd_eq er1).trans ((bd_eq er2).trans ((if_neg c3).trans (rfl))))
theorem q_X8_isHandOf (S : HSt) (_o0 : Nat) (a1 : Int32) (sc2 : Nat) (_o3 : Nat) (a4 : Int32) (a5 : Int32) (a6 : Int32) : shp ((f_X8_isHandOf S _o0 a1 sc2 _o3 a4 a5 a6).2) = shp S := by
  unfold f_X8_isHandOf
  repeat' (first | with_reducible refine shpr1 ?_ | with_reducible rfl | with_reducible refine (q_X1_advance _ _ _ _ _ _ _).trans ?_ | with_reducible refine (q_X1_begin _ _).trans ?_ | with_reducible refine (qL_X8_isHandOf_10 sc2 _ _ _ _ _ _ _).trans ?_ | with_reducible refine (shp_sI _ _ _ _).trans ?_ | with_reducible refine (shp_sJ _ _ _ _).trans ?_ | with_reducible refine (shp_rI _ _ _).trans ?_ | with_reducible refine shi ?_ ?_ | with_reducible refine shb (fun _ _ => ?_) | with_reducible refine shiP (fun q : Int32 × HSt => q.2) ?_ ?_ | with_reducible refine shbP (fun q : Int32 × HSt => q.2) (fun _ _ => ?_) | (subst_vars; with_reducible rfl) | (subst_vars; with_reducible refine (q_X1_advance _ _ _ _ _ _ _).trans ?_) | (subst_vars; with_reducible refine (q_X1_begin _ _).trans ?_) | (subst_vars; with_reducible refine (qL_X8_isHandOf_10 sc2 _ _ _ _ _ _ _).trans ?_) | (subst_vars; with_reducible refine (shp_sI _ _ _ _).trans ?_) | (subst_vars; with_reducible refine (shp_sJ _ _ _ _).trans ?_) | (subst_vars; with_reducible refine (shp_rI _ _ _).trans ?_) | (subst_vars; with_reducible refine shi ?_ ?_) | (subst_vars; with_reducible refine shb (fun _ _ => ?_)))
theorem v_X8_isHandOf (S : HSt) (_o0 : Nat) (a1 : Int32) (sc2 : Nat) (_o3 : Nat) (a4 : Int32) (a5 : Int32) (a6 : Int32) : Fr [(42, 0), (42, 1), (42, 2), (42, 3), (42, 4), (42, 5), (42, 6)] S ((f_X8_isHandOf S _o0 a1 sc2 _o3 a4 a5 a6).2) := by
  unfold f_X8_isHandOf
  repeat' (first | with_reducible refine frpr1 ?_ | with_reducible exact Fr.refl _ _ | with_reducible refine Fr.lP (fun q : Int32 × HSt => q.2) (fun _ _ => ?_) | with_reducible refine Fr.iteP (fun q : Int32 × HSt => q.2) ?_ ?_ | with_reducible refine Fr.l1 (fun _ _ => ?_) | with_reducible refine Fr.ite ?_ ?_ | with_reducible refine Fr.sE (by assumption) (by first | decide | simp only [List.mem_cons, List.not_mem_nil, or_false, true_or, or_true, eq_self_iff_true]) ?_ | with_reducible refine Fr.jE (by assumption) ?_ | with_reducible refine Fr.rE (by assumption) (by first | decide | simp only [List.mem_cons, List.not_mem_nil, or_false, true_or, or_true, eq_self_iff_true]) ?_ | with_reducible refine Fr.iE (by assumption) ?_ ?_ | with_reducible refine Fr.tr (w_X1_advance _ _ _ _ _ _ _ _ (by assumption)) (by first | decide | simp only [List.mem_cons, List.not_mem_nil, or_false, forall_eq_or_imp, forall_eq, true_or, or_true, and_self, eq_self_iff_true]) ?_ | with_reducible refine Fr.tr (w_X1_begin _ _ _ (by assumption)) (by first | decide | simp only [List.mem_cons, List.not_mem_nil, or_false, forall_eq_or_imp, forall_eq, true_or, or_true, and_self, eq_self_iff_true]) ?_ | with_reducible refine Fr.tr (wL_X8_isHandOf_10 sc2 _ _ _ _ _ _ _ _ (by assumption)) (by first | decide | simp only [List.mem_cons, List.not_mem_nil, or_false, forall_eq_or_imp, forall_eq, true_or, or_true, and_self, eq_self_iff_true]) ?_)
theorem w_X8_isHandOf (S : HSt) (_o0 : Nat) (a1 : Int32) (sc2 : Nat) (_o3 : Nat) (a4 : Int32) (a5 : Int32) (a6 : Int32) (r : Int32 × HSt) (e : f_X8_isHandOf S _o0 a1 sc2 _o3 a4 a5 a6 = r) : Fr [(42, 0), (42, 1), (42, 2), (42, 3), (42, 4), (42, 5), (42, 6)] S r.2 := by
  rw [← e]
  exact v_X8_isHandOf S _o0 a1 sc2 _o3 a4 a5 a6
noncomputable def F_X2_moveAt (S : HSt) (_o0 : Nat) (a1 : Int32) : Int32 × HSt := bd ((if a1 < 0 then (-1000000 : Int32) else (if (gI S 52 (0 : Int32).toNatClampNeg) ≤ a1 then (-1000000 : Int32) else (gI S (46 + (0 : Int32).toNatClampNeg) a1.toNatClampNeg)))) fun x3 => pr (x3) (S)
noncomputable def f_X2_moveAt (S : HSt) (_o0 : Nat) (a1 : Int32) : Int32 := (F_X2_moveAt S _o0 a1).1
def p_X2_moveAt (S : HSt) (_o0 : Nat) (a1 : Int32) : Prop := ((¬ a1 < 0) → (¬ (gI S 52 (0 : Int32).toNatClampNeg) ≤ a1) → vp_in a1 5)
set_option maxRecDepth 100000 in
theorem t_X2_moveAt (G : GG) (l : Launch) {S : HSt} (hM : CS S) (a1 : Int32)  (hp : p_X2_moveAt S 43 a1) : AM G l yX2_moveAt cX2_moveAt 2 (some .int) (rmD 0 0 0) 0 0 [.ref 43, .int a1] S (FP (some (.int (f_X2_moveAt S 43 a1))) (S)) := by
  have h0 := hp
  unfold p_X2_moveAt at h0
  refine AM.mk (by decide) (Nat.le_of_ble_eq_true rfl) ?_
  intro p e s m below meth c hC hSt _
  refine aw_iload_n hC 1 dX2_moveAt_0 rfl rfl ?_
  refine aw_cut (S' := S) (pc' := 27) (lv' := [(0, .ref 43), (1, .int a1)]) (st' := [.int (if a1 < 0 then (-1000000 : Int32) else (if (gI S 52 (0 : Int32).toNatClampNeg) ≤ a1 then (-1000000 : Int32) else (gI S (46 + (0 : Int32).toNatClampNeg) a1.toNatClampNeg)))]) ?_ (fun Jc1 => ?_)
  · generalize ex3 : (if a1 < 0 then (-1000000 : Int32) else (if (gI S 52 (0 : Int32).toNatClampNeg) ≤ a1 then (-1000000 : Int32) else (gI S (46 + (0 : Int32).toNatClampNeg) a1.toNatClampNeg))) = x3
    refine aw_iret hC dX2_moveAt_27 (Nat.le_refl _) (Nat.le_refl _) ?_
    exact FP.pI ((bd_eq ex3).trans (rfl))
  · refine aw_if_lt hC 25 dX2_moveAt_1 (by decide) (fun c1 => ?_) (fun c1 => ?_)
    · refine aw_ldc (v := -1000000) hC w_264 dX2_moveAt_25 ?_
      simp only [bd_def, if_pos c1] at Jc1 ⊢
      exact Jc1
    · refine aw_iload_n hC 1 dX2_moveAt_4 rfl rfl ?_
      refine aw_aload_n hC 0 dX2_moveAt_5 rfl rfl ?_
      refine aw_getP (b := 52) hC hSt 2 (cs_lt 43 2 0 (by decide) hM) (cs_k 43 2 0 (by decide) hM) rfl (by decide) w_135 rfl (cs_p 43 2 52 (by decide) hM) dX2_moveAt_6 ?_
      refine aw_iconst (v := 0) hC dX2_moveAt_9 (by decide) ?_
      refine aw_iald hC hSt (cs_lt 52 14 6 (by decide) hM) (cs_k 52 14 6 (by decide) hM) (vp_len (n := 6) (cs_l 52 14 6 (by decide) hM) (by unfold vp_in; decide)) dX2_moveAt_10 ?_
      refine aw_icmp_ge hC 25 dX2_moveAt_11 (by decide) (fun c2 => ?_) (fun c2 => ?_)
      · refine aw_ldc (v := -1000000) hC w_264 dX2_moveAt_25 ?_
        simp only [bd_def, if_neg c1, if_pos c2] at Jc1 ⊢
        exact Jc1
      · refine aw_aload_n hC 0 dX2_moveAt_14 rfl rfl ?_
        refine aw_getP (b := 45) hC hSt 1 (cs_lt 43 2 0 (by decide) hM) (cs_k 43 2 0 (by decide) hM) rfl (by decide) w_134 rfl (cs_p 43 1 45 (by decide) hM) dX2_moveAt_15 ?_
        refine aw_iconst (v := 0) hC dX2_moveAt_18 (by decide) ?_
        refine aw_aaldI hC hSt (cs_lt 45 19 6 (by decide) hM) (cs_k 45 19 6 (by decide) hM) (vp_len (n := 6) (cs_l 45 19 6 (by decide) hM) (by unfold vp_in; decide)) (cs_p 45 (0 : Int32).toNatClampNeg (46 + (0 : Int32).toNatClampNeg) (ar_p45 (by unfold vp_in; decide)) hM) dX2_moveAt_19 ?_
        refine aw_iload_n hC 1 dX2_moveAt_20 rfl rfl ?_
        refine aw_iald hC hSt (cs_lt (46 + (0 : Int32).toNatClampNeg) 14 5 (ar_m45 (by unfold vp_in; decide)) hM) (cs_k (46 + (0 : Int32).toNatClampNeg) 14 5 (ar_m45 (by unfold vp_in; decide)) hM) (vp_len (n := 5) (cs_l (46 + (0 : Int32).toNatClampNeg) 14 5 (ar_m45 (by unfold vp_in; decide)) hM) (h0 c1 c2)) dX2_moveAt_21 ?_
        refine aw_goto hC 27 dX2_moveAt_22 (by decide) ?_
        simp only [bd_def, if_neg c1, if_neg c2] at Jc1 ⊢
        exact Jc1
noncomputable def f_X2_worthOf (S : HSt) (_o0 : Nat) (sc1 : Nat) (a2 : Int32) (a3 : Int32) (a4 : Int32) : Int32 × HSt := bd (((((((a2 * (4 : Int32)) + a4) * (2 : Int32)) + a3) * (16 : Int32)) + (gI S (56 + a2.toNatClampNeg) 1))) fun x1 => bd ((if x1 < 0 then (0 : Int32) else (if (nI (gL S 54)) ≤ x1 then (0 : Int32) else (1 : Int32)))) fun x4 => bd ((if x4 = 0 then S else (if (gI S 54 x1.toNatClampNeg) = (-1 : Int32) then (bd (f_X9_likelyFrom S 55 sc1 (gI S (56 + a2.toNatClampNeg) 4) (gI S (56 + a2.toNatClampNeg) 1) a3 a4) fun r7 => bd ((sI r7.2 54 x1.toNatClampNeg r7.1)) fun S8 => S8) else S))) fun S9 => bd ((if x4 = 0 then (0 : Int32) else (if (f_X1_hasFallen S9 (56 + a2.toNatClampNeg)) = 0 then (if (gI S9 (56 + a2.toNatClampNeg) 0) < (gI S9 54 x1.toNatClampNeg) then (0 : Int32) else (1 : Int32)) else (0 : Int32)))) fun x13 => pr ((f_X10_pointsFor S9 (sc1 + 1) a3 (gI S9 (56 + a2.toNatClampNeg) 4) x13)) (S9)
def p_X2_worthOf (S : HSt) (_o0 : Nat) (sc1 : Nat) (a2 : Int32) (a3 : Int32) (a4 : Int32) : Prop := (vp_in a2 6) ∧ (∀ x1 : Int32, ((((((a2 * (4 : Int32)) + a4) * (2 : Int32)) + a3) * (16 : Int32)) + (gI S (56 + a2.toNatClampNeg) 1)) = x1 → ∀ x4 : Int32, (if x1 < 0 then (0 : Int32) else (if (nI (gL S 54)) ≤ x1 then (0 : Int32) else (1 : Int32))) = x4 → (¬ x4 = 0) → vp_in x1 640) ∧ (∀ x1 : Int32, ((((((a2 * (4 : Int32)) + a4) * (2 : Int32)) + a3) * (16 : Int32)) + (gI S (56 + a2.toNatClampNeg) 1)) = x1 → ∀ x4 : Int32, (if x1 < 0 then (0 : Int32) else (if (nI (gL S 54)) ≤ x1 then (0 : Int32) else (1 : Int32))) = x4 → (¬ x4 = 0) → ((gI S 54 x1.toNatClampNeg) = (-1 : Int32)) → p_X9_likelyFrom S 55 sc1 (gI S (56 + a2.toNatClampNeg) 4) (gI S (56 + a2.toNatClampNeg) 1) a3 a4) ∧ (∀ x1 : Int32, ((((((a2 * (4 : Int32)) + a4) * (2 : Int32)) + a3) * (16 : Int32)) + (gI S (56 + a2.toNatClampNeg) 1)) = x1 → ∀ x4 : Int32, (if x1 < 0 then (0 : Int32) else (if (nI (gL S 54)) ≤ x1 then (0 : Int32) else (1 : Int32))) = x4 → (¬ x4 = 0) → ((gI S 54 x1.toNatClampNeg) = (-1 : Int32)) → ∀ r7, f_X9_likelyFrom S 55 sc1 (gI S (56 + a2.toNatClampNeg) 4) (gI S (56 + a2.toNatClampNeg) 1) a3 a4 = r7 → vp_in x1 640) ∧ (∀ x1 : Int32, ((((((a2 * (4 : Int32)) + a4) * (2 : Int32)) + a3) * (16 : Int32)) + (gI S (56 + a2.toNatClampNeg) 1)) = x1 → ∀ x4 : Int32, (if x1 < 0 then (0 : Int32) else (if (nI (gL S 54)) ≤ x1 then (0 : Int32) else (1 : Int32))) = x4 → ∀ S9 : HSt, (if x4 = 0 then S else (if (gI S 54 x1.toNatClampNeg) = (-1 : Int32) then (bd (f_X9_likelyFrom S 55 sc1 (gI S (56 + a2.toNatClampNeg) 4) (gI S (56 + a2.toNatClampNeg) 1) a3 a4) fun r7 => bd ((sI r7.2 54 x1.toNatClampNeg r7.1)) fun S8 => S8) else S)) = S9 → (¬ x4 = 0) → ((f_X1_hasFallen S9 (56 + a2.toNatClampNeg)) = 0) → vp_in x1 640) ∧ (∀ x1 : Int32, ((((((a2 * (4 : Int32)) + a4) * (2 : Int32)) + a3) * (16 : Int32)) + (gI S (56 + a2.toNatClampNeg) 1)) = x1 → ∀ x4 : Int32, (if x1 < 0 then (0 : Int32) else (if (nI (gL S 54)) ≤ x1 then (0 : Int32) else (1 : Int32))) = x4 → ∀ S9 : HSt, (if x4 = 0 then S else (if (gI S 54 x1.toNatClampNeg) = (-1 : Int32) then (bd (f_X9_likelyFrom S 55 sc1 (gI S (56 + a2.toNatClampNeg) 4) (gI S (56 + a2.toNatClampNeg) 1) a3 a4) fun r7 => bd ((sI r7.2 54 x1.toNatClampNeg r7.1)) fun S8 => S8) else S)) = S9 → ∀ x13 : Int32, (if x4 = 0 then (0 : Int32) else (if (f_X1_hasFallen S9 (56 + a2.toNatClampNeg)) = 0 then (if (gI S9 (56 + a2.toNatClampNeg) 0) < (gI S9 54 x1.toNatClampNeg) then (0 : Int32) else (1 : Int32)) else (0 : Int32))) = x13 → p_X10_pointsFor S9 (sc1 + 1) a3 (gI S9 (56 + a2.toNatClampNeg) 4) x13)
set_option maxRecDepth 100000 in
theorem t_X2_worthOf (G : GG) (l : Launch) {S : HSt} (hM : CS S) (sc1 : Nat) (a2 : Int32) (a3 : Int32) (a4 : Int32) (hsc1 : (sc1, 7, 0) ∈ cKT) (hp : p_X2_worthOf S 43 sc1 a2 a3 a4) : AM G l yX2_worthOf cX2_worthOf 9 (some .int) (rmD 4 0 0) 0 0 [.ref 43, .ref sc1, .int a2, .int a3, .int a4] S (FP (some (.int (f_X2_worthOf S 43 sc1 a2 a3 a4).1)) ((f_X2_worthOf S 43 sc1 a2 a3 a4).2)) := by
  obtain ⟨h0, h1, h2, h3, h4, h5⟩ := hp
  refine AM.mk (by decide) (Nat.le_of_ble_eq_true rfl) ?_
  intro p e s m below meth c hC hSt _
  refine aw_aload_n hC 0 dX2_worthOf_0 rfl rfl ?_
  refine aw_getP (b := 44) hC hSt 0 (cs_lt 43 2 0 (by decide) hM) (cs_k 43 2 0 (by decide) hM) rfl (by decide) w_132 rfl (cs_p 43 0 44 (by decide) hM) dX2_worthOf_1 ?_
  refine aw_iload_n hC 2 dX2_worthOf_4 rfl rfl ?_
  refine aw_aaldL hC hSt (cs_lt 44 17 6 (by decide) hM) (cs_k 44 17 6 (by decide) hM) (vp_len (n := 6) (cs_l 44 17 6 (by decide) hM) (h0)) (cs_p 44 a2.toNatClampNeg (56 + a2.toNatClampNeg) (ar_p44 (h0)) hM) dX2_worthOf_5 ?_
  refine aw_astore hC [(5, .ref (56 + a2.toNatClampNeg)), (0, .ref 43), (1, .ref sc1), (2, .int _), (3, .int _), (4, .int _)] dX2_worthOf_6 (by decide) rfl ?_
  refine aw_iload_n hC 3 dX2_worthOf_8 rfl rfl ?_
  refine aw_iconst (v := 4) hC dX2_worthOf_9 (by decide) ?_
  refine aw_imul hC dX2_worthOf_10 ?_
  refine aw_iload hC 5 dX2_worthOf_11 rfl ?_
  refine aw_iadd hC dX2_worthOf_13 ?_
  refine aw_iconst (v := 2) hC dX2_worthOf_14 (by decide) ?_
  refine aw_imul hC dX2_worthOf_15 ?_
  refine aw_iload_n hC 4 dX2_worthOf_16 rfl rfl ?_
  refine aw_iadd hC dX2_worthOf_17 ?_
  refine aw_bipush (v := 16) hC dX2_worthOf_18 (by decide) ?_
  refine aw_imul hC dX2_worthOf_20 ?_
  refine aw_aload hC 0 dX2_worthOf_21 rfl ?_
  refine aw_getI hC hSt 1 (cs_lt (56 + a2.toNatClampNeg) 1 0 (ar_m44 (h0)) hM) (cs_k (56 + a2.toNatClampNeg) 1 0 (ar_m44 (h0)) hM) rfl (by decide) w_196 rfl dX2_worthOf_23 ?_
  refine aw_iadd hC dX2_worthOf_26 ?_
  refine aw_istore hC [(6, .int _), (5, .ref (56 + a2.toNatClampNeg)), (0, .ref 43), (1, .ref sc1), (2, .int _), (3, .int _), (4, .int _)] dX2_worthOf_27 (by decide) rfl ?_
  generalize ex1 : ((((((a2 * (4 : Int32)) + a4) * (2 : Int32)) + a3) * (16 : Int32)) + (gI S (56 + a2.toNatClampNeg) 1)) = x1
  refine aw_iload hC 0 dX2_worthOf_29 rfl ?_
  refine aw_cut (S' := S) (pc' := 49) (lv' := [(6, .int x1), (5, .ref (56 + a2.toNatClampNeg)), (0, .ref 43), (1, .ref sc1), (2, .int a2), (3, .int a3), (4, .int a4)]) (st' := [.int (if x1 < 0 then (0 : Int32) else (if (nI (gL S 54)) ≤ x1 then (0 : Int32) else (1 : Int32)))]) ?_ (fun Jc2 => ?_)
  · generalize ex4 : (if x1 < 0 then (0 : Int32) else (if (nI (gL S 54)) ≤ x1 then (0 : Int32) else (1 : Int32))) = x4
    refine aw_istore hC [(7, .int _), (6, .int _), (5, .ref (56 + a2.toNatClampNeg)), (0, .ref 43), (1, .ref sc1), (2, .int _), (3, .int _), (4, .int _)] dX2_worthOf_49 (by decide) rfl ?_
    refine aw_iload hC 0 dX2_worthOf_51 rfl ?_
    refine aw_cut (S' := (if x4 = 0 then S else (if (gI S 54 x1.toNatClampNeg) = (-1 : Int32) then (bd (f_X9_likelyFrom S 55 sc1 (gI S (56 + a2.toNatClampNeg) 4) (gI S (56 + a2.toNatClampNeg) 1) a3 a4) fun r7 => bd ((sI r7.2 54 x1.toNatClampNeg r7.1)) fun S8 => S8) else S))) (pc' := 95) (lv' := [(7, .int x4), (6, .int x1), (5, .ref (56 + a2.toNatClampNeg)), (0, .ref 43), (1, .ref sc1), (2, .int a2), (3, .int a3), (4, .int a4)]) (st' := []) ?_ (fun Jc5 => ?_)
    · generalize eS9 : (if x4 = 0 then S else (if (gI S 54 x1.toNatClampNeg) = (-1 : Int32) then (bd (f_X9_likelyFrom S 55 sc1 (gI S (56 + a2.toNatClampNeg) 4) (gI S (56 + a2.toNatClampNeg) 1) a3 a4) fun r7 => bd ((sI r7.2 54 x1.toNatClampNeg r7.1)) fun S8 => S8) else S)) = S9
      have hM : CS S9 := CS.of (by rw [← eS9]; repeat' (first | with_reducible rfl | with_reducible refine (q_X9_likelyFrom _ _ _ _ _ _ _).trans ?_ | with_reducible refine (shp_sI _ _ _ _).trans ?_ | with_reducible refine (shp_sJ _ _ _ _).trans ?_ | with_reducible refine (shp_rI _ _ _).trans ?_ | with_reducible refine shi ?_ ?_ | with_reducible refine shb (fun _ _ => ?_) | (subst_vars; with_reducible rfl) | (subst_vars; with_reducible refine (q_X9_likelyFrom _ _ _ _ _ _ _).trans ?_) | (subst_vars; with_reducible refine (shp_sI _ _ _ _).trans ?_) | (subst_vars; with_reducible refine (shp_sJ _ _ _ _).trans ?_) | (subst_vars; with_reducible refine (shp_rI _ _ _).trans ?_) | (subst_vars; with_reducible refine shi ?_ ?_) | (subst_vars; with_reducible refine shb (fun _ _ => ?_)))) hM
      refine aw_iload hC 0 dX2_worthOf_95 rfl ?_
      refine aw_cut (S' := S9) (pc' := 128) (lv' := [(7, .int x4), (6, .int x1), (5, .ref (56 + a2.toNatClampNeg)), (0, .ref 43), (1, .ref sc1), (2, .int a2), (3, .int a3), (4, .int a4)]) (st' := [.int (if x4 = 0 then (0 : Int32) else (if (f_X1_hasFallen S9 (56 + a2.toNatClampNeg)) = 0 then (if (gI S9 (56 + a2.toNatClampNeg) 0) < (gI S9 54 x1.toNatClampNeg) then (0 : Int32) else (1 : Int32)) else (0 : Int32)))]) ?_ (fun Jc10 => ?_)
      · generalize ex13 : (if x4 = 0 then (0 : Int32) else (if (f_X1_hasFallen S9 (56 + a2.toNatClampNeg)) = 0 then (if (gI S9 (56 + a2.toNatClampNeg) 0) < (gI S9 54 x1.toNatClampNeg) then (0 : Int32) else (1 : Int32)) else (0 : Int32))) = x13
        refine aw_istore hC [(8, .int _), (7, .int _), (6, .int _), (5, .ref (56 + a2.toNatClampNeg)), (0, .ref 43), (1, .ref sc1), (2, .int _), (3, .int _), (4, .int _)] dX2_worthOf_128 (by decide) rfl ?_
        refine aw_aload_n hC 5 dX2_worthOf_130 rfl rfl ?_
        refine aw_getP (b := (sc1 + 1)) hC hSt 0 (cs_lt sc1 7 0 hsc1 hM) (cs_k sc1 7 0 hsc1 hM) rfl (by decide) w_199 rfl (cs_p sc1 0 (sc1 + 1) (sc_pway hsc1) hM) dX2_worthOf_131 ?_
        refine aw_iload_n hC 7 dX2_worthOf_134 rfl rfl ?_
        refine aw_aload hC 3 dX2_worthOf_135 rfl ?_
        refine aw_getI hC hSt 4 (cs_lt (56 + a2.toNatClampNeg) 1 0 (ar_m44 (h0)) hM) (cs_k (56 + a2.toNatClampNeg) 1 0 (ar_m44 (h0)) hM) rfl (by decide) w_197 rfl dX2_worthOf_137 ?_
        refine aw_iload hC 0 dX2_worthOf_140 rfl ?_
        refine aw_cV3r hC hSt (t_X10_pointsFor G l hM _ _ _ _ (sc_way hsc1) (h5 x1 ex1 x4 ex4 S9 eS9 x13 ex13)) w_195 w_206 w_207 w_208 w_18 rfl rfl (by decide +kernel) ⟨Nat.le_of_ble_eq_true rfl, Nat.le_of_ble_eq_true rfl⟩ (cs_lt (sc1 + 1) 10 0 (sc_way hsc1) hM) (cs_k (sc1 + 1) 10 0 (sc_way hsc1) hM) rfl (Nat.le_of_ble_eq_true rfl) dX2_worthOf_142 ⟨Nat.zero_le _, Nat.zero_le _⟩ ?_
        refine aw_iret hC dX2_worthOf_145 (Nat.le_refl _) (Nat.le_refl _) ?_
        exact FP.qI ((bd_eq ex1).trans ((bd_eq ex4).trans ((bd_eq eS9).trans ((bd_eq ex13).trans (rfl)))))
      · refine aw_if_eq hC 127 dX2_worthOf_97 (by decide) (fun c10 => ?_) (fun c10 => ?_)
        · refine aw_iconst (v := 0) hC dX2_worthOf_127 (by decide) ?_
          simp only [bd_def, if_pos c10] at Jc10 ⊢
          exact Jc10
        · refine aw_aload hC 2 dX2_worthOf_100 rfl ?_
          refine aw_cV0r hC hSt (t_X1_hasFallen G l hM _ (ar_m44 (h0))) w_88 w_203 w_204 w_205 w_84 rfl rfl (by decide +kernel) ⟨Nat.le_of_ble_eq_true rfl, Nat.le_of_ble_eq_true rfl⟩ (cs_lt (56 + a2.toNatClampNeg) 1 0 (ar_m44 (h0)) hM) (cs_k (56 + a2.toNatClampNeg) 1 0 (ar_m44 (h0)) hM) rfl (Nat.le_of_ble_eq_true rfl) dX2_worthOf_102 ⟨Nat.zero_le _, Nat.zero_le _⟩ ?_
          refine aw_if_ne hC 127 dX2_worthOf_105 (by decide) (fun c11 => ?_) (fun c11 => ?_)
          · refine aw_iconst (v := 0) hC dX2_worthOf_127 (by decide) ?_
            simp only [bd_def, if_neg c10, if_neg c11] at Jc10 ⊢
            exact Jc10
          · refine aw_aload hC 2 dX2_worthOf_108 rfl ?_
            refine aw_getI hC hSt 0 (cs_lt (56 + a2.toNatClampNeg) 1 0 (ar_m44 (h0)) hM) (cs_k (56 + a2.toNatClampNeg) 1 0 (ar_m44 (h0)) hM) rfl (by decide) w_198 rfl dX2_worthOf_110 ?_
            refine aw_aload_n hC 3 dX2_worthOf_113 rfl rfl ?_
            refine aw_getP (b := 54) hC hSt 4 (cs_lt 43 2 0 (by decide) hM) (cs_k 43 2 0 (by decide) hM) rfl (by decide) w_137 rfl (cs_p 43 4 54 (by decide) hM) dX2_worthOf_114 ?_
            refine aw_iload hC 1 dX2_worthOf_117 rfl ?_
            refine aw_iald hC hSt (cs_lt 54 14 640 (by decide) hM) (cs_k 54 14 640 (by decide) hM) (vp_len (n := 640) (cs_l 54 14 640 (by decide) hM) (h4 x1 ex1 x4 ex4 S9 eS9 c10 c11)) dX2_worthOf_119 ?_
            refine aw_icmp_lt hC 127 dX2_worthOf_120 (by decide) (fun c12 => ?_) (fun c12 => ?_)
            · refine aw_iconst (v := 0) hC dX2_worthOf_127 (by decide) ?_
              simp only [bd_def, if_neg c10, if_pos c11, if_pos c12] at Jc10 ⊢
              exact Jc10
            · refine aw_iconst (v := 1) hC dX2_worthOf_123 (by decide) ?_
              refine aw_goto hC 128 dX2_worthOf_124 (by decide) ?_
              simp only [bd_def, if_neg c10, if_pos c11, if_neg c12] at Jc10 ⊢
              exact Jc10
    · refine aw_if_eq hC 95 dX2_worthOf_53 (by decide) (fun c5 => ?_) (fun c5 => ?_)
      · simp only [bd_def, if_pos c5] at Jc5 ⊢
        exact Jc5
      · refine aw_aload_n hC 3 dX2_worthOf_56 rfl rfl ?_
        refine aw_getP (b := 54) hC hSt 4 (cs_lt 43 2 0 (by decide) hM) (cs_k 43 2 0 (by decide) hM) rfl (by decide) w_137 rfl (cs_p 43 4 54 (by decide) hM) dX2_worthOf_57 ?_
        refine aw_iload hC 1 dX2_worthOf_60 rfl ?_
        refine aw_iald hC hSt (cs_lt 54 14 640 (by decide) hM) (cs_k 54 14 640 (by decide) hM) (vp_len (n := 640) (cs_l 54 14 640 (by decide) hM) (h1 x1 ex1 x4 ex4 c5)) dX2_worthOf_62 ?_
        refine aw_iconst (v := -1) hC dX2_worthOf_63 (by decide) ?_
        refine aw_icmp_ne hC 95 dX2_worthOf_64 (by decide) (fun c6 => ?_) (fun c6 => ?_)
        · simp only [bd_def, if_neg c5, if_neg c6] at Jc5 ⊢
          exact Jc5
        · refine aw_aload_n hC 3 dX2_worthOf_67 rfl rfl ?_
          refine aw_getP (b := 54) hC hSt 4 (cs_lt 43 2 0 (by decide) hM) (cs_k 43 2 0 (by decide) hM) rfl (by decide) w_137 rfl (cs_p 43 4 54 (by decide) hM) dX2_worthOf_68 ?_
          refine aw_iload hC 1 dX2_worthOf_71 rfl ?_
          refine aw_aload_n hC 3 dX2_worthOf_73 rfl rfl ?_
          refine aw_getP (b := 55) hC hSt 5 (cs_lt 43 2 0 (by decide) hM) (cs_k 43 2 0 (by decide) hM) rfl (by decide) w_141 rfl (cs_p 43 5 55 (by decide) hM) dX2_worthOf_74 ?_
          refine aw_aload_n hC 4 dX2_worthOf_77 rfl rfl ?_
          refine aw_aload hC 2 dX2_worthOf_78 rfl ?_
          refine aw_getI hC hSt 4 (cs_lt (56 + a2.toNatClampNeg) 1 0 (ar_m44 (h0)) hM) (cs_k (56 + a2.toNatClampNeg) 1 0 (ar_m44 (h0)) hM) rfl (by decide) w_197 rfl dX2_worthOf_80 ?_
          refine aw_aload hC 2 dX2_worthOf_83 rfl ?_
          refine aw_getI hC hSt 1 (cs_lt (56 + a2.toNatClampNeg) 1 0 (ar_m44 (h0)) hM) (cs_k (56 + a2.toNatClampNeg) 1 0 (ar_m44 (h0)) hM) rfl (by decide) w_196 rfl dX2_worthOf_85 ?_
          refine aw_iload_n hC 6 dX2_worthOf_88 rfl rfl ?_
          refine aw_iload hC 7 dX2_worthOf_89 rfl ?_
          refine aw_cV5r hC hSt (t_X9_likelyFrom G l hM _ _ _ _ _ _ (by decide) hsc1 (h2 x1 ex1 x4 ex4 c5 c6)) w_194 w_200 w_201 w_202 w_140 rfl rfl (by decide +kernel) ⟨Nat.le_of_ble_eq_true rfl, Nat.le_of_ble_eq_true rfl⟩ (cs_lt 55 9 0 (by decide) hM) (cs_k 55 9 0 (by decide) hM) rfl (Nat.le_of_ble_eq_true rfl) dX2_worthOf_91 ⟨Nat.zero_le _, Nat.zero_le _⟩ ?_
          generalize er7 : f_X9_likelyFrom S 55 sc1 (gI S (56 + a2.toNatClampNeg) 4) (gI S (56 + a2.toNatClampNeg) 1) a3 a4 = r7
          have hM : CS r7.2 := CS.of (by rw [← er7]; exact q_X9_likelyFrom _ _ _ _ _ _ _) hM
          refine aw_iast hC hSt (cs_lt 54 14 640 (by decide) hM) (cs_k 54 14 640 (by decide) hM) (vp_len (n := 640) (cs_l 54 14 640 (by decide) hM) (h3 x1 ex1 x4 ex4 c5 c6 r7 er7)) dX2_worthOf_94 ?_
          generalize eS8 : (sI r7.2 54 x1.toNatClampNeg r7.1) = S8
          have hM : CS S8 := CS.of (by rw [← eS8]; exact shp_sI _ _ _ _) hM
          subst eS8
          subst er7
          simp only [bd_def, if_neg c5, if_pos c6] at Jc5 ⊢
          exact Jc5
  · refine aw_if_lt hC 48 dX2_worthOf_31 (by decide) (fun c2 => ?_) (fun c2 => ?_)
    · refine aw_iconst (v := 0) hC dX2_worthOf_48 (by decide) ?_
      simp only [bd_def, if_pos c2] at Jc2 ⊢
      exact Jc2
    · refine aw_iload hC 0 dX2_worthOf_34 rfl ?_
      refine aw_aload_n hC 2 dX2_worthOf_36 rfl rfl ?_
      refine aw_getP (b := 54) hC hSt 4 (cs_lt 43 2 0 (by decide) hM) (cs_k 43 2 0 (by decide) hM) rfl (by decide) w_137 rfl (cs_p 43 4 54 (by decide) hM) dX2_worthOf_37 ?_
      refine aw_alen hC hSt (cs_lt 54 14 640 (by decide) hM) (cs_k 54 14 640 (by decide) hM) (by decide) (by decide) dX2_worthOf_40 ?_
      refine aw_icmp_ge hC 48 dX2_worthOf_41 (by decide) (fun c3 => ?_) (fun c3 => ?_)
      · refine aw_iconst (v := 0) hC dX2_worthOf_48 (by decide) ?_
        simp only [bd_def, if_neg c2, if_pos c3] at Jc2 ⊢
        exact Jc2
      · refine aw_iconst (v := 1) hC dX2_worthOf_44 (by decide) ?_
        refine aw_goto hC 49 dX2_worthOf_45 (by decide) ?_
        simp only [bd_def, if_neg c2, if_neg c3] at Jc2 ⊢
        exact Jc2
theorem q_X2_worthOf (S : HSt) (_o0 : Nat) (sc1 : Nat) (a2 : Int32) (a3 : Int32) (a4 : Int32) : shp ((f_X2_worthOf S _o0 sc1 a2 a3 a4).2) = shp S := by
  unfold f_X2_worthOf
  repeat' (first | with_reducible refine shpr1 ?_ | with_reducible rfl | with_reducible refine (q_X9_likelyFrom _ _ _ _ _ _ _).trans ?_ | with_reducible refine (shp_sI _ _ _ _).trans ?_ | with_reducible refine (shp_sJ _ _ _ _).trans ?_ | with_reducible refine (shp_rI _ _ _).trans ?_ | with_reducible refine shi ?_ ?_ | with_reducible refine shb (fun _ _ => ?_) | with_reducible refine shiP (fun q : Int32 × HSt => q.2) ?_ ?_ | with_reducible refine shbP (fun q : Int32 × HSt => q.2) (fun _ _ => ?_) | (subst_vars; with_reducible rfl) | (subst_vars; with_reducible refine (q_X9_likelyFrom _ _ _ _ _ _ _).trans ?_) | (subst_vars; with_reducible refine (shp_sI _ _ _ _).trans ?_) | (subst_vars; with_reducible refine (shp_sJ _ _ _ _).trans ?_) | (subst_vars; with_reducible refine (shp_rI _ _ _).trans ?_) | (subst_vars; with_reducible refine shi ?_ ?_) | (subst_vars; with_reducible refine shb (fun _ _ => ?_)))
theorem v_X2_worthOf (S : HSt) (_o0 : Nat) (sc1 : Nat) (a2 : Int32) (a3 : Int32) (a4 : Int32) : Fr [(54, 1000), (55, 10), (55, 3), (55, 4), (55, 5), (55, 6), (55, 7), (55, 8), (55, 9)] S ((f_X2_worthOf S _o0 sc1 a2 a3 a4).2) := by
  unfold f_X2_worthOf
  repeat' (first | with_reducible refine frpr1 ?_ | with_reducible exact Fr.refl _ _ | with_reducible refine Fr.lP (fun q : Int32 × HSt => q.2) (fun _ _ => ?_) | with_reducible refine Fr.iteP (fun q : Int32 × HSt => q.2) ?_ ?_ | with_reducible refine Fr.l1 (fun _ _ => ?_) | with_reducible refine Fr.ite ?_ ?_ | with_reducible refine Fr.sE (by assumption) (by first | decide | simp only [List.mem_cons, List.not_mem_nil, or_false, true_or, or_true, eq_self_iff_true]) ?_ | with_reducible refine Fr.jE (by assumption) ?_ | with_reducible refine Fr.rE (by assumption) (by first | decide | simp only [List.mem_cons, List.not_mem_nil, or_false, true_or, or_true, eq_self_iff_true]) ?_ | with_reducible refine Fr.iE (by assumption) ?_ ?_ | with_reducible refine Fr.tr (w_X9_likelyFrom _ _ _ _ _ _ _ _ (by assumption)) (by first | decide | simp only [List.mem_cons, List.not_mem_nil, or_false, forall_eq_or_imp, forall_eq, true_or, or_true, and_self, eq_self_iff_true]) ?_)
theorem w_X2_worthOf (S : HSt) (_o0 : Nat) (sc1 : Nat) (a2 : Int32) (a3 : Int32) (a4 : Int32) (r : Int32 × HSt) (e : f_X2_worthOf S _o0 sc1 a2 a3 a4 = r) : Fr [(54, 1000), (55, 10), (55, 3), (55, 4), (55, 5), (55, 6), (55, 7), (55, 8), (55, 9)] S r.2 := by
  rw [← e]
  exact v_X2_worthOf S _o0 sc1 a2 a3 a4
noncomputable def f_X11_found (S : HSt) (_o0 : Nat) (a1 : Int32) : Int64 × HSt := bd ((sI S 0 10 a1)) fun S1 => pr (((-9000000000000000010 : Int64) - a1.toInt64)) (S1)
set_option maxRecDepth 100000 in
theorem t_X11_found (G : GG) (l : Launch) {S : HSt} (hM : CS S) (a1 : Int32)   : AM G l yX11_found cX11_found 2 (some .long) (rmD 0 0 0) 0 0 [.ref 0, .int a1] S (FP (some (.long (f_X11_found S 0 a1).1)) ((f_X11_found S 0 a1).2)) := by
  refine AM.mk (by decide) (Nat.le_of_ble_eq_true rfl) ?_
  intro p e s m below meth c hC hSt _
  refine aw_aload_n hC 0 dX11_found_0 rfl rfl ?_
  refine aw_iload_n hC 1 dX11_found_1 rfl rfl ?_
  refine aw_putI hC hSt 10 (cs_lt 0 11 0 (by decide) hM) (cs_k 0 11 0 (by decide) hM) rfl (by decide) w_695 rfl rfl rfl rfl dX11_found_2 ?_
  generalize eS1 : (sI S 0 10 a1) = S1
  have hM : CS S1 := CS.of (by rw [← eS1]; exact shp_sI _ _ _ _) hM
  refine aw_ldc2 (v := -9000000000000000010) hC w_708 dX11_found_5 ?_
  refine aw_iload_n hC 1 dX11_found_8 rfl rfl ?_
  refine aw_i2l hC dX11_found_9 ?_
  refine aw_lsub hC dX11_found_10 ?_
  refine aw_lret hC dX11_found_11 (Nat.le_refl _) (Nat.le_refl _) ?_
  exact FP.qJ ((bd_eq eS1).trans (rfl))
theorem q_X11_found (S : HSt) (_o0 : Nat) (a1 : Int32) : shp ((f_X11_found S _o0 a1).2) = shp S := by
  unfold f_X11_found
  repeat' (first | with_reducible refine shpr1 ?_ | with_reducible rfl | with_reducible refine (shp_sI _ _ _ _).trans ?_ | with_reducible refine (shp_sJ _ _ _ _).trans ?_ | with_reducible refine (shp_rI _ _ _).trans ?_ | with_reducible refine shi ?_ ?_ | with_reducible refine shb (fun _ _ => ?_) | with_reducible refine shiP (fun q : Int64 × HSt => q.2) ?_ ?_ | with_reducible refine shbP (fun q : Int64 × HSt => q.2) (fun _ _ => ?_) | (subst_vars; with_reducible rfl) | (subst_vars; with_reducible refine (shp_sI _ _ _ _).trans ?_) | (subst_vars; with_reducible refine (shp_sJ _ _ _ _).trans ?_) | (subst_vars; with_reducible refine (shp_rI _ _ _).trans ?_) | (subst_vars; with_reducible refine shi ?_ ?_) | (subst_vars; with_reducible refine shb (fun _ _ => ?_)))
theorem v_X11_found (S : HSt) (_o0 : Nat) (a1 : Int32) : Fr [(0, 10)] S ((f_X11_found S _o0 a1).2) := by
  unfold f_X11_found
  repeat' (first | with_reducible refine frpr1 ?_ | with_reducible exact Fr.refl _ _ | with_reducible refine Fr.lP (fun q : Int64 × HSt => q.2) (fun _ _ => ?_) | with_reducible refine Fr.iteP (fun q : Int64 × HSt => q.2) ?_ ?_ | with_reducible refine Fr.l1 (fun _ _ => ?_) | with_reducible refine Fr.ite ?_ ?_ | with_reducible refine Fr.sE (by assumption) (by first | decide | simp only [List.mem_cons, List.not_mem_nil, or_false, true_or, or_true, eq_self_iff_true]) ?_ | with_reducible refine Fr.jE (by assumption) ?_ | with_reducible refine Fr.rE (by assumption) (by first | decide | simp only [List.mem_cons, List.not_mem_nil, or_false, true_or, or_true, eq_self_iff_true]) ?_ | with_reducible refine Fr.iE (by assumption) ?_ ?_)
theorem w_X11_found (S : HSt) (_o0 : Nat) (a1 : Int32) (r : Int64 × HSt) (e : f_X11_found S _o0 a1 = r) : Fr [(0, 10)] S r.2 := by
  rw [← e]
  exact v_X11_found S _o0 a1
noncomputable def f_X11_fine (S : HSt) (_o0 : Nat) (a1 : Int64) : Int64 × HSt := bd ((sI S 0 10 (0 : Int32))) fun S1 => pr (a1) (S1)
set_option maxRecDepth 100000 in
theorem t_X11_fine (G : GG) (l : Launch) {S : HSt} (hM : CS S) (a1 : Int64)   : AM G l yX11_fine cX11_fine 3 (some .long) (rmD 0 0 0) 0 0 [.ref 0, .long a1] S (FP (some (.long (f_X11_fine S 0 a1).1)) ((f_X11_fine S 0 a1).2)) := by
  refine AM.mk (by decide) (Nat.le_of_ble_eq_true rfl) ?_
  intro p e s m below meth c hC hSt _
  refine aw_aload_n hC 0 dX11_fine_0 rfl rfl ?_
  refine aw_iconst (v := 0) hC dX11_fine_1 (by decide) ?_
  refine aw_putI hC hSt 10 (cs_lt 0 11 0 (by decide) hM) (cs_k 0 11 0 (by decide) hM) rfl (by decide) w_695 rfl rfl rfl rfl dX11_fine_2 ?_
  generalize eS1 : (sI S 0 10 (0 : Int32)) = S1
  have hM : CS S1 := CS.of (by rw [← eS1]; exact shp_sI _ _ _ _) hM
  refine aw_lload_n hC 1 dX11_fine_5 rfl rfl ?_
  refine aw_lret hC dX11_fine_6 (Nat.le_refl _) (Nat.le_refl _) ?_
  exact FP.qJ ((bd_eq eS1).trans (rfl))
theorem q_X11_fine (S : HSt) (_o0 : Nat) (a1 : Int64) : shp ((f_X11_fine S _o0 a1).2) = shp S := by
  unfold f_X11_fine
  repeat' (first | with_reducible refine shpr1 ?_ | with_reducible rfl | with_reducible refine (shp_sI _ _ _ _).trans ?_ | with_reducible refine (shp_sJ _ _ _ _).trans ?_ | with_reducible refine (shp_rI _ _ _).trans ?_ | with_reducible refine shi ?_ ?_ | with_reducible refine shb (fun _ _ => ?_) | with_reducible refine shiP (fun q : Int64 × HSt => q.2) ?_ ?_ | with_reducible refine shbP (fun q : Int64 × HSt => q.2) (fun _ _ => ?_) | (subst_vars; with_reducible rfl) | (subst_vars; with_reducible refine (shp_sI _ _ _ _).trans ?_) | (subst_vars; with_reducible refine (shp_sJ _ _ _ _).trans ?_) | (subst_vars; with_reducible refine (shp_rI _ _ _).trans ?_) | (subst_vars; with_reducible refine shi ?_ ?_) | (subst_vars; with_reducible refine shb (fun _ _ => ?_)))
theorem v_X11_fine (S : HSt) (_o0 : Nat) (a1 : Int64) : Fr [(0, 10)] S ((f_X11_fine S _o0 a1).2) := by
  unfold f_X11_fine
  repeat' (first | with_reducible refine frpr1 ?_ | with_reducible exact Fr.refl _ _ | with_reducible refine Fr.lP (fun q : Int64 × HSt => q.2) (fun _ _ => ?_) | with_reducible refine Fr.iteP (fun q : Int64 × HSt => q.2) ?_ ?_ | with_reducible refine Fr.l1 (fun _ _ => ?_) | with_reducible refine Fr.ite ?_ ?_ | with_reducible refine Fr.sE (by assumption) (by first | decide | simp only [List.mem_cons, List.not_mem_nil, or_false, true_or, or_true, eq_self_iff_true]) ?_ | with_reducible refine Fr.jE (by assumption) ?_ | with_reducible refine Fr.rE (by assumption) (by first | decide | simp only [List.mem_cons, List.not_mem_nil, or_false, true_or, or_true, eq_self_iff_true]) ?_ | with_reducible refine Fr.iE (by assumption) ?_ ?_)
theorem w_X11_fine (S : HSt) (_o0 : Nat) (a1 : Int64) (r : Int64 × HSt) (e : f_X11_fine S _o0 a1 = r) : Fr [(0, 10)] S r.2 := by
  rw [← e]
  exact v_X11_fine S _o0 a1
noncomputable def F_X11_hasAct (S : HSt) (_o0 : Nat) (a1 : Int32) : Int32 × HSt := pr ((f_X10_has S 19 (5 : Int32) a1)) (S)
noncomputable def f_X11_hasAct (S : HSt) (_o0 : Nat) (a1 : Int32) : Int32 := (F_X11_hasAct S _o0 a1).1
def p_X11_hasAct (S : HSt) (_o0 : Nat) (a1 : Int32) : Prop := (p_X10_has S 19 (5 : Int32) a1)
set_option maxRecDepth 100000 in
theorem t_X11_hasAct (G : GG) (l : Launch) {S : HSt} (hM : CS S) (a1 : Int32)  (hp : p_X11_hasAct S 0 a1) : AM G l yX11_hasAct cX11_hasAct 2 (some .boolean) (rmD 2 0 0) 0 0 [.ref 0, .int a1] S (FP (some (.int (f_X11_hasAct S 0 a1))) (S)) := by
  have h0 := hp
  unfold p_X11_hasAct at h0
  refine AM.mk (by decide) (Nat.le_of_ble_eq_true rfl) ?_
  intro p e s m below meth c hC hSt _
  refine aw_aload_n hC 0 dX11_hasAct_0 rfl rfl ?_
  refine aw_getP (b := 18) hC hSt 2 (cs_lt 0 11 0 (by decide) hM) (cs_k 0 11 0 (by decide) hM) rfl (by decide) w_678 rfl (cs_p 0 2 18 (by decide) hM) dX11_hasAct_1 ?_
  refine aw_getP (b := 19) hC hSt 0 (cs_lt 18 7 0 (by decide) hM) (cs_k 18 7 0 (by decide) hM) rfl (by decide) w_750 rfl (cs_p 18 0 19 (by decide) hM) dX11_hasAct_4 ?_
  refine aw_iconst (v := 5) hC dX11_hasAct_7 (by decide) ?_
  refine aw_iload_n hC 1 dX11_hasAct_8 rfl rfl ?_
  refine aw_cV2r hC hSt (t_X10_has G l hM _ _ _ (by decide) (h0)) w_665 w_770 w_771 w_772 w_18 rfl rfl (by decide +kernel) ⟨Nat.le_of_ble_eq_true rfl, Nat.le_of_ble_eq_true rfl⟩ (cs_lt 19 10 0 (by decide) hM) (cs_k 19 10 0 (by decide) hM) rfl (Nat.le_of_ble_eq_true rfl) dX11_hasAct_9 ⟨Nat.zero_le _, Nat.zero_le _⟩ ?_
  refine aw_zret hC dX11_hasAct_12 (Nat.le_refl _) (Nat.le_refl _) (Bz.n (b_X10_has _ _ _ _)) ?_
  exact FP.pI (rfl)
theorem b_X11_hasAct (S : HSt) (_o0 : Nat) (a1 : Int32) : Bz (f_X11_hasAct S _o0 a1) := by
  unfold f_X11_hasAct F_X11_hasAct
  (try dsimp only [bd])
  (repeat' split) <;> first | exact Or.inl rfl | exact Or.inr rfl | exact b_X10_has _ _ _ _
noncomputable def F_X11_canThrow (S : HSt) (_o0 : Nat) (a1 : Int32) (a2 : Int32) : Int32 × HSt := bd ((if (f_X11_within S a1 (0 : Int32) (1 : Int32)) = 0 then (0 : Int32) else (if (f_X10_has S 19 (2 : Int32) a2) = 0 then (0 : Int32) else (1 : Int32)))) fun x3 => pr (x3) (S)
noncomputable def f_X11_canThrow (S : HSt) (_o0 : Nat) (a1 : Int32) (a2 : Int32) : Int32 := (F_X11_canThrow S _o0 a1 a2).1
def p_X11_canThrow (S : HSt) (_o0 : Nat) (a1 : Int32) (a2 : Int32) : Prop := ((¬ (f_X11_within S a1 (0 : Int32) (1 : Int32)) = 0) → p_X10_has S 19 (2 : Int32) a2)
set_option maxRecDepth 100000 in
theorem t_X11_canThrow (G : GG) (l : Launch) {S : HSt} (hM : CS S) (a1 : Int32) (a2 : Int32)  (hp : p_X11_canThrow S 0 a1 a2) : AM G l yX11_canThrow cX11_canThrow 3 (some .boolean) (rmD 2 0 0) 0 0 [.ref 0, .int a1, .int a2] S (FP (some (.int (f_X11_canThrow S 0 a1 a2))) (S)) := by
  have h0 := hp
  unfold p_X11_canThrow at h0
  refine AM.mk (by decide) (Nat.le_of_ble_eq_true rfl) ?_
  intro p e s m below meth c hC hSt _
  refine aw_iload_n hC 1 dX11_canThrow_0 rfl rfl ?_
  refine aw_iconst (v := 0) hC dX11_canThrow_1 (by decide) ?_
  refine aw_iconst (v := 1) hC dX11_canThrow_2 (by decide) ?_
  refine aw_cS3r hC hSt (t_X11_within G l  _ _ _) w_706 w_712 w_713 w_517 rfl rfl (by decide +kernel) ⟨Nat.le_of_ble_eq_true rfl, Nat.le_of_ble_eq_true rfl⟩ (Nat.le_of_ble_eq_true rfl) dX11_canThrow_3 ⟨Nat.zero_le _, Nat.zero_le _⟩ ?_
  refine aw_cut (S' := S) (pc' := 29) (lv' := [(0, .ref 0), (1, .int a1), (2, .int a2)]) (st' := [.int (if (f_X11_within S a1 (0 : Int32) (1 : Int32)) = 0 then (0 : Int32) else (if (f_X10_has S 19 (2 : Int32) a2) = 0 then (0 : Int32) else (1 : Int32)))]) ?_ (fun Jc1 => ?_)
  · generalize ex3 : (if (f_X11_within S a1 (0 : Int32) (1 : Int32)) = 0 then (0 : Int32) else (if (f_X10_has S 19 (2 : Int32) a2) = 0 then (0 : Int32) else (1 : Int32))) = x3
    refine aw_zret hC dX11_canThrow_29 (Nat.le_refl _) (Nat.le_refl _) (Bz.n (ex3 ▸ (Bz.ite (Or.inl rfl) (Bz.ite (Or.inl rfl) (Or.inr rfl))))) ?_
    exact FP.pI ((bd_eq ex3).trans (rfl))
  · refine aw_if_eq hC 28 dX11_canThrow_6 (by decide) (fun c1 => ?_) (fun c1 => ?_)
    · refine aw_iconst (v := 0) hC dX11_canThrow_28 (by decide) ?_
      simp only [bd_def, if_pos c1] at Jc1 ⊢
      exact Jc1
    · refine aw_aload_n hC 0 dX11_canThrow_9 rfl rfl ?_
      refine aw_getP (b := 18) hC hSt 2 (cs_lt 0 11 0 (by decide) hM) (cs_k 0 11 0 (by decide) hM) rfl (by decide) w_678 rfl (cs_p 0 2 18 (by decide) hM) dX11_canThrow_10 ?_
      refine aw_getP (b := 19) hC hSt 0 (cs_lt 18 7 0 (by decide) hM) (cs_k 18 7 0 (by decide) hM) rfl (by decide) w_750 rfl (cs_p 18 0 19 (by decide) hM) dX11_canThrow_13 ?_
      refine aw_iconst (v := 2) hC dX11_canThrow_16 (by decide) ?_
      refine aw_iload_n hC 2 dX11_canThrow_17 rfl rfl ?_
      refine aw_cV2r hC hSt (t_X10_has G l hM _ _ _ (by decide) (h0 c1)) w_665 w_770 w_771 w_772 w_18 rfl rfl (by decide +kernel) ⟨Nat.le_of_ble_eq_true rfl, Nat.le_of_ble_eq_true rfl⟩ (cs_lt 19 10 0 (by decide) hM) (cs_k 19 10 0 (by decide) hM) rfl (Nat.le_of_ble_eq_true rfl) dX11_canThrow_18 ⟨Nat.zero_le _, Nat.zero_le _⟩ ?_
      refine aw_if_eq hC 28 dX11_canThrow_21 (by decide) (fun c2 => ?_) (fun c2 => ?_)
      · refine aw_iconst (v := 0) hC dX11_canThrow_28 (by decide) ?_
        simp only [bd_def, if_neg c1, if_pos c2] at Jc1 ⊢
        exact Jc1
      · refine aw_iconst (v := 1) hC dX11_canThrow_24 (by decide) ?_
        refine aw_goto hC 29 dX11_canThrow_25 (by decide) ?_
        simp only [bd_def, if_neg c1, if_neg c2] at Jc1 ⊢
        exact Jc1
theorem b_X11_canThrow (S : HSt) (_o0 : Nat) (a1 : Int32) (a2 : Int32) : Bz (f_X11_canThrow S _o0 a1 a2) := by
  unfold f_X11_canThrow F_X11_canThrow
  (try dsimp only [bd])
  (repeat' split) <;> first | exact Or.inl rfl | exact Or.inr rfl | exact b_X11_within _ _ _ _ | exact b_X10_has _ _ _ _
noncomputable def L_X11_imagesKept_4 : Nat → HSt → Int32 → Int32 → Int32 × Int32
  | 0, S, v1, v2 => (v1, v2)
  | n + 1, S, v1, v2 =>
    if (2 : Int32) ≤ v2 then ((pr (v1) (v2))) else (bd ((if (gI S (24 + 5 * v2.toNatClampNeg) 2) = 0 then v1 else (v1 + (1 : Int32)))) fun x1003 => L_X11_imagesKept_4 n S x1003 (v2 + (1 : Int32)))
def T_X11_imagesKept_4 : Nat → HSt → Int32 → Int32 → Prop
  | 0, _, _, _ => False
  | n + 1, S, v1, v2 => ((¬ (2 : Int32) ≤ v2) → vp_in v2 2) ∧ ((¬ (2 : Int32) ≤ v2) → ∀ x1003 : Int32, (if (gI S (24 + 5 * v2.toNatClampNeg) 2) = 0 then v1 else (v1 + (1 : Int32))) = x1003 → T_X11_imagesKept_4 n S x1003 (v2 + (1 : Int32)))
set_option maxRecDepth 100000 in
theorem l_X11_imagesKept_4 {p : Program} {l : Launch} {e : Env} {s : State} {m : MethodId} {args : Array Value} {below : List Frame} {meth : Method} {c : Code} {G : GG} {Q : State → Prop} (hC : ACx p s m args meth c cX11_imagesKept RX11 3 (some .int)) (hSt : St G s)   : ∀ (n : Nat) (S : HSt) (v1 : Int32) (v2 : Int32), CS S → T_X11_imagesKept_4 n S v1 v2 → AW p l e (rmD 0 0 0) s m args below meth c G 3 Q S 0 0 30 [(0, .ref 0), (1, .int (L_X11_imagesKept_4 n S v1 v2).1), (2, .int (L_X11_imagesKept_4 n S v1 v2).2)] [] → AW p l e (rmD 0 0 0) s m args below meth c G 3 Q S 0 0 4 [(0, .ref 0), (1, .int v1), (2, .int v2)] [] := by
  intro n
  induction n with
  | zero => intro S v1 v2 _ hT; exact hT.elim
  | succ n ih =>
    intro S v1 v2 hM hT hk
    unfold T_X11_imagesKept_4 at hT
    obtain ⟨h0, h1⟩ := hT
    refine aw_iload_n hC 2 dX11_imagesKept_4 rfl rfl ?_
    refine aw_iconst (v := 2) hC dX11_imagesKept_5 (by decide) ?_
    refine aw_icmp_ge hC 30 dX11_imagesKept_6 (by decide) (fun c1001 => ?_) (fun c1001 => ?_)
    · refine aw_sub [0, 1, 2] rfl ?_
      have E : L_X11_imagesKept_4 (n + 1) S v1 v2 = _ := (if_pos c1001).trans (rfl)
      rw [E] at hk
      exact hk
    · refine aw_aload_n hC 0 dX11_imagesKept_9 rfl rfl ?_
      refine aw_getP (b := 23) hC hSt 3 (cs_lt 0 11 0 (by decide) hM) (cs_k 0 11 0 (by decide) hM) rfl (by decide) w_679 rfl (cs_p 0 3 23 (by decide) hM) dX11_imagesKept_10 ?_
      refine aw_iload_n hC 2 dX11_imagesKept_13 rfl rfl ?_
      refine aw_aaldS hC hSt (cs_lt 23 18 2 (by decide) hM) (cs_k 23 18 2 (by decide) hM) (vp_len (n := 2) (cs_l 23 18 2 (by decide) hM) (h0 c1001)) (cs_p 23 v2.toNatClampNeg (24 + 5 * v2.toNatClampNeg) (ar_p23 (h0 c1001)) hM) dX11_imagesKept_14 ?_
      refine aw_getI hC hSt 2 (cs_lt (24 + 5 * v2.toNatClampNeg) 7 0 (ar_m23 (h0 c1001)) hM) (cs_k (24 + 5 * v2.toNatClampNeg) 7 0 (ar_m23 (h0 c1001)) hM) rfl (by decide) w_783 rfl dX11_imagesKept_15 ?_
      refine aw_cut (S' := S) (pc' := 24) (lv' := [(0, .ref 0), (1, .int (if (gI S (24 + 5 * v2.toNatClampNeg) 2) = 0 then v1 else (v1 + (1 : Int32)))), (2, .int v2)]) (st' := []) ?_ (fun Jc1002 => ?_)
      · generalize ex1003 : (if (gI S (24 + 5 * v2.toNatClampNeg) 2) = 0 then v1 else (v1 + (1 : Int32))) = x1003
        refine aw_iinc (v := (v2 + (1 : Int32))) hC 2 [(2, .int _), (0, .ref 0), (1, .int _)] dX11_imagesKept_24 rfl rfl (by decide) rfl ?_
        refine aw_goto hC 4 dX11_imagesKept_27 (by decide) ?_
        refine aw_sub [1, 2, 0] rfl ?_
        have hTn := (h1 c1001 x1003 ex1003)
        have hMn : CS S := hM
        have E : L_X11_imagesKept_4 (n + 1) S v1 v2 = _ := (if_neg c1001).trans ((bd_eq ex1003).trans (rfl))
        rw [E] at hk
        exact ih _ _ _ hMn hTn hk
      · refine aw_if_eq hC 24 dX11_imagesKept_18 (by decide) (fun c1002 => ?_) (fun c1002 => ?_)
        · simp only [bd_def, if_pos c1002] at Jc1002 ⊢
          exact Jc1002
        · refine aw_iinc (v := (v1 + (1 : Int32))) hC 1 [(1, .int _), (0, .ref 0), (2, .int _)] dX11_imagesKept_21 rfl rfl (by decide) rfl ?_
          refine aw_sub [1, 0, 2] rfl ?_
          simp only [bd_def, if_neg c1002] at Jc1002 ⊢
          exact Jc1002
noncomputable def F_X11_imagesKept (S : HSt) (_o0 : Nat) : Int32 × HSt := bd (L_X11_imagesKept_4 1000 S (0 : Int32) (0 : Int32)) fun r1 => pr (r1.1) (S)
noncomputable def f_X11_imagesKept (S : HSt) (_o0 : Nat) : Int32 := (F_X11_imagesKept S _o0).1
def p_X11_imagesKept (S : HSt) (_o0 : Nat) : Prop := (T_X11_imagesKept_4 1000 S (0 : Int32) (0 : Int32))
set_option maxRecDepth 100000 in
theorem t_X11_imagesKept (G : GG) (l : Launch) {S : HSt} (hM : CS S)   (hp : p_X11_imagesKept S 0) : AM G l yX11_imagesKept cX11_imagesKept 3 (some .int) (rmD 0 0 0) 0 0 [.ref 0] S (FP (some (.int (f_X11_imagesKept S 0))) (S)) := by
  have h0 := hp
  unfold p_X11_imagesKept at h0
  refine AM.mk (by decide) (Nat.le_of_ble_eq_true rfl) ?_
  intro p e s m below meth c hC hSt _
  refine aw_iconst (v := 0) hC dX11_imagesKept_0 (by decide) ?_
  refine aw_istore_n hC [(1, .int _), (0, .ref 0)] dX11_imagesKept_1 rfl (by decide) rfl ?_
  refine aw_iconst (v := 0) hC dX11_imagesKept_2 (by decide) ?_
  refine aw_istore_n hC [(2, .int _), (1, .int _), (0, .ref 0)] dX11_imagesKept_3 rfl (by decide) rfl ?_
  refine aw_sub [2, 1, 0] rfl ?_
  refine l_X11_imagesKept_4 hC hSt 1000 _ _ _ hM (h0) ?_
  generalize er1 : L_X11_imagesKept_4 1000 S (0 : Int32) (0 : Int32) = r1
  refine aw_iload_n hC 1 dX11_imagesKept_30 rfl rfl ?_
  refine aw_iret hC dX11_imagesKept_31 (Nat.le_refl _) (Nat.le_refl _) ?_
  exact FP.pI ((bd_eq er1).trans (rfl))
noncomputable def f_X11_row (S : HSt) (_o0 : Nat) (a1 : Int32) (a2 : Int32) (a3 : Int32) : Int64 × HSt := if (f_X5_isRow S a1) = 0 then (pr ((-9000000000000000001 : Int64)) (S)) else (if (f_X11_within S a2 (0 : Int32) (2 : Int32)) = 0 then (pr ((-9000000000000000001 : Int64)) (S)) else (if a3 ≤ (40 : Int32) then (if 0 ≤ a3 then (bd (f_X5_make S 1 a1 a2 a3) fun r5 => bd (f_X11_fine r5 0 a3.toInt64) fun r6 => pr (r6.1) (r6.2)) else (bd (f_X11_found S 0 (4 : Int32)) fun r7 => pr (r7.1) (r7.2))) else (pr ((-9000000000000000001 : Int64)) (S))))
def p_X11_row (S : HSt) (_o0 : Nat) (a1 : Int32) (a2 : Int32) (a3 : Int32) : Prop := ((¬ (f_X5_isRow S a1) = 0) → (¬ (f_X11_within S a2 (0 : Int32) (2 : Int32)) = 0) → (a3 ≤ (40 : Int32)) → (0 ≤ a3) → p_X5_make S 1 a1 a2 a3)
set_option maxRecDepth 100000 in
theorem t_X11_row (G : GG) (l : Launch) {S : HSt} (hM : CS S) (a1 : Int32) (a2 : Int32) (a3 : Int32)  (hp : p_X11_row S 0 a1 a2 a3) : AM G l yX11_row cX11_row 4 (some .long) (rmD 2 0 0) 0 0 [.ref 0, .int a1, .int a2, .int a3] S (FP (some (.long (f_X11_row S 0 a1 a2 a3).1)) ((f_X11_row S 0 a1 a2 a3).2)) := by
  have h0 := hp
  unfold p_X11_row at h0
  refine AM.mk (by decide) (Nat.le_of_ble_eq_true rfl) ?_
  intro p e s m below meth c hC hSt _
  refine aw_iload_n hC 1 dX11_row_0 rfl rfl ?_
  refine aw_cS1r hC hSt (t_X5_isRow G l  _) w_469 w_711 w_472 w_473 rfl rfl (by decide +kernel) ⟨Nat.le_of_ble_eq_true rfl, Nat.le_of_ble_eq_true rfl⟩ (Nat.le_of_ble_eq_true rfl) dX11_row_1 ⟨Nat.zero_le _, Nat.zero_le _⟩ ?_
  refine aw_if_eq hC 22 dX11_row_4 (by decide) (fun c1 => ?_) (fun c1 => ?_)
  · refine aw_ldc2 (v := -9000000000000000001) hC w_710 dX11_row_22 ?_
    refine aw_lret hC dX11_row_25 (Nat.le_refl _) (Nat.le_refl _) ?_
    exact FP.qJ ((if_pos c1).trans (rfl))
  · refine aw_iload_n hC 2 dX11_row_7 rfl rfl ?_
    refine aw_iconst (v := 0) hC dX11_row_8 (by decide) ?_
    refine aw_iconst (v := 2) hC dX11_row_9 (by decide) ?_
    refine aw_cS3r hC hSt (t_X11_within G l  _ _ _) w_706 w_712 w_713 w_517 rfl rfl (by decide +kernel) ⟨Nat.le_of_ble_eq_true rfl, Nat.le_of_ble_eq_true rfl⟩ (Nat.le_of_ble_eq_true rfl) dX11_row_10 ⟨Nat.zero_le _, Nat.zero_le _⟩ ?_
    refine aw_if_eq hC 22 dX11_row_13 (by decide) (fun c2 => ?_) (fun c2 => ?_)
    · refine aw_ldc2 (v := -9000000000000000001) hC w_710 dX11_row_22 ?_
      refine aw_lret hC dX11_row_25 (Nat.le_refl _) (Nat.le_refl _) ?_
      exact FP.qJ ((if_neg c1).trans ((if_pos c2).trans (rfl)))
    · refine aw_iload_n hC 3 dX11_row_16 rfl rfl ?_
      refine aw_bipush (v := 40) hC dX11_row_17 (by decide) ?_
      refine aw_icmp_le hC 26 dX11_row_19 (by decide) (fun c3 => ?_) (fun c3 => ?_)
      · refine aw_iload_n hC 3 dX11_row_26 rfl rfl ?_
        refine aw_if_ge hC 36 dX11_row_27 (by decide) (fun c4 => ?_) (fun c4 => ?_)
        · refine aw_aload_n hC 0 dX11_row_36 rfl rfl ?_
          refine aw_getP (b := 1) hC hSt 0 (cs_lt 0 11 0 (by decide) hM) (cs_k 0 11 0 (by decide) hM) rfl (by decide) w_672 rfl (cs_p 0 0 1 (by decide) hM) dX11_row_37 ?_
          refine aw_iload_n hC 1 dX11_row_40 rfl rfl ?_
          refine aw_iload_n hC 2 dX11_row_41 rfl rfl ?_
          refine aw_iload_n hC 3 dX11_row_42 rfl rfl ?_
          refine aw_cV3v hC hSt (t_X5_make G l hM _ _ _ (h0 c1 c2 c3 c4)) w_480 w_717 w_718 w_719 w_473 rfl rfl (by decide +kernel) ⟨Nat.le_of_ble_eq_true rfl, Nat.le_of_ble_eq_true rfl⟩ (cs_lt 1 5 0 (by decide) hM) (cs_k 1 5 0 (by decide) hM) rfl (Nat.le_of_ble_eq_true rfl) dX11_row_43 ⟨Nat.zero_le _, Nat.zero_le _⟩ ?_
          generalize er5 : f_X5_make S 1 a1 a2 a3 = r5
          have hM : CS r5 := CS.of (by rw [← er5]; exact q_X5_make _ _ _ _ _) hM
          refine aw_aload_n hC 0 dX11_row_46 rfl rfl ?_
          refine aw_iload_n hC 3 dX11_row_47 rfl rfl ?_
          refine aw_i2l hC dX11_row_48 ?_
          refine aw_cV1r hC hSt (t_X11_fine G l hM _) w_709 w_720 w_721 w_722 w_517 rfl rfl (by decide +kernel) ⟨Nat.le_of_ble_eq_true rfl, Nat.le_of_ble_eq_true rfl⟩ (cs_lt 0 11 0 (by decide) hM) (cs_k 0 11 0 (by decide) hM) rfl (Nat.le_of_ble_eq_true rfl) dX11_row_49 ⟨Nat.zero_le _, Nat.zero_le _⟩ ?_
          generalize er6 : f_X11_fine r5 0 a3.toInt64 = r6
          have hM : CS r6.2 := CS.of (by rw [← er6]; exact q_X11_fine _ _ _) hM
          refine aw_lret hC dX11_row_52 (Nat.le_refl _) (Nat.le_refl _) ?_
          exact FP.qJ ((if_neg c1).trans ((if_neg c2).trans ((if_pos c3).trans ((if_pos c4).trans ((bd_eq er5).trans ((bd_eq er6).trans (rfl)))))))
        · refine aw_aload_n hC 0 dX11_row_30 rfl rfl ?_
          refine aw_iconst (v := 4) hC dX11_row_31 (by decide) ?_
          refine aw_cV1r hC hSt (t_X11_found G l hM _) w_707 w_714 w_715 w_716 w_517 rfl rfl (by decide +kernel) ⟨Nat.le_of_ble_eq_true rfl, Nat.le_of_ble_eq_true rfl⟩ (cs_lt 0 11 0 (by decide) hM) (cs_k 0 11 0 (by decide) hM) rfl (Nat.le_of_ble_eq_true rfl) dX11_row_32 ⟨Nat.zero_le _, Nat.zero_le _⟩ ?_
          generalize er7 : f_X11_found S 0 (4 : Int32) = r7
          have hM : CS r7.2 := CS.of (by rw [← er7]; exact q_X11_found _ _ _) hM
          refine aw_lret hC dX11_row_35 (Nat.le_refl _) (Nat.le_refl _) ?_
          exact FP.qJ ((if_neg c1).trans ((if_neg c2).trans ((if_pos c3).trans ((if_neg c4).trans ((bd_eq er7).trans (rfl))))))
      · refine aw_ldc2 (v := -9000000000000000001) hC w_710 dX11_row_22 ?_
        refine aw_lret hC dX11_row_25 (Nat.le_refl _) (Nat.le_refl _) ?_
        exact FP.qJ ((if_neg c1).trans ((if_neg c2).trans ((if_neg c3).trans (rfl))))
theorem q_X11_row (S : HSt) (_o0 : Nat) (a1 : Int32) (a2 : Int32) (a3 : Int32) : shp ((f_X11_row S _o0 a1 a2 a3).2) = shp S := by
  unfold f_X11_row
  repeat' (first | with_reducible refine shpr1 ?_ | with_reducible rfl | with_reducible refine (q_X11_fine _ _ _).trans ?_ | with_reducible refine (q_X11_found _ _ _).trans ?_ | with_reducible refine (q_X5_make _ _ _ _ _).trans ?_ | with_reducible refine (shp_sI _ _ _ _).trans ?_ | with_reducible refine (shp_sJ _ _ _ _).trans ?_ | with_reducible refine (shp_rI _ _ _).trans ?_ | with_reducible refine shi ?_ ?_ | with_reducible refine shb (fun _ _ => ?_) | with_reducible refine shiP (fun q : Int64 × HSt => q.2) ?_ ?_ | with_reducible refine shbP (fun q : Int64 × HSt => q.2) (fun _ _ => ?_) | (subst_vars; with_reducible rfl) | (subst_vars; with_reducible refine (q_X11_fine _ _ _).trans ?_) | (subst_vars; with_reducible refine (q_X11_found _ _ _).trans ?_) | (subst_vars; with_reducible refine (q_X5_make _ _ _ _ _).trans ?_) | (subst_vars; with_reducible refine (shp_sI _ _ _ _).trans ?_) | (subst_vars; with_reducible refine (shp_sJ _ _ _ _).trans ?_) | (subst_vars; with_reducible refine (shp_rI _ _ _).trans ?_) | (subst_vars; with_reducible refine shi ?_ ?_) | (subst_vars; with_reducible refine shb (fun _ _ => ?_)))
noncomputable def f_X11_copy (S : HSt) (_o0 : Nat) (a1 : Int32) (a2 : Int32) (a3 : Int32) (a4 : Int32) (a5 : Int32) : Int64 × HSt := if (f_X5_isRow S a1) = 0 then (pr ((-9000000000000000001 : Int64)) (S)) else (if (f_X5_isRow S a3) = 0 then (pr ((-9000000000000000001 : Int64)) (S)) else (if (f_X5_isMissing S 1 a1) = 0 then (if (f_X5_isMissing S 1 a3) = 0 then (if (f_X5_laneOf S 1 a1) = (f_X5_laneOf S 1 a3) then (if (f_X5_hasPlaces S 1 a1 a2 a5) = 0 then (bd (f_X11_found S 0 (2 : Int32)) fun r8 => pr (r8.1) (r8.2)) else (if (f_X5_hasPlaces S 1 a3 a4 a5) = 0 then (bd (f_X11_found S 0 (2 : Int32)) fun r12 => pr (r12.1) (r12.2)) else (bd (f_X5_carry S 1 a1 a2 a3 a4 a5) fun r10 => bd (f_X11_fine r10 0 a5.toInt64) fun r11 => pr (r11.1) (r11.2)))) else (bd (f_X11_found S 0 (5 : Int32)) fun r13 => pr (r13.1) (r13.2))) else (bd (f_X11_found S 0 (1 : Int32)) fun r14 => pr (r14.1) (r14.2))) else (bd (f_X11_found S 0 (1 : Int32)) fun r4 => pr (r4.1) (r4.2))))
def p_X11_copy (S : HSt) (_o0 : Nat) (a1 : Int32) (a2 : Int32) (a3 : Int32) (a4 : Int32) (a5 : Int32) : Prop := ((¬ (f_X5_isRow S a1) = 0) → (¬ (f_X5_isRow S a3) = 0) → p_X5_isMissing S 1 a1) ∧ ((¬ (f_X5_isRow S a1) = 0) → (¬ (f_X5_isRow S a3) = 0) → ((f_X5_isMissing S 1 a1) = 0) → p_X5_isMissing S 1 a3) ∧ ((¬ (f_X5_isRow S a1) = 0) → (¬ (f_X5_isRow S a3) = 0) → ((f_X5_isMissing S 1 a1) = 0) → ((f_X5_isMissing S 1 a3) = 0) → p_X5_laneOf S 1 a1) ∧ ((¬ (f_X5_isRow S a1) = 0) → (¬ (f_X5_isRow S a3) = 0) → ((f_X5_isMissing S 1 a1) = 0) → ((f_X5_isMissing S 1 a3) = 0) → p_X5_laneOf S 1 a3) ∧ ((¬ (f_X5_isRow S a1) = 0) → (¬ (f_X5_isRow S a3) = 0) → ((f_X5_isMissing S 1 a1) = 0) → ((f_X5_isMissing S 1 a3) = 0) → ((f_X5_laneOf S 1 a1) = (f_X5_laneOf S 1 a3)) → p_X5_hasPlaces S 1 a1 a2 a5) ∧ ((¬ (f_X5_isRow S a1) = 0) → (¬ (f_X5_isRow S a3) = 0) → ((f_X5_isMissing S 1 a1) = 0) → ((f_X5_isMissing S 1 a3) = 0) → ((f_X5_laneOf S 1 a1) = (f_X5_laneOf S 1 a3)) → (¬ (f_X5_hasPlaces S 1 a1 a2 a5) = 0) → p_X5_hasPlaces S 1 a3 a4 a5) ∧ ((¬ (f_X5_isRow S a1) = 0) → (¬ (f_X5_isRow S a3) = 0) → ((f_X5_isMissing S 1 a1) = 0) → ((f_X5_isMissing S 1 a3) = 0) → ((f_X5_laneOf S 1 a1) = (f_X5_laneOf S 1 a3)) → (¬ (f_X5_hasPlaces S 1 a1 a2 a5) = 0) → (¬ (f_X5_hasPlaces S 1 a3 a4 a5) = 0) → p_X5_carry S 1 a1 a2 a3 a4 a5)
set_option maxRecDepth 100000 in
theorem t_X11_copy (G : GG) (l : Launch) {S : HSt} (hM : CS S) (a1 : Int32) (a2 : Int32) (a3 : Int32) (a4 : Int32) (a5 : Int32)  (hp : p_X11_copy S 0 a1 a2 a3 a4 a5) : AM G l yX11_copy cX11_copy 6 (some .long) (rmD 4 0 0) 0 0 [.ref 0, .int a1, .int a2, .int a3, .int a4, .int a5] S (FP (some (.long (f_X11_copy S 0 a1 a2 a3 a4 a5).1)) ((f_X11_copy S 0 a1 a2 a3 a4 a5).2)) := by
  obtain ⟨h0, h1, h2, h3, h4, h5, h6⟩ := hp
  refine AM.mk (by decide) (Nat.le_of_ble_eq_true rfl) ?_
  intro p e s m below meth c hC hSt _
  refine aw_iload_n hC 1 dX11_copy_0 rfl rfl ?_
  refine aw_cS1r hC hSt (t_X5_isRow G l  _) w_469 w_711 w_472 w_473 rfl rfl (by decide +kernel) ⟨Nat.le_of_ble_eq_true rfl, Nat.le_of_ble_eq_true rfl⟩ (Nat.le_of_ble_eq_true rfl) dX11_copy_1 ⟨Nat.zero_le _, Nat.zero_le _⟩ ?_
  refine aw_if_eq hC 14 dX11_copy_4 (by decide) (fun c1 => ?_) (fun c1 => ?_)
  · refine aw_ldc2 (v := -9000000000000000001) hC w_710 dX11_copy_14 ?_
    refine aw_lret hC dX11_copy_17 (Nat.le_refl _) (Nat.le_refl _) ?_
    exact FP.qJ ((if_pos c1).trans (rfl))
  · refine aw_iload_n hC 3 dX11_copy_7 rfl rfl ?_
    refine aw_cS1r hC hSt (t_X5_isRow G l  _) w_469 w_711 w_472 w_473 rfl rfl (by decide +kernel) ⟨Nat.le_of_ble_eq_true rfl, Nat.le_of_ble_eq_true rfl⟩ (Nat.le_of_ble_eq_true rfl) dX11_copy_8 ⟨Nat.zero_le _, Nat.zero_le _⟩ ?_
    refine aw_if_ne hC 18 dX11_copy_11 (by decide) (fun c2 => ?_) (fun c2 => ?_)
    · refine aw_aload_n hC 0 dX11_copy_18 rfl rfl ?_
      refine aw_getP (b := 1) hC hSt 0 (cs_lt 0 11 0 (by decide) hM) (cs_k 0 11 0 (by decide) hM) rfl (by decide) w_672 rfl (cs_p 0 0 1 (by decide) hM) dX11_copy_19 ?_
      refine aw_iload_n hC 1 dX11_copy_22 rfl rfl ?_
      refine aw_cV1r hC hSt (t_X5_isMissing G l hM _ (h0 c1 c2)) w_470 w_724 w_478 w_479 w_473 rfl rfl (by decide +kernel) ⟨Nat.le_of_ble_eq_true rfl, Nat.le_of_ble_eq_true rfl⟩ (cs_lt 1 5 0 (by decide) hM) (cs_k 1 5 0 (by decide) hM) rfl (Nat.le_of_ble_eq_true rfl) dX11_copy_23 ⟨Nat.zero_le _, Nat.zero_le _⟩ ?_
      refine aw_if_ne hC 40 dX11_copy_26 (by decide) (fun c3 => ?_) (fun c3 => ?_)
      · refine aw_aload_n hC 0 dX11_copy_40 rfl rfl ?_
        refine aw_iconst (v := 1) hC dX11_copy_41 (by decide) ?_
        refine aw_cV1r hC hSt (t_X11_found G l hM _) w_707 w_714 w_715 w_716 w_517 rfl rfl (by decide +kernel) ⟨Nat.le_of_ble_eq_true rfl, Nat.le_of_ble_eq_true rfl⟩ (cs_lt 0 11 0 (by decide) hM) (cs_k 0 11 0 (by decide) hM) rfl (Nat.le_of_ble_eq_true rfl) dX11_copy_42 ⟨Nat.zero_le _, Nat.zero_le _⟩ ?_
        generalize er4 : f_X11_found S 0 (1 : Int32) = r4
        have hM : CS r4.2 := CS.of (by rw [← er4]; exact q_X11_found _ _ _) hM
        refine aw_lret hC dX11_copy_45 (Nat.le_refl _) (Nat.le_refl _) ?_
        exact FP.qJ ((if_neg c1).trans ((if_neg c2).trans ((if_neg c3).trans ((bd_eq er4).trans (rfl)))))
      · refine aw_aload_n hC 0 dX11_copy_29 rfl rfl ?_
        refine aw_getP (b := 1) hC hSt 0 (cs_lt 0 11 0 (by decide) hM) (cs_k 0 11 0 (by decide) hM) rfl (by decide) w_672 rfl (cs_p 0 0 1 (by decide) hM) dX11_copy_30 ?_
        refine aw_iload_n hC 3 dX11_copy_33 rfl rfl ?_
        refine aw_cV1r hC hSt (t_X5_isMissing G l hM _ (h1 c1 c2 c3)) w_470 w_724 w_478 w_479 w_473 rfl rfl (by decide +kernel) ⟨Nat.le_of_ble_eq_true rfl, Nat.le_of_ble_eq_true rfl⟩ (cs_lt 1 5 0 (by decide) hM) (cs_k 1 5 0 (by decide) hM) rfl (Nat.le_of_ble_eq_true rfl) dX11_copy_34 ⟨Nat.zero_le _, Nat.zero_le _⟩ ?_
        refine aw_if_eq hC 46 dX11_copy_37 (by decide) (fun c5 => ?_) (fun c5 => ?_)
        · refine aw_aload_n hC 0 dX11_copy_46 rfl rfl ?_
          refine aw_getP (b := 1) hC hSt 0 (cs_lt 0 11 0 (by decide) hM) (cs_k 0 11 0 (by decide) hM) rfl (by decide) w_672 rfl (cs_p 0 0 1 (by decide) hM) dX11_copy_47 ?_
          refine aw_iload_n hC 1 dX11_copy_50 rfl rfl ?_
          refine aw_cV1r hC hSt (t_X5_laneOf G l hM _ (h2 c1 c2 c3 c5)) w_474 w_730 w_731 w_732 w_473 rfl rfl (by decide +kernel) ⟨Nat.le_of_ble_eq_true rfl, Nat.le_of_ble_eq_true rfl⟩ (cs_lt 1 5 0 (by decide) hM) (cs_k 1 5 0 (by decide) hM) rfl (Nat.le_of_ble_eq_true rfl) dX11_copy_51 ⟨Nat.zero_le _, Nat.zero_le _⟩ ?_
          refine aw_aload_n hC 0 dX11_copy_54 rfl rfl ?_
          refine aw_getP (b := 1) hC hSt 0 (cs_lt 0 11 0 (by decide) hM) (cs_k 0 11 0 (by decide) hM) rfl (by decide) w_672 rfl (cs_p 0 0 1 (by decide) hM) dX11_copy_55 ?_
          refine aw_iload_n hC 3 dX11_copy_58 rfl rfl ?_
          refine aw_cV1r hC hSt (t_X5_laneOf G l hM _ (h3 c1 c2 c3 c5)) w_474 w_730 w_731 w_732 w_473 rfl rfl (by decide +kernel) ⟨Nat.le_of_ble_eq_true rfl, Nat.le_of_ble_eq_true rfl⟩ (cs_lt 1 5 0 (by decide) hM) (cs_k 1 5 0 (by decide) hM) rfl (Nat.le_of_ble_eq_true rfl) dX11_copy_59 ⟨Nat.zero_le _, Nat.zero_le _⟩ ?_
          refine aw_icmp_eq hC 71 dX11_copy_62 (by decide) (fun c6 => ?_) (fun c6 => ?_)
          · refine aw_aload_n hC 0 dX11_copy_71 rfl rfl ?_
            refine aw_getP (b := 1) hC hSt 0 (cs_lt 0 11 0 (by decide) hM) (cs_k 0 11 0 (by decide) hM) rfl (by decide) w_672 rfl (cs_p 0 0 1 (by decide) hM) dX11_copy_72 ?_
            refine aw_iload_n hC 1 dX11_copy_75 rfl rfl ?_
            refine aw_iload_n hC 2 dX11_copy_76 rfl rfl ?_
            refine aw_iload hC 5 dX11_copy_77 rfl ?_
            refine aw_cV3r hC hSt (t_X5_hasPlaces G l hM _ _ _ (h4 c1 c2 c3 c5 c6)) w_476 w_725 w_483 w_484 w_473 rfl rfl (by decide +kernel) ⟨Nat.le_of_ble_eq_true rfl, Nat.le_of_ble_eq_true rfl⟩ (cs_lt 1 5 0 (by decide) hM) (cs_k 1 5 0 (by decide) hM) rfl (Nat.le_of_ble_eq_true rfl) dX11_copy_79 ⟨Nat.zero_le _, Nat.zero_le _⟩ ?_
            refine aw_if_eq hC 100 dX11_copy_82 (by decide) (fun c7 => ?_) (fun c7 => ?_)
            · refine aw_aload_n hC 0 dX11_copy_100 rfl rfl ?_
              refine aw_iconst (v := 2) hC dX11_copy_101 (by decide) ?_
              refine aw_cV1r hC hSt (t_X11_found G l hM _) w_707 w_714 w_715 w_716 w_517 rfl rfl (by decide +kernel) ⟨Nat.le_of_ble_eq_true rfl, Nat.le_of_ble_eq_true rfl⟩ (cs_lt 0 11 0 (by decide) hM) (cs_k 0 11 0 (by decide) hM) rfl (Nat.le_of_ble_eq_true rfl) dX11_copy_102 ⟨Nat.zero_le _, Nat.zero_le _⟩ ?_
              generalize er8 : f_X11_found S 0 (2 : Int32) = r8
              have hM : CS r8.2 := CS.of (by rw [← er8]; exact q_X11_found _ _ _) hM
              refine aw_lret hC dX11_copy_105 (Nat.le_refl _) (Nat.le_refl _) ?_
              exact FP.qJ ((if_neg c1).trans ((if_neg c2).trans ((if_pos c3).trans ((if_pos c5).trans ((if_pos c6).trans ((if_pos c7).trans ((bd_eq er8).trans (rfl))))))))
            · refine aw_aload_n hC 0 dX11_copy_85 rfl rfl ?_
              refine aw_getP (b := 1) hC hSt 0 (cs_lt 0 11 0 (by decide) hM) (cs_k 0 11 0 (by decide) hM) rfl (by decide) w_672 rfl (cs_p 0 0 1 (by decide) hM) dX11_copy_86 ?_
              refine aw_iload_n hC 3 dX11_copy_89 rfl rfl ?_
              refine aw_iload hC 4 dX11_copy_90 rfl ?_
              refine aw_iload hC 5 dX11_copy_92 rfl ?_
              refine aw_cV3r hC hSt (t_X5_hasPlaces G l hM _ _ _ (h5 c1 c2 c3 c5 c6 c7)) w_476 w_725 w_483 w_484 w_473 rfl rfl (by decide +kernel) ⟨Nat.le_of_ble_eq_true rfl, Nat.le_of_ble_eq_true rfl⟩ (cs_lt 1 5 0 (by decide) hM) (cs_k 1 5 0 (by decide) hM) rfl (Nat.le_of_ble_eq_true rfl) dX11_copy_94 ⟨Nat.zero_le _, Nat.zero_le _⟩ ?_
              refine aw_if_ne hC 106 dX11_copy_97 (by decide) (fun c9 => ?_) (fun c9 => ?_)
              · refine aw_aload_n hC 0 dX11_copy_106 rfl rfl ?_
                refine aw_getP (b := 1) hC hSt 0 (cs_lt 0 11 0 (by decide) hM) (cs_k 0 11 0 (by decide) hM) rfl (by decide) w_672 rfl (cs_p 0 0 1 (by decide) hM) dX11_copy_107 ?_
                refine aw_iload_n hC 1 dX11_copy_110 rfl rfl ?_
                refine aw_iload_n hC 2 dX11_copy_111 rfl rfl ?_
                refine aw_iload_n hC 3 dX11_copy_112 rfl rfl ?_
                refine aw_iload hC 4 dX11_copy_113 rfl ?_
                refine aw_iload hC 5 dX11_copy_115 rfl ?_
                refine aw_cV5v hC hSt (t_X5_carry G l hM _ _ _ _ _ (h6 c1 c2 c3 c5 c6 c7 c9)) w_486 w_733 w_734 w_735 w_473 rfl rfl (by decide +kernel) ⟨Nat.le_of_ble_eq_true rfl, Nat.le_of_ble_eq_true rfl⟩ (cs_lt 1 5 0 (by decide) hM) (cs_k 1 5 0 (by decide) hM) rfl (Nat.le_of_ble_eq_true rfl) dX11_copy_117 ⟨Nat.zero_le _, Nat.zero_le _⟩ ?_
                generalize er10 : f_X5_carry S 1 a1 a2 a3 a4 a5 = r10
                have hM : CS r10 := CS.of (by rw [← er10]; exact q_X5_carry _ _ _ _ _ _ _) hM
                refine aw_aload_n hC 0 dX11_copy_120 rfl rfl ?_
                refine aw_iload hC 5 dX11_copy_121 rfl ?_
                refine aw_i2l hC dX11_copy_123 ?_
                refine aw_cV1r hC hSt (t_X11_fine G l hM _) w_709 w_720 w_721 w_722 w_517 rfl rfl (by decide +kernel) ⟨Nat.le_of_ble_eq_true rfl, Nat.le_of_ble_eq_true rfl⟩ (cs_lt 0 11 0 (by decide) hM) (cs_k 0 11 0 (by decide) hM) rfl (Nat.le_of_ble_eq_true rfl) dX11_copy_124 ⟨Nat.zero_le _, Nat.zero_le _⟩ ?_
                generalize er11 : f_X11_fine r10 0 a5.toInt64 = r11
                have hM : CS r11.2 := CS.of (by rw [← er11]; exact q_X11_fine _ _ _) hM
                refine aw_lret hC dX11_copy_127 (Nat.le_refl _) (Nat.le_refl _) ?_
                exact FP.qJ ((if_neg c1).trans ((if_neg c2).trans ((if_pos c3).trans ((if_pos c5).trans ((if_pos c6).trans ((if_neg c7).trans ((if_neg c9).trans ((bd_eq er10).trans ((bd_eq er11).trans (rfl))))))))))
              · refine aw_aload_n hC 0 dX11_copy_100 rfl rfl ?_
                refine aw_iconst (v := 2) hC dX11_copy_101 (by decide) ?_
                refine aw_cV1r hC hSt (t_X11_found G l hM _) w_707 w_714 w_715 w_716 w_517 rfl rfl (by decide +kernel) ⟨Nat.le_of_ble_eq_true rfl, Nat.le_of_ble_eq_true rfl⟩ (cs_lt 0 11 0 (by decide) hM) (cs_k 0 11 0 (by decide) hM) rfl (Nat.le_of_ble_eq_true rfl) dX11_copy_102 ⟨Nat.zero_le _, Nat.zero_le _⟩ ?_
                generalize er12 : f_X11_found S 0 (2 : Int32) = r12
                have hM : CS r12.2 := CS.of (by rw [← er12]; exact q_X11_found _ _ _) hM
                refine aw_lret hC dX11_copy_105 (Nat.le_refl _) (Nat.le_refl _) ?_
                exact FP.qJ ((if_neg c1).trans ((if_neg c2).trans ((if_pos c3).trans ((if_pos c5).trans ((if_pos c6).trans ((if_neg c7).trans ((if_pos c9).trans ((bd_eq er12).trans (rfl)))))))))
          · refine aw_aload_n hC 0 dX11_copy_65 rfl rfl ?_
            refine aw_iconst (v := 5) hC dX11_copy_66 (by decide) ?_
            refine aw_cV1r hC hSt (t_X11_found G l hM _) w_707 w_714 w_715 w_716 w_517 rfl rfl (by decide +kernel) ⟨Nat.le_of_ble_eq_true rfl, Nat.le_of_ble_eq_true rfl⟩ (cs_lt 0 11 0 (by decide) hM) (cs_k 0 11 0 (by decide) hM) rfl (Nat.le_of_ble_eq_true rfl) dX11_copy_67 ⟨Nat.zero_le _, Nat.zero_le _⟩ ?_
            generalize er13 : f_X11_found S 0 (5 : Int32) = r13
            have hM : CS r13.2 := CS.of (by rw [← er13]; exact q_X11_found _ _ _) hM
            refine aw_lret hC dX11_copy_70 (Nat.le_refl _) (Nat.le_refl _) ?_
            exact FP.qJ ((if_neg c1).trans ((if_neg c2).trans ((if_pos c3).trans ((if_pos c5).trans ((if_neg c6).trans ((bd_eq er13).trans (rfl)))))))
        · refine aw_aload_n hC 0 dX11_copy_40 rfl rfl ?_
          refine aw_iconst (v := 1) hC dX11_copy_41 (by decide) ?_
          refine aw_cV1r hC hSt (t_X11_found G l hM _) w_707 w_714 w_715 w_716 w_517 rfl rfl (by decide +kernel) ⟨Nat.le_of_ble_eq_true rfl, Nat.le_of_ble_eq_true rfl⟩ (cs_lt 0 11 0 (by decide) hM) (cs_k 0 11 0 (by decide) hM) rfl (Nat.le_of_ble_eq_true rfl) dX11_copy_42 ⟨Nat.zero_le _, Nat.zero_le _⟩ ?_
          generalize er14 : f_X11_found S 0 (1 : Int32) = r14
          have hM : CS r14.2 := CS.of (by rw [← er14]; exact q_X11_found _ _ _) hM
          refine aw_lret hC dX11_copy_45 (Nat.le_refl _) (Nat.le_refl _) ?_
          exact FP.qJ ((if_neg c1).trans ((if_neg c2).trans ((if_pos c3).trans ((if_neg c5).trans ((bd_eq er14).trans (rfl))))))
    · refine aw_ldc2 (v := -9000000000000000001) hC w_710 dX11_copy_14 ?_
      refine aw_lret hC dX11_copy_17 (Nat.le_refl _) (Nat.le_refl _) ?_
      exact FP.qJ ((if_neg c1).trans ((if_pos c2).trans (rfl)))
theorem q_X11_copy (S : HSt) (_o0 : Nat) (a1 : Int32) (a2 : Int32) (a3 : Int32) (a4 : Int32) (a5 : Int32) : shp ((f_X11_copy S _o0 a1 a2 a3 a4 a5).2) = shp S := by
  unfold f_X11_copy
  repeat' (first | with_reducible refine shpr1 ?_ | with_reducible rfl | with_reducible refine (q_X11_fine _ _ _).trans ?_ | with_reducible refine (q_X11_found _ _ _).trans ?_ | with_reducible refine (q_X5_carry _ _ _ _ _ _ _).trans ?_ | with_reducible refine (shp_sI _ _ _ _).trans ?_ | with_reducible refine (shp_sJ _ _ _ _).trans ?_ | with_reducible refine (shp_rI _ _ _).trans ?_ | with_reducible refine shi ?_ ?_ | with_reducible refine shb (fun _ _ => ?_) | with_reducible refine shiP (fun q : Int64 × HSt => q.2) ?_ ?_ | with_reducible refine shbP (fun q : Int64 × HSt => q.2) (fun _ _ => ?_) | (subst_vars; with_reducible rfl) | (subst_vars; with_reducible refine (q_X11_fine _ _ _).trans ?_) | (subst_vars; with_reducible refine (q_X11_found _ _ _).trans ?_) | (subst_vars; with_reducible refine (q_X5_carry _ _ _ _ _ _ _).trans ?_) | (subst_vars; with_reducible refine (shp_sI _ _ _ _).trans ?_) | (subst_vars; with_reducible refine (shp_sJ _ _ _ _).trans ?_) | (subst_vars; with_reducible refine (shp_rI _ _ _).trans ?_) | (subst_vars; with_reducible refine shi ?_ ?_) | (subst_vars; with_reducible refine shb (fun _ _ => ?_)))
noncomputable def f_X11_image (S : HSt) (_o0 : Nat) (a1 : Int32) : Int64 × HSt := if (f_X11_within S a1 (0 : Int32) (1 : Int32)) = 0 then (pr ((-9000000000000000001 : Int64)) (S)) else (if (gI S 18 2) = 0 then (pr ((-9000000000000000002 : Int64)) (S)) else (bd (f_X7_copyFrom S (24 + 5 * a1.toNatClampNeg) 18) fun r3 => pr ((1 : Int64)) (r3)))
def p_X11_image (S : HSt) (_o0 : Nat) (a1 : Int32) : Prop := ((¬ (f_X11_within S a1 (0 : Int32) (1 : Int32)) = 0) → (¬ (gI S 18 2) = 0) → vp_in a1 2) ∧ ((¬ (f_X11_within S a1 (0 : Int32) (1 : Int32)) = 0) → (¬ (gI S 18 2) = 0) → p_X7_copyFrom S (24 + 5 * a1.toNatClampNeg) 18)
set_option maxRecDepth 100000 in
theorem t_X11_image (G : GG) (l : Launch) {S : HSt} (hM : CS S) (a1 : Int32)  (hp : p_X11_image S 0 a1) : AM G l yX11_image cX11_image 2 (some .long) (rmD 3 0 0) 0 0 [.ref 0, .int a1] S (FP (some (.long (f_X11_image S 0 a1).1)) ((f_X11_image S 0 a1).2)) := by
  obtain ⟨h0, h1⟩ := hp
  refine AM.mk (by decide) (Nat.le_of_ble_eq_true rfl) ?_
  intro p e s m below meth c hC hSt _
  refine aw_iload_n hC 1 dX11_image_0 rfl rfl ?_
  refine aw_iconst (v := 0) hC dX11_image_1 (by decide) ?_
  refine aw_iconst (v := 1) hC dX11_image_2 (by decide) ?_
  refine aw_cS3r hC hSt (t_X11_within G l  _ _ _) w_706 w_712 w_713 w_517 rfl rfl (by decide +kernel) ⟨Nat.le_of_ble_eq_true rfl, Nat.le_of_ble_eq_true rfl⟩ (Nat.le_of_ble_eq_true rfl) dX11_image_3 ⟨Nat.zero_le _, Nat.zero_le _⟩ ?_
  refine aw_if_ne hC 13 dX11_image_6 (by decide) (fun c1 => ?_) (fun c1 => ?_)
  · refine aw_aload_n hC 0 dX11_image_13 rfl rfl ?_
    refine aw_getP (b := 18) hC hSt 2 (cs_lt 0 11 0 (by decide) hM) (cs_k 0 11 0 (by decide) hM) rfl (by decide) w_678 rfl (cs_p 0 2 18 (by decide) hM) dX11_image_14 ?_
    refine aw_getI hC hSt 2 (cs_lt 18 7 0 (by decide) hM) (cs_k 18 7 0 (by decide) hM) rfl (by decide) w_783 rfl dX11_image_17 ?_
    refine aw_if_ne hC 27 dX11_image_20 (by decide) (fun c2 => ?_) (fun c2 => ?_)
    · refine aw_aload_n hC 0 dX11_image_27 rfl rfl ?_
      refine aw_getP (b := 23) hC hSt 3 (cs_lt 0 11 0 (by decide) hM) (cs_k 0 11 0 (by decide) hM) rfl (by decide) w_679 rfl (cs_p 0 3 23 (by decide) hM) dX11_image_28 ?_
      refine aw_iload_n hC 1 dX11_image_31 rfl rfl ?_
      refine aw_aaldS hC hSt (cs_lt 23 18 2 (by decide) hM) (cs_k 23 18 2 (by decide) hM) (vp_len (n := 2) (cs_l 23 18 2 (by decide) hM) (h0 c1 c2)) (cs_p 23 a1.toNatClampNeg (24 + 5 * a1.toNatClampNeg) (ar_p23 (h0 c1 c2)) hM) dX11_image_32 ?_
      refine aw_aload_n hC 0 dX11_image_33 rfl rfl ?_
      refine aw_getP (b := 18) hC hSt 2 (cs_lt 0 11 0 (by decide) hM) (cs_k 0 11 0 (by decide) hM) rfl (by decide) w_678 rfl (cs_p 0 2 18 (by decide) hM) dX11_image_34 ?_
      refine aw_cV1v hC hSt (t_X7_copyFrom G l hM _ _ (ar_m23 (h0 c1 c2)) (by decide) (h1 c1 c2)) w_599 w_885 w_886 w_887 w_114 rfl rfl (by decide +kernel) ⟨Nat.le_of_ble_eq_true rfl, Nat.le_of_ble_eq_true rfl⟩ (cs_lt (24 + 5 * a1.toNatClampNeg) 7 0 (ar_m23 (h0 c1 c2)) hM) (cs_k (24 + 5 * a1.toNatClampNeg) 7 0 (ar_m23 (h0 c1 c2)) hM) rfl (Nat.le_of_ble_eq_true rfl) dX11_image_37 ⟨Nat.zero_le _, Nat.zero_le _⟩ ?_
      generalize er3 : f_X7_copyFrom S (24 + 5 * a1.toNatClampNeg) 18 = r3
      have hM : CS r3 := CS.of (by rw [← er3]; exact q_X7_copyFrom _ _ _) hM
      refine aw_lconst (v := 1) hC dX11_image_40 (by decide) ?_
      refine aw_lret hC dX11_image_41 (Nat.le_refl _) (Nat.le_refl _) ?_
      exact FP.qJ ((if_neg c1).trans ((if_neg c2).trans ((bd_eq er3).trans (rfl))))
    · refine aw_ldc2 (v := -9000000000000000002) hC w_785 dX11_image_23 ?_
      refine aw_lret hC dX11_image_26 (Nat.le_refl _) (Nat.le_refl _) ?_
      exact FP.qJ ((if_neg c1).trans ((if_pos c2).trans (rfl)))
  · refine aw_ldc2 (v := -9000000000000000001) hC w_710 dX11_image_9 ?_
    refine aw_lret hC dX11_image_12 (Nat.le_refl _) (Nat.le_refl _) ?_
    exact FP.qJ ((if_pos c1).trans (rfl))
theorem q_X11_image (S : HSt) (_o0 : Nat) (a1 : Int32) : shp ((f_X11_image S _o0 a1).2) = shp S := by
  unfold f_X11_image
  repeat' (first | with_reducible refine shpr1 ?_ | with_reducible rfl | with_reducible refine (q_X7_copyFrom _ _ _).trans ?_ | with_reducible refine (shp_sI _ _ _ _).trans ?_ | with_reducible refine (shp_sJ _ _ _ _).trans ?_ | with_reducible refine (shp_rI _ _ _).trans ?_ | with_reducible refine shi ?_ ?_ | with_reducible refine shb (fun _ _ => ?_) | with_reducible refine shiP (fun q : Int64 × HSt => q.2) ?_ ?_ | with_reducible refine shbP (fun q : Int64 × HSt => q.2) (fun _ _ => ?_) | (subst_vars; with_reducible rfl) | (subst_vars; with_reducible refine (q_X7_copyFrom _ _ _).trans ?_) | (subst_vars; with_reducible refine (shp_sI _ _ _ _).trans ?_) | (subst_vars; with_reducible refine (shp_sJ _ _ _ _).trans ?_) | (subst_vars; with_reducible refine (shp_rI _ _ _).trans ?_) | (subst_vars; with_reducible refine shi ?_ ?_) | (subst_vars; with_reducible refine shb (fun _ _ => ?_)))
noncomputable def f_X11_restore (S : HSt) (_o0 : Nat) (a1 : Int32) : Int64 × HSt := if (f_X11_within S a1 (0 : Int32) (1 : Int32)) = 0 then (pr ((-9000000000000000001 : Int64)) (S)) else (if (gI S (24 + 5 * a1.toNatClampNeg) 2) = 0 then (pr ((-9000000000000000002 : Int64)) (S)) else (bd (f_X7_copyFrom S 18 (24 + 5 * a1.toNatClampNeg)) fun r3 => pr ((1 : Int64)) (r3)))
def p_X11_restore (S : HSt) (_o0 : Nat) (a1 : Int32) : Prop := ((¬ (f_X11_within S a1 (0 : Int32) (1 : Int32)) = 0) → vp_in a1 2) ∧ ((¬ (f_X11_within S a1 (0 : Int32) (1 : Int32)) = 0) → (¬ (gI S (24 + 5 * a1.toNatClampNeg) 2) = 0) → vp_in a1 2) ∧ ((¬ (f_X11_within S a1 (0 : Int32) (1 : Int32)) = 0) → (¬ (gI S (24 + 5 * a1.toNatClampNeg) 2) = 0) → p_X7_copyFrom S 18 (24 + 5 * a1.toNatClampNeg))
set_option maxRecDepth 100000 in
theorem t_X11_restore (G : GG) (l : Launch) {S : HSt} (hM : CS S) (a1 : Int32)  (hp : p_X11_restore S 0 a1) : AM G l yX11_restore cX11_restore 2 (some .long) (rmD 3 0 0) 0 0 [.ref 0, .int a1] S (FP (some (.long (f_X11_restore S 0 a1).1)) ((f_X11_restore S 0 a1).2)) := by
  obtain ⟨h0, h1, h2⟩ := hp
  refine AM.mk (by decide) (Nat.le_of_ble_eq_true rfl) ?_
  intro p e s m below meth c hC hSt _
  refine aw_iload_n hC 1 dX11_restore_0 rfl rfl ?_
  refine aw_iconst (v := 0) hC dX11_restore_1 (by decide) ?_
  refine aw_iconst (v := 1) hC dX11_restore_2 (by decide) ?_
  refine aw_cS3r hC hSt (t_X11_within G l  _ _ _) w_706 w_712 w_713 w_517 rfl rfl (by decide +kernel) ⟨Nat.le_of_ble_eq_true rfl, Nat.le_of_ble_eq_true rfl⟩ (Nat.le_of_ble_eq_true rfl) dX11_restore_3 ⟨Nat.zero_le _, Nat.zero_le _⟩ ?_
  refine aw_if_ne hC 13 dX11_restore_6 (by decide) (fun c1 => ?_) (fun c1 => ?_)
  · refine aw_aload_n hC 0 dX11_restore_13 rfl rfl ?_
    refine aw_getP (b := 23) hC hSt 3 (cs_lt 0 11 0 (by decide) hM) (cs_k 0 11 0 (by decide) hM) rfl (by decide) w_679 rfl (cs_p 0 3 23 (by decide) hM) dX11_restore_14 ?_
    refine aw_iload_n hC 1 dX11_restore_17 rfl rfl ?_
    refine aw_aaldS hC hSt (cs_lt 23 18 2 (by decide) hM) (cs_k 23 18 2 (by decide) hM) (vp_len (n := 2) (cs_l 23 18 2 (by decide) hM) (h0 c1)) (cs_p 23 a1.toNatClampNeg (24 + 5 * a1.toNatClampNeg) (ar_p23 (h0 c1)) hM) dX11_restore_18 ?_
    refine aw_getI hC hSt 2 (cs_lt (24 + 5 * a1.toNatClampNeg) 7 0 (ar_m23 (h0 c1)) hM) (cs_k (24 + 5 * a1.toNatClampNeg) 7 0 (ar_m23 (h0 c1)) hM) rfl (by decide) w_783 rfl dX11_restore_19 ?_
    refine aw_if_ne hC 29 dX11_restore_22 (by decide) (fun c2 => ?_) (fun c2 => ?_)
    · refine aw_aload_n hC 0 dX11_restore_29 rfl rfl ?_
      refine aw_getP (b := 18) hC hSt 2 (cs_lt 0 11 0 (by decide) hM) (cs_k 0 11 0 (by decide) hM) rfl (by decide) w_678 rfl (cs_p 0 2 18 (by decide) hM) dX11_restore_30 ?_
      refine aw_aload_n hC 0 dX11_restore_33 rfl rfl ?_
      refine aw_getP (b := 23) hC hSt 3 (cs_lt 0 11 0 (by decide) hM) (cs_k 0 11 0 (by decide) hM) rfl (by decide) w_679 rfl (cs_p 0 3 23 (by decide) hM) dX11_restore_34 ?_
      refine aw_iload_n hC 1 dX11_restore_37 rfl rfl ?_
      refine aw_aaldS hC hSt (cs_lt 23 18 2 (by decide) hM) (cs_k 23 18 2 (by decide) hM) (vp_len (n := 2) (cs_l 23 18 2 (by decide) hM) (h1 c1 c2)) (cs_p 23 a1.toNatClampNeg (24 + 5 * a1.toNatClampNeg) (ar_p23 (h1 c1 c2)) hM) dX11_restore_38 ?_
      refine aw_cV1v hC hSt (t_X7_copyFrom G l hM _ _ (by decide) (ar_m23 (h1 c1 c2)) (h2 c1 c2)) w_599 w_885 w_886 w_887 w_114 rfl rfl (by decide +kernel) ⟨Nat.le_of_ble_eq_true rfl, Nat.le_of_ble_eq_true rfl⟩ (cs_lt 18 7 0 (by decide) hM) (cs_k 18 7 0 (by decide) hM) rfl (Nat.le_of_ble_eq_true rfl) dX11_restore_39 ⟨Nat.zero_le _, Nat.zero_le _⟩ ?_
      generalize er3 : f_X7_copyFrom S 18 (24 + 5 * a1.toNatClampNeg) = r3
      have hM : CS r3 := CS.of (by rw [← er3]; exact q_X7_copyFrom _ _ _) hM
      refine aw_lconst (v := 1) hC dX11_restore_42 (by decide) ?_
      refine aw_lret hC dX11_restore_43 (Nat.le_refl _) (Nat.le_refl _) ?_
      exact FP.qJ ((if_neg c1).trans ((if_neg c2).trans ((bd_eq er3).trans (rfl))))
    · refine aw_ldc2 (v := -9000000000000000002) hC w_785 dX11_restore_25 ?_
      refine aw_lret hC dX11_restore_28 (Nat.le_refl _) (Nat.le_refl _) ?_
      exact FP.qJ ((if_neg c1).trans ((if_pos c2).trans (rfl)))
  · refine aw_ldc2 (v := -9000000000000000001) hC w_710 dX11_restore_9 ?_
    refine aw_lret hC dX11_restore_12 (Nat.le_refl _) (Nat.le_refl _) ?_
    exact FP.qJ ((if_pos c1).trans (rfl))
theorem q_X11_restore (S : HSt) (_o0 : Nat) (a1 : Int32) : shp ((f_X11_restore S _o0 a1).2) = shp S := by
  unfold f_X11_restore
  repeat' (first | with_reducible refine shpr1 ?_ | with_reducible rfl | with_reducible refine (q_X7_copyFrom _ _ _).trans ?_ | with_reducible refine (shp_sI _ _ _ _).trans ?_ | with_reducible refine (shp_sJ _ _ _ _).trans ?_ | with_reducible refine (shp_rI _ _ _).trans ?_ | with_reducible refine shi ?_ ?_ | with_reducible refine shb (fun _ _ => ?_) | with_reducible refine shiP (fun q : Int64 × HSt => q.2) ?_ ?_ | with_reducible refine shbP (fun q : Int64 × HSt => q.2) (fun _ _ => ?_) | (subst_vars; with_reducible rfl) | (subst_vars; with_reducible refine (q_X7_copyFrom _ _ _).trans ?_) | (subst_vars; with_reducible refine (shp_sI _ _ _ _).trans ?_) | (subst_vars; with_reducible refine (shp_sJ _ _ _ _).trans ?_) | (subst_vars; with_reducible refine (shp_rI _ _ _).trans ?_) | (subst_vars; with_reducible refine shi ?_ ?_) | (subst_vars; with_reducible refine shb (fun _ _ => ?_)))
theorem v_X11_restore (S : HSt) (_o0 : Nat) (a1 : Int32) : Fr [(((18 + 1) + 1), 1000), (((18 + 1) + 2), 1000), (18, 2), (18, 3), (18, 4), (18, 5), (18, 6), (18, 7), (18, 8), (18, 9), (22, 0), (22, 1), (22, 2), (22, 3), (22, 4), (22, 5), (22, 6)] S ((f_X11_restore S _o0 a1).2) := by
  unfold f_X11_restore
  repeat' (first | with_reducible refine frpr1 ?_ | with_reducible exact Fr.refl _ _ | with_reducible refine Fr.lP (fun q : Int64 × HSt => q.2) (fun _ _ => ?_) | with_reducible refine Fr.iteP (fun q : Int64 × HSt => q.2) ?_ ?_ | with_reducible refine Fr.l1 (fun _ _ => ?_) | with_reducible refine Fr.ite ?_ ?_ | with_reducible refine Fr.sE (by assumption) (by first | decide | simp only [List.mem_cons, List.not_mem_nil, or_false, true_or, or_true, eq_self_iff_true]) ?_ | with_reducible refine Fr.jE (by assumption) ?_ | with_reducible refine Fr.rE (by assumption) (by first | decide | simp only [List.mem_cons, List.not_mem_nil, or_false, true_or, or_true, eq_self_iff_true]) ?_ | with_reducible refine Fr.iE (by assumption) ?_ ?_ | with_reducible refine Fr.tr (w_X7_copyFrom _ _ _ _ (by assumption)) (by first | decide | simp only [List.mem_cons, List.not_mem_nil, or_false, forall_eq_or_imp, forall_eq, true_or, or_true, and_self, eq_self_iff_true]) ?_)
theorem w_X11_restore (S : HSt) (_o0 : Nat) (a1 : Int32) (r : Int64 × HSt) (e : f_X11_restore S _o0 a1 = r) : Fr [(((18 + 1) + 1), 1000), (((18 + 1) + 2), 1000), (18, 2), (18, 3), (18, 4), (18, 5), (18, 6), (18, 7), (18, 8), (18, 9), (22, 0), (22, 1), (22, 2), (22, 3), (22, 4), (22, 5), (22, 6)] S r.2 := by
  rw [← e]
  exact v_X11_restore S _o0 a1
noncomputable def f_X11_set (S : HSt) (_o0 : Nat) (a1 : Int32) (a2 : Int32) (a3 : Int32) : Int64 × HSt := if (f_X5_isRow S a1) = 0 then (pr ((-9000000000000000001 : Int64)) (S)) else (if (f_X5_isMissing S 1 a1) = 0 then (if (f_X5_hasPlaces S 1 a1 a2 (1 : Int32)) = 0 then (bd (f_X11_found S 0 (2 : Int32)) fun r6 => pr (r6.1) (r6.2)) else (bd (f_X5_put S 1 a1 a2 a3) fun r4 => bd (f_X11_fine r4.2 0 r4.1.toInt64) fun r5 => pr (r5.1) (r5.2))) else (bd (f_X11_found S 0 (1 : Int32)) fun r7 => pr (r7.1) (r7.2)))
def p_X11_set (S : HSt) (_o0 : Nat) (a1 : Int32) (a2 : Int32) (a3 : Int32) : Prop := ((¬ (f_X5_isRow S a1) = 0) → p_X5_isMissing S 1 a1) ∧ ((¬ (f_X5_isRow S a1) = 0) → ((f_X5_isMissing S 1 a1) = 0) → p_X5_hasPlaces S 1 a1 a2 (1 : Int32)) ∧ ((¬ (f_X5_isRow S a1) = 0) → ((f_X5_isMissing S 1 a1) = 0) → (¬ (f_X5_hasPlaces S 1 a1 a2 (1 : Int32)) = 0) → p_X5_put S 1 a1 a2 a3)
set_option maxRecDepth 100000 in
theorem t_X11_set (G : GG) (l : Launch) {S : HSt} (hM : CS S) (a1 : Int32) (a2 : Int32) (a3 : Int32)  (hp : p_X11_set S 0 a1 a2 a3) : AM G l yX11_set cX11_set 4 (some .long) (rmD 4 0 0) 0 0 [.ref 0, .int a1, .int a2, .int a3] S (FP (some (.long (f_X11_set S 0 a1 a2 a3).1)) ((f_X11_set S 0 a1 a2 a3).2)) := by
  obtain ⟨h0, h1, h2⟩ := hp
  refine AM.mk (by decide) (Nat.le_of_ble_eq_true rfl) ?_
  intro p e s m below meth c hC hSt _
  refine aw_iload_n hC 1 dX11_set_0 rfl rfl ?_
  refine aw_cS1r hC hSt (t_X5_isRow G l  _) w_469 w_711 w_472 w_473 rfl rfl (by decide +kernel) ⟨Nat.le_of_ble_eq_true rfl, Nat.le_of_ble_eq_true rfl⟩ (Nat.le_of_ble_eq_true rfl) dX11_set_1 ⟨Nat.zero_le _, Nat.zero_le _⟩ ?_
  refine aw_if_ne hC 11 dX11_set_4 (by decide) (fun c1 => ?_) (fun c1 => ?_)
  · refine aw_aload_n hC 0 dX11_set_11 rfl rfl ?_
    refine aw_getP (b := 1) hC hSt 0 (cs_lt 0 11 0 (by decide) hM) (cs_k 0 11 0 (by decide) hM) rfl (by decide) w_672 rfl (cs_p 0 0 1 (by decide) hM) dX11_set_12 ?_
    refine aw_iload_n hC 1 dX11_set_15 rfl rfl ?_
    refine aw_cV1r hC hSt (t_X5_isMissing G l hM _ (h0 c1)) w_470 w_724 w_478 w_479 w_473 rfl rfl (by decide +kernel) ⟨Nat.le_of_ble_eq_true rfl, Nat.le_of_ble_eq_true rfl⟩ (cs_lt 1 5 0 (by decide) hM) (cs_k 1 5 0 (by decide) hM) rfl (Nat.le_of_ble_eq_true rfl) dX11_set_16 ⟨Nat.zero_le _, Nat.zero_le _⟩ ?_
    refine aw_if_eq hC 28 dX11_set_19 (by decide) (fun c2 => ?_) (fun c2 => ?_)
    · refine aw_aload_n hC 0 dX11_set_28 rfl rfl ?_
      refine aw_getP (b := 1) hC hSt 0 (cs_lt 0 11 0 (by decide) hM) (cs_k 0 11 0 (by decide) hM) rfl (by decide) w_672 rfl (cs_p 0 0 1 (by decide) hM) dX11_set_29 ?_
      refine aw_iload_n hC 1 dX11_set_32 rfl rfl ?_
      refine aw_iload_n hC 2 dX11_set_33 rfl rfl ?_
      refine aw_iconst (v := 1) hC dX11_set_34 (by decide) ?_
      refine aw_cV3r hC hSt (t_X5_hasPlaces G l hM _ _ _ (h1 c1 c2)) w_476 w_725 w_483 w_484 w_473 rfl rfl (by decide +kernel) ⟨Nat.le_of_ble_eq_true rfl, Nat.le_of_ble_eq_true rfl⟩ (cs_lt 1 5 0 (by decide) hM) (cs_k 1 5 0 (by decide) hM) rfl (Nat.le_of_ble_eq_true rfl) dX11_set_35 ⟨Nat.zero_le _, Nat.zero_le _⟩ ?_
      refine aw_if_ne hC 47 dX11_set_38 (by decide) (fun c3 => ?_) (fun c3 => ?_)
      · refine aw_aload_n hC 0 dX11_set_47 rfl rfl ?_
        refine aw_aload_n hC 0 dX11_set_48 rfl rfl ?_
        refine aw_getP (b := 1) hC hSt 0 (cs_lt 0 11 0 (by decide) hM) (cs_k 0 11 0 (by decide) hM) rfl (by decide) w_672 rfl (cs_p 0 0 1 (by decide) hM) dX11_set_49 ?_
        refine aw_iload_n hC 1 dX11_set_52 rfl rfl ?_
        refine aw_iload_n hC 2 dX11_set_53 rfl rfl ?_
        refine aw_iload_n hC 3 dX11_set_54 rfl rfl ?_
        refine aw_cV3r hC hSt (t_X5_put G l hM _ _ _ (h2 c1 c2 c3)) w_481 w_726 w_727 w_728 w_473 rfl rfl (by decide +kernel) ⟨Nat.le_of_ble_eq_true rfl, Nat.le_of_ble_eq_true rfl⟩ (cs_lt 1 5 0 (by decide) hM) (cs_k 1 5 0 (by decide) hM) rfl (Nat.le_of_ble_eq_true rfl) dX11_set_55 ⟨Nat.zero_le _, Nat.zero_le _⟩ ?_
        generalize er4 : f_X5_put S 1 a1 a2 a3 = r4
        have hM : CS r4.2 := CS.of (by rw [← er4]; exact q_X5_put _ _ _ _ _) hM
        refine aw_i2l hC dX11_set_58 ?_
        refine aw_cV1r hC hSt (t_X11_fine G l hM _) w_709 w_720 w_721 w_722 w_517 rfl rfl (by decide +kernel) ⟨Nat.le_of_ble_eq_true rfl, Nat.le_of_ble_eq_true rfl⟩ (cs_lt 0 11 0 (by decide) hM) (cs_k 0 11 0 (by decide) hM) rfl (Nat.le_of_ble_eq_true rfl) dX11_set_59 ⟨Nat.zero_le _, Nat.zero_le _⟩ ?_
        generalize er5 : f_X11_fine r4.2 0 r4.1.toInt64 = r5
        have hM : CS r5.2 := CS.of (by rw [← er5]; exact q_X11_fine _ _ _) hM
        refine aw_lret hC dX11_set_62 (Nat.le_refl _) (Nat.le_refl _) ?_
        exact FP.qJ ((if_neg c1).trans ((if_pos c2).trans ((if_neg c3).trans ((bd_eq er4).trans ((bd_eq er5).trans (rfl))))))
      · refine aw_aload_n hC 0 dX11_set_41 rfl rfl ?_
        refine aw_iconst (v := 2) hC dX11_set_42 (by decide) ?_
        refine aw_cV1r hC hSt (t_X11_found G l hM _) w_707 w_714 w_715 w_716 w_517 rfl rfl (by decide +kernel) ⟨Nat.le_of_ble_eq_true rfl, Nat.le_of_ble_eq_true rfl⟩ (cs_lt 0 11 0 (by decide) hM) (cs_k 0 11 0 (by decide) hM) rfl (Nat.le_of_ble_eq_true rfl) dX11_set_43 ⟨Nat.zero_le _, Nat.zero_le _⟩ ?_
        generalize er6 : f_X11_found S 0 (2 : Int32) = r6
        have hM : CS r6.2 := CS.of (by rw [← er6]; exact q_X11_found _ _ _) hM
        refine aw_lret hC dX11_set_46 (Nat.le_refl _) (Nat.le_refl _) ?_
        exact FP.qJ ((if_neg c1).trans ((if_pos c2).trans ((if_pos c3).trans ((bd_eq er6).trans (rfl)))))
    · refine aw_aload_n hC 0 dX11_set_22 rfl rfl ?_
      refine aw_iconst (v := 1) hC dX11_set_23 (by decide) ?_
      refine aw_cV1r hC hSt (t_X11_found G l hM _) w_707 w_714 w_715 w_716 w_517 rfl rfl (by decide +kernel) ⟨Nat.le_of_ble_eq_true rfl, Nat.le_of_ble_eq_true rfl⟩ (cs_lt 0 11 0 (by decide) hM) (cs_k 0 11 0 (by decide) hM) rfl (Nat.le_of_ble_eq_true rfl) dX11_set_24 ⟨Nat.zero_le _, Nat.zero_le _⟩ ?_
      generalize er7 : f_X11_found S 0 (1 : Int32) = r7
      have hM : CS r7.2 := CS.of (by rw [← er7]; exact q_X11_found _ _ _) hM
      refine aw_lret hC dX11_set_27 (Nat.le_refl _) (Nat.le_refl _) ?_
      exact FP.qJ ((if_neg c1).trans ((if_neg c2).trans ((bd_eq er7).trans (rfl))))
  · refine aw_ldc2 (v := -9000000000000000001) hC w_710 dX11_set_7 ?_
    refine aw_lret hC dX11_set_10 (Nat.le_refl _) (Nat.le_refl _) ?_
    exact FP.qJ ((if_pos c1).trans (rfl))
theorem q_X11_set (S : HSt) (_o0 : Nat) (a1 : Int32) (a2 : Int32) (a3 : Int32) : shp ((f_X11_set S _o0 a1 a2 a3).2) = shp S := by
  unfold f_X11_set
  repeat' (first | with_reducible refine shpr1 ?_ | with_reducible rfl | with_reducible refine (q_X11_fine _ _ _).trans ?_ | with_reducible refine (q_X11_found _ _ _).trans ?_ | with_reducible refine (q_X5_put _ _ _ _ _).trans ?_ | with_reducible refine (shp_sI _ _ _ _).trans ?_ | with_reducible refine (shp_sJ _ _ _ _).trans ?_ | with_reducible refine (shp_rI _ _ _).trans ?_ | with_reducible refine shi ?_ ?_ | with_reducible refine shb (fun _ _ => ?_) | with_reducible refine shiP (fun q : Int64 × HSt => q.2) ?_ ?_ | with_reducible refine shbP (fun q : Int64 × HSt => q.2) (fun _ _ => ?_) | (subst_vars; with_reducible rfl) | (subst_vars; with_reducible refine (q_X11_fine _ _ _).trans ?_) | (subst_vars; with_reducible refine (q_X11_found _ _ _).trans ?_) | (subst_vars; with_reducible refine (q_X5_put _ _ _ _ _).trans ?_) | (subst_vars; with_reducible refine (shp_sI _ _ _ _).trans ?_) | (subst_vars; with_reducible refine (shp_sJ _ _ _ _).trans ?_) | (subst_vars; with_reducible refine (shp_rI _ _ _).trans ?_) | (subst_vars; with_reducible refine shi ?_ ?_) | (subst_vars; with_reducible refine shb (fun _ _ => ?_)))
noncomputable def f_X11_drop (S : HSt) (_o0 : Nat) (a1 : Int32) : Int64 × HSt := if (f_X5_isRow S a1) = 0 then (pr ((-9000000000000000001 : Int64)) (S)) else (if (f_X5_isMissing S 1 a1) = 0 then (bd (f_X5_remove S 1 a1) fun r3 => bd (f_X11_fine r3.2 0 r3.1.toInt64) fun r4 => pr (r4.1) (r4.2)) else (bd (f_X11_found S 0 (1 : Int32)) fun r5 => pr (r5.1) (r5.2)))
def p_X11_drop (S : HSt) (_o0 : Nat) (a1 : Int32) : Prop := ((¬ (f_X5_isRow S a1) = 0) → p_X5_isMissing S 1 a1) ∧ ((¬ (f_X5_isRow S a1) = 0) → ((f_X5_isMissing S 1 a1) = 0) → p_X5_remove S 1 a1)
set_option maxRecDepth 100000 in
theorem t_X11_drop (G : GG) (l : Launch) {S : HSt} (hM : CS S) (a1 : Int32)  (hp : p_X11_drop S 0 a1) : AM G l yX11_drop cX11_drop 2 (some .long) (rmD 3 0 0) 0 0 [.ref 0, .int a1] S (FP (some (.long (f_X11_drop S 0 a1).1)) ((f_X11_drop S 0 a1).2)) := by
  obtain ⟨h0, h1⟩ := hp
  refine AM.mk (by decide) (Nat.le_of_ble_eq_true rfl) ?_
  intro p e s m below meth c hC hSt _
  refine aw_iload_n hC 1 dX11_drop_0 rfl rfl ?_
  refine aw_cS1r hC hSt (t_X5_isRow G l  _) w_469 w_711 w_472 w_473 rfl rfl (by decide +kernel) ⟨Nat.le_of_ble_eq_true rfl, Nat.le_of_ble_eq_true rfl⟩ (Nat.le_of_ble_eq_true rfl) dX11_drop_1 ⟨Nat.zero_le _, Nat.zero_le _⟩ ?_
  refine aw_if_ne hC 11 dX11_drop_4 (by decide) (fun c1 => ?_) (fun c1 => ?_)
  · refine aw_aload_n hC 0 dX11_drop_11 rfl rfl ?_
    refine aw_getP (b := 1) hC hSt 0 (cs_lt 0 11 0 (by decide) hM) (cs_k 0 11 0 (by decide) hM) rfl (by decide) w_672 rfl (cs_p 0 0 1 (by decide) hM) dX11_drop_12 ?_
    refine aw_iload_n hC 1 dX11_drop_15 rfl rfl ?_
    refine aw_cV1r hC hSt (t_X5_isMissing G l hM _ (h0 c1)) w_470 w_724 w_478 w_479 w_473 rfl rfl (by decide +kernel) ⟨Nat.le_of_ble_eq_true rfl, Nat.le_of_ble_eq_true rfl⟩ (cs_lt 1 5 0 (by decide) hM) (cs_k 1 5 0 (by decide) hM) rfl (Nat.le_of_ble_eq_true rfl) dX11_drop_16 ⟨Nat.zero_le _, Nat.zero_le _⟩ ?_
    refine aw_if_eq hC 28 dX11_drop_19 (by decide) (fun c2 => ?_) (fun c2 => ?_)
    · refine aw_aload_n hC 0 dX11_drop_28 rfl rfl ?_
      refine aw_aload_n hC 0 dX11_drop_29 rfl rfl ?_
      refine aw_getP (b := 1) hC hSt 0 (cs_lt 0 11 0 (by decide) hM) (cs_k 0 11 0 (by decide) hM) rfl (by decide) w_672 rfl (cs_p 0 0 1 (by decide) hM) dX11_drop_30 ?_
      refine aw_iload_n hC 1 dX11_drop_33 rfl rfl ?_
      refine aw_cV1r hC hSt (t_X5_remove G l hM _ (h1 c1 c2)) w_488 w_737 w_738 w_739 w_473 rfl rfl (by decide +kernel) ⟨Nat.le_of_ble_eq_true rfl, Nat.le_of_ble_eq_true rfl⟩ (cs_lt 1 5 0 (by decide) hM) (cs_k 1 5 0 (by decide) hM) rfl (Nat.le_of_ble_eq_true rfl) dX11_drop_34 ⟨Nat.zero_le _, Nat.zero_le _⟩ ?_
      generalize er3 : f_X5_remove S 1 a1 = r3
      have hM : CS r3.2 := CS.of (by rw [← er3]; exact q_X5_remove _ _ _) hM
      refine aw_i2l hC dX11_drop_37 ?_
      refine aw_cV1r hC hSt (t_X11_fine G l hM _) w_709 w_720 w_721 w_722 w_517 rfl rfl (by decide +kernel) ⟨Nat.le_of_ble_eq_true rfl, Nat.le_of_ble_eq_true rfl⟩ (cs_lt 0 11 0 (by decide) hM) (cs_k 0 11 0 (by decide) hM) rfl (Nat.le_of_ble_eq_true rfl) dX11_drop_38 ⟨Nat.zero_le _, Nat.zero_le _⟩ ?_
      generalize er4 : f_X11_fine r3.2 0 r3.1.toInt64 = r4
      have hM : CS r4.2 := CS.of (by rw [← er4]; exact q_X11_fine _ _ _) hM
      refine aw_lret hC dX11_drop_41 (Nat.le_refl _) (Nat.le_refl _) ?_
      exact FP.qJ ((if_neg c1).trans ((if_pos c2).trans ((bd_eq er3).trans ((bd_eq er4).trans (rfl)))))
    · refine aw_aload_n hC 0 dX11_drop_22 rfl rfl ?_
      refine aw_iconst (v := 1) hC dX11_drop_23 (by decide) ?_
      refine aw_cV1r hC hSt (t_X11_found G l hM _) w_707 w_714 w_715 w_716 w_517 rfl rfl (by decide +kernel) ⟨Nat.le_of_ble_eq_true rfl, Nat.le_of_ble_eq_true rfl⟩ (cs_lt 0 11 0 (by decide) hM) (cs_k 0 11 0 (by decide) hM) rfl (Nat.le_of_ble_eq_true rfl) dX11_drop_24 ⟨Nat.zero_le _, Nat.zero_le _⟩ ?_
      generalize er5 : f_X11_found S 0 (1 : Int32) = r5
      have hM : CS r5.2 := CS.of (by rw [← er5]; exact q_X11_found _ _ _) hM
      refine aw_lret hC dX11_drop_27 (Nat.le_refl _) (Nat.le_refl _) ?_
      exact FP.qJ ((if_neg c1).trans ((if_neg c2).trans ((bd_eq er5).trans (rfl))))
  · refine aw_ldc2 (v := -9000000000000000001) hC w_710 dX11_drop_7 ?_
    refine aw_lret hC dX11_drop_10 (Nat.le_refl _) (Nat.le_refl _) ?_
    exact FP.qJ ((if_pos c1).trans (rfl))
theorem q_X11_drop (S : HSt) (_o0 : Nat) (a1 : Int32) : shp ((f_X11_drop S _o0 a1).2) = shp S := by
  unfold f_X11_drop
  repeat' (first | with_reducible refine shpr1 ?_ | with_reducible rfl | with_reducible refine (q_X11_fine _ _ _).trans ?_ | with_reducible refine (q_X11_found _ _ _).trans ?_ | with_reducible refine (q_X5_remove _ _ _).trans ?_ | with_reducible refine (shp_sI _ _ _ _).trans ?_ | with_reducible refine (shp_sJ _ _ _ _).trans ?_ | with_reducible refine (shp_rI _ _ _).trans ?_ | with_reducible refine shi ?_ ?_ | with_reducible refine shb (fun _ _ => ?_) | with_reducible refine shiP (fun q : Int64 × HSt => q.2) ?_ ?_ | with_reducible refine shbP (fun q : Int64 × HSt => q.2) (fun _ _ => ?_) | (subst_vars; with_reducible rfl) | (subst_vars; with_reducible refine (q_X11_fine _ _ _).trans ?_) | (subst_vars; with_reducible refine (q_X11_found _ _ _).trans ?_) | (subst_vars; with_reducible refine (q_X5_remove _ _ _).trans ?_) | (subst_vars; with_reducible refine (shp_sI _ _ _ _).trans ?_) | (subst_vars; with_reducible refine (shp_sJ _ _ _ _).trans ?_) | (subst_vars; with_reducible refine (shp_rI _ _ _).trans ?_) | (subst_vars; with_reducible refine shi ?_ ?_) | (subst_vars; with_reducible refine shb (fun _ _ => ?_)))
theorem v_X11_drop (S : HSt) (_o0 : Nat) (a1 : Int32) : Fr [(0, 10), (12, 1000)] S ((f_X11_drop S _o0 a1).2) := by
  unfold f_X11_drop
  repeat' (first | with_reducible refine frpr1 ?_ | with_reducible exact Fr.refl _ _ | with_reducible refine Fr.lP (fun q : Int64 × HSt => q.2) (fun _ _ => ?_) | with_reducible refine Fr.iteP (fun q : Int64 × HSt => q.2) ?_ ?_ | with_reducible refine Fr.l1 (fun _ _ => ?_) | with_reducible refine Fr.ite ?_ ?_ | with_reducible refine Fr.sE (by assumption) (by first | decide | simp only [List.mem_cons, List.not_mem_nil, or_false, true_or, or_true, eq_self_iff_true]) ?_ | with_reducible refine Fr.jE (by assumption) ?_ | with_reducible refine Fr.rE (by assumption) (by first | decide | simp only [List.mem_cons, List.not_mem_nil, or_false, true_or, or_true, eq_self_iff_true]) ?_ | with_reducible refine Fr.iE (by assumption) ?_ ?_ | with_reducible refine Fr.tr (w_X11_fine _ _ _ _ (by assumption)) (by first | decide | simp only [List.mem_cons, List.not_mem_nil, or_false, forall_eq_or_imp, forall_eq, true_or, or_true, and_self, eq_self_iff_true]) ?_ | with_reducible refine Fr.tr (w_X11_found _ _ _ _ (by assumption)) (by first | decide | simp only [List.mem_cons, List.not_mem_nil, or_false, forall_eq_or_imp, forall_eq, true_or, or_true, and_self, eq_self_iff_true]) ?_ | with_reducible refine Fr.tr (w_X5_remove _ _ _ _ (by assumption)) (by first | decide | simp only [List.mem_cons, List.not_mem_nil, or_false, forall_eq_or_imp, forall_eq, true_or, or_true, and_self, eq_self_iff_true]) ?_)
theorem w_X11_drop (S : HSt) (_o0 : Nat) (a1 : Int32) (r : Int64 × HSt) (e : f_X11_drop S _o0 a1 = r) : Fr [(0, 10), (12, 1000)] S r.2 := by
  rw [← e]
  exact v_X11_drop S _o0 a1
noncomputable def f_X11_feed (S : HSt) (_o0 : Nat) (a1 : Int64) (a2 : Int32) : Int64 × HSt := if (f_X11_within S a2 (1 : Int32) (8 : Int32)) = 0 then (pr ((-9000000000000000001 : Int64)) (S)) else (bd (f_X4_append S 13 a1 a2) fun r2 => bd ((if r2.1 = 0 then (-9000000000000000003 : Int64) else (f_X4_bytes r2.2 13).toInt64)) fun x4 => pr (x4) (r2.2))
def p_X11_feed (S : HSt) (_o0 : Nat) (a1 : Int64) (a2 : Int32) : Prop := ((¬ (f_X11_within S a2 (1 : Int32) (8 : Int32)) = 0) → p_X4_append S 13 a1 a2)
set_option maxRecDepth 100000 in
theorem t_X11_feed (G : GG) (l : Launch) {S : HSt} (hM : CS S) (a1 : Int64) (a2 : Int32)  (hp : p_X11_feed S 0 a1 a2) : AM G l yX11_feed cX11_feed 4 (some .long) (rmD 1 0 0) 0 0 [.ref 0, .long a1, .int a2] S (FP (some (.long (f_X11_feed S 0 a1 a2).1)) ((f_X11_feed S 0 a1 a2).2)) := by
  have h0 := hp
  unfold p_X11_feed at h0
  refine AM.mk (by decide) (Nat.le_of_ble_eq_true rfl) ?_
  intro p e s m below meth c hC hSt _
  refine aw_iload_n hC 2 dX11_feed_0 rfl rfl ?_
  refine aw_iconst (v := 1) hC dX11_feed_1 (by decide) ?_
  refine aw_bipush (v := 8) hC dX11_feed_2 (by decide) ?_
  refine aw_cS3r hC hSt (t_X11_within G l  _ _ _) w_706 w_712 w_713 w_517 rfl rfl (by decide +kernel) ⟨Nat.le_of_ble_eq_true rfl, Nat.le_of_ble_eq_true rfl⟩ (Nat.le_of_ble_eq_true rfl) dX11_feed_4 ⟨Nat.zero_le _, Nat.zero_le _⟩ ?_
  refine aw_if_ne hC 14 dX11_feed_7 (by decide) (fun c1 => ?_) (fun c1 => ?_)
  · refine aw_aload_n hC 0 dX11_feed_14 rfl rfl ?_
    refine aw_getP (b := 13) hC hSt 1 (cs_lt 0 11 0 (by decide) hM) (cs_k 0 11 0 (by decide) hM) rfl (by decide) w_675 rfl (cs_p 0 1 13 (by decide) hM) dX11_feed_15 ?_
    refine aw_lload_n hC 1 dX11_feed_18 rfl rfl ?_
    refine aw_iload_n hC 2 dX11_feed_19 rfl rfl ?_
    refine aw_cV2r hC hSt (t_X4_append G l hM _ _ (h0 c1)) w_327 w_743 w_744 w_745 w_351 rfl rfl (by decide +kernel) ⟨Nat.le_of_ble_eq_true rfl, Nat.le_of_ble_eq_true rfl⟩ (cs_lt 13 4 0 (by decide) hM) (cs_k 13 4 0 (by decide) hM) rfl (Nat.le_of_ble_eq_true rfl) dX11_feed_20 ⟨Nat.zero_le _, Nat.zero_le _⟩ ?_
    generalize er2 : f_X4_append S 13 a1 a2 = r2
    have hM : CS r2.2 := CS.of (by rw [← er2]; exact q_X4_append _ _ _ _) hM
    refine aw_cut (S' := r2.2) (pc' := 40) (lv' := [(0, .ref 0), (1, .long a1), (3, .int a2)]) (st' := [.long (if r2.1 = 0 then (-9000000000000000003 : Int64) else (f_X4_bytes r2.2 13).toInt64)]) ?_ (fun Jc3 => ?_)
    · generalize ex4 : (if r2.1 = 0 then (-9000000000000000003 : Int64) else (f_X4_bytes r2.2 13).toInt64) = x4
      refine aw_lret hC dX11_feed_40 (Nat.le_refl _) (Nat.le_refl _) ?_
      exact FP.qJ ((if_neg c1).trans ((bd_eq er2).trans ((bd_eq ex4).trans (rfl))))
    · refine aw_if_eq hC 37 dX11_feed_23 (by decide) (fun c3 => ?_) (fun c3 => ?_)
      · refine aw_ldc2 (v := -9000000000000000003) hC w_742 dX11_feed_37 ?_
        simp only [bd_def, if_pos c3] at Jc3 ⊢
        exact Jc3
      · refine aw_aload_n hC 0 dX11_feed_26 rfl rfl ?_
        refine aw_getP (b := 13) hC hSt 1 (cs_lt 0 11 0 (by decide) hM) (cs_k 0 11 0 (by decide) hM) rfl (by decide) w_675 rfl (cs_p 0 1 13 (by decide) hM) dX11_feed_27 ?_
        refine aw_cV0r hC hSt (t_X4_bytes G l hM ) w_329 w_746 w_747 w_748 w_351 rfl rfl (by decide +kernel) ⟨Nat.le_of_ble_eq_true rfl, Nat.le_of_ble_eq_true rfl⟩ (cs_lt 13 4 0 (by decide) hM) (cs_k 13 4 0 (by decide) hM) rfl (Nat.le_of_ble_eq_true rfl) dX11_feed_30 ⟨Nat.zero_le _, Nat.zero_le _⟩ ?_
        refine aw_i2l hC dX11_feed_33 ?_
        refine aw_goto hC 40 dX11_feed_34 (by decide) ?_
        simp only [bd_def, if_neg c3] at Jc3 ⊢
        exact Jc3
  · refine aw_ldc2 (v := -9000000000000000001) hC w_710 dX11_feed_10 ?_
    refine aw_lret hC dX11_feed_13 (Nat.le_refl _) (Nat.le_refl _) ?_
    exact FP.qJ ((if_pos c1).trans (rfl))
theorem q_X11_feed (S : HSt) (_o0 : Nat) (a1 : Int64) (a2 : Int32) : shp ((f_X11_feed S _o0 a1 a2).2) = shp S := by
  unfold f_X11_feed
  repeat' (first | with_reducible refine shpr1 ?_ | with_reducible rfl | with_reducible refine (q_X4_append _ _ _ _).trans ?_ | with_reducible refine (shp_sI _ _ _ _).trans ?_ | with_reducible refine (shp_sJ _ _ _ _).trans ?_ | with_reducible refine (shp_rI _ _ _).trans ?_ | with_reducible refine shi ?_ ?_ | with_reducible refine shb (fun _ _ => ?_) | with_reducible refine shiP (fun q : Int64 × HSt => q.2) ?_ ?_ | with_reducible refine shbP (fun q : Int64 × HSt => q.2) (fun _ _ => ?_) | (subst_vars; with_reducible rfl) | (subst_vars; with_reducible refine (q_X4_append _ _ _ _).trans ?_) | (subst_vars; with_reducible refine (shp_sI _ _ _ _).trans ?_) | (subst_vars; with_reducible refine (shp_sJ _ _ _ _).trans ?_) | (subst_vars; with_reducible refine (shp_rI _ _ _).trans ?_) | (subst_vars; with_reducible refine shi ?_ ?_) | (subst_vars; with_reducible refine shb (fun _ _ => ?_)))
theorem v_X11_feed (S : HSt) (_o0 : Nat) (a1 : Int64) (a2 : Int32) : Fr [(13, 2), (14, 1000)] S ((f_X11_feed S _o0 a1 a2).2) := by
  unfold f_X11_feed
  repeat' (first | with_reducible refine frpr1 ?_ | with_reducible exact Fr.refl _ _ | with_reducible refine Fr.lP (fun q : Int64 × HSt => q.2) (fun _ _ => ?_) | with_reducible refine Fr.iteP (fun q : Int64 × HSt => q.2) ?_ ?_ | with_reducible refine Fr.l1 (fun _ _ => ?_) | with_reducible refine Fr.ite ?_ ?_ | with_reducible refine Fr.sE (by assumption) (by first | decide | simp only [List.mem_cons, List.not_mem_nil, or_false, true_or, or_true, eq_self_iff_true]) ?_ | with_reducible refine Fr.jE (by assumption) ?_ | with_reducible refine Fr.rE (by assumption) (by first | decide | simp only [List.mem_cons, List.not_mem_nil, or_false, true_or, or_true, eq_self_iff_true]) ?_ | with_reducible refine Fr.iE (by assumption) ?_ ?_ | with_reducible refine Fr.tr (w_X4_append _ _ _ _ _ (by assumption)) (by first | decide | simp only [List.mem_cons, List.not_mem_nil, or_false, forall_eq_or_imp, forall_eq, true_or, or_true, and_self, eq_self_iff_true]) ?_)
theorem w_X11_feed (S : HSt) (_o0 : Nat) (a1 : Int64) (a2 : Int32) (r : Int64 × HSt) (e : f_X11_feed S _o0 a1 a2 = r) : Fr [(13, 2), (14, 1000)] S r.2 := by
  rw [← e]
  exact v_X11_feed S _o0 a1 a2